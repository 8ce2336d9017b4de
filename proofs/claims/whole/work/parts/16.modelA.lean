-- CanonCoteModel.numbered ()I
section
theorem dX8_numbered_0 : decode cX8_numbered 0 = .ok (.iconst 0, 1) := by decide +kernel
theorem dX8_numbered_1 : decode cX8_numbered 1 = .ok (.istore_n 1, 1) := by decide +kernel
theorem dX8_numbered_2 : decode cX8_numbered 2 = .ok (.iconst 0, 1) := by decide +kernel
theorem dX8_numbered_3 : decode cX8_numbered 3 = .ok (.istore_n 2, 1) := by decide +kernel
theorem dX8_numbered_4 : decode cX8_numbered 4 = .ok (.iload_n 2, 1) := by decide +kernel
theorem dX8_numbered_5 : decode cX8_numbered 5 = .ok (.bipush 8, 2) := by decide +kernel
theorem dX8_numbered_7 : decode cX8_numbered 7 = .ok (.if_icmp .ge 62, 3) := by decide +kernel
theorem dX8_numbered_10 : decode cX8_numbered 10 = .ok (.iconst 0, 1) := by decide +kernel
theorem dX8_numbered_11 : decode cX8_numbered 11 = .ok (.istore_n 3, 1) := by decide +kernel
theorem dX8_numbered_12 : decode cX8_numbered 12 = .ok (.iload_n 2, 1) := by decide +kernel
theorem dX8_numbered_13 : decode cX8_numbered 13 = .ok (.iconst 1, 1) := by decide +kernel
theorem dX8_numbered_14 : decode cX8_numbered 14 = .ok (.iadd, 1) := by decide +kernel
theorem dX8_numbered_15 : decode cX8_numbered 15 = .ok (.istore 4, 2) := by decide +kernel
theorem dX8_numbered_17 : decode cX8_numbered 17 = .ok (.iload 4, 2) := by decide +kernel
theorem dX8_numbered_19 : decode cX8_numbered 19 = .ok (.bipush 8, 2) := by decide +kernel
theorem dX8_numbered_21 : decode cX8_numbered 21 = .ok (.if_icmp .ge 33, 3) := by decide +kernel
theorem dX8_numbered_24 : decode cX8_numbered 24 = .ok (.iload_n 3, 1) := by decide +kernel
theorem dX8_numbered_25 : decode cX8_numbered 25 = .ok (.aload_n 0, 1) := by decide +kernel
theorem dX8_numbered_26 : decode cX8_numbered 26 = .ok (.getfield 48, 3) := by decide +kernel
theorem dX8_numbered_29 : decode cX8_numbered 29 = .ok (.iload 4, 2) := by decide +kernel
theorem dX8_numbered_31 : decode cX8_numbered 31 = .ok (.iaload, 1) := by decide +kernel
theorem dX8_numbered_32 : decode cX8_numbered 32 = .ok (.aload_n 0, 1) := by decide +kernel
theorem dX8_numbered_33 : decode cX8_numbered 33 = .ok (.getfield 48, 3) := by decide +kernel
theorem dX8_numbered_36 : decode cX8_numbered 36 = .ok (.iload_n 2, 1) := by decide +kernel
theorem dX8_numbered_37 : decode cX8_numbered 37 = .ok (.iaload, 1) := by decide +kernel
theorem dX8_numbered_38 : decode cX8_numbered 38 = .ok (.if_icmp .ge 7, 3) := by decide +kernel
theorem dX8_numbered_41 : decode cX8_numbered 41 = .ok (.iconst 1, 1) := by decide +kernel
theorem dX8_numbered_42 : decode cX8_numbered 42 = .ok (.goto 4, 3) := by decide +kernel
theorem dX8_numbered_45 : decode cX8_numbered 45 = .ok (.iconst 0, 1) := by decide +kernel
theorem dX8_numbered_46 : decode cX8_numbered 46 = .ok (.iadd, 1) := by decide +kernel
theorem dX8_numbered_47 : decode cX8_numbered 47 = .ok (.istore_n 3, 1) := by decide +kernel
theorem dX8_numbered_48 : decode cX8_numbered 48 = .ok (.iinc 4 1, 3) := by decide +kernel
theorem dX8_numbered_51 : decode cX8_numbered 51 = .ok (.goto (-34), 3) := by decide +kernel
theorem dX8_numbered_54 : decode cX8_numbered 54 = .ok (.iload_n 1, 1) := by decide +kernel
theorem dX8_numbered_55 : decode cX8_numbered 55 = .ok (.bipush 8, 2) := by decide +kernel
theorem dX8_numbered_57 : decode cX8_numbered 57 = .ok (.iload_n 2, 1) := by decide +kernel
theorem dX8_numbered_58 : decode cX8_numbered 58 = .ok (.isub, 1) := by decide +kernel
theorem dX8_numbered_59 : decode cX8_numbered 59 = .ok (.imul, 1) := by decide +kernel
theorem dX8_numbered_60 : decode cX8_numbered 60 = .ok (.iload_n 3, 1) := by decide +kernel
theorem dX8_numbered_61 : decode cX8_numbered 61 = .ok (.iadd, 1) := by decide +kernel
theorem dX8_numbered_62 : decode cX8_numbered 62 = .ok (.istore_n 1, 1) := by decide +kernel
theorem dX8_numbered_63 : decode cX8_numbered 63 = .ok (.iinc 2 1, 3) := by decide +kernel
theorem dX8_numbered_66 : decode cX8_numbered 66 = .ok (.goto (-62), 3) := by decide +kernel
theorem dX8_numbered_69 : decode cX8_numbered 69 = .ok (.iload_n 1, 1) := by decide +kernel
theorem dX8_numbered_70 : decode cX8_numbered 70 = .ok (.ireturn, 1) := by decide +kernel
theorem in_X8_numbered_CanonCoteModel : ∀ w ∈ u_ws RX8 TX8 17, w ∈ wsX8_numbered := by decide +kernel
theorem wd_X8_numbered_1 : Cond.fieldLink RX8 48 (TX8 15).1 (TX8 15).2.1 (TX8 15).2.2.1 ∈ wsX8_numbered := by decide +kernel
def r_X8_numbered : Room := { frames := 1, cells := 0, slots := 0, locals := 12 }
set_option maxRecDepth 100000 in
set_option maxHeartbeats 4000000 in
theorem w_X8_numbered_46 {K : zK} (hk : zIs K RX8 cX8_numbered 5 wsX8_numbered (some .int) r_X8_numbered) {r0 : Int32} {τ0 : zST} (hq : zQ K (some (.int r0)) τ0) (F : Nat) (k4 : Nat → Int32 → Int32 → zST → Option (Int32 × zST)) (hk4 : ∀ (a0 : Nat) (a1 : Int32) (a2 : Int32) (ha0 : atCanonCoteModel (kZ K) a0) (σ : zST), k4 a0 a1 a2 σ = some (r0, τ0) → Z K 0 0 4 [(0, .ref (eA (kZ K) a0)), (1, .int a1), (2, .int a2)] [] σ) (k17 : Nat → Int32 → Int32 → Int32 → Int32 → zST → Option (Int32 × zST)) (hk17 : ∀ (a0 : Nat) (a1 : Int32) (a2 : Int32) (a3 : Int32) (a4 : Int32) (ha0 : atCanonCoteModel (kZ K) a0) (σ : zST), k17 a0 a1 a2 a3 a4 σ = some (r0, τ0) → Z K 0 0 17 [(0, .ref (eA (kZ K) a0)), (1, .int a1), (2, .int a2), (3, .int a3), (4, .int a4)] [] σ) (a0 : Nat) (a1 : Int32) (a2 : Int32) (a4 : Int32) (t0 : Int32) (t1 : Int32) (ha0 : atCanonCoteModel (kZ K) a0) (σ : zST) (h : m_X8_numbered_46 F k4 k17 a0 a1 a2 a4 t0 t1 σ = some (r0, τ0)) : Z K 0 0 46 [(0, .ref (eA (kZ K) a0)), (1, .int a1), (2, .int a2), (4, .int a4)] [.int t0, .int t1] σ := by
  unfold m_X8_numbered_46 at h
  refine Z_iadd hk dX8_numbered_46 ?_
  obtain ⟨x16, e17, h⟩ := nm_get h
  refine Z_eqI e17 ?_
  refine Z_istore_n hk (lv' := [(3, .int x16), (0, .ref (eA (kZ K) a0)), (1, .int a1), (2, .int a2), (4, .int a4)]) dX8_numbered_47 rfl (by decide) rfl ?_
  obtain ⟨x18, e19, h⟩ := nm_get h
  refine Z_iinc hk 4 (v := x18) (lv' := [(4, .int x18), (3, .int x16), (0, .ref (eA (kZ K) a0)), (1, .int a1), (2, .int a2)]) dX8_numbered_48 rfl (by rw [zc_iinc_1]; exact e19) (by decide) rfl ?_
  refine Z_goto hk (tgt := 17) dX8_numbered_51 (by decide) ?_
  refine Z_sub [2, 3, 4, 1, 0] rfl ?_
  exact hk17 a0 a1 a2 x16 x18 ha0 σ h
set_option maxRecDepth 100000 in
set_option maxHeartbeats 4000000 in
theorem w_X8_numbered_17 {K : zK} (hk : zIs K RX8 cX8_numbered 5 wsX8_numbered (some .int) r_X8_numbered) {r0 : Int32} {τ0 : zST} (hq : zQ K (some (.int r0)) τ0) (F : Nat) (k4 : Nat → Int32 → Int32 → zST → Option (Int32 × zST)) (hk4 : ∀ (a0 : Nat) (a1 : Int32) (a2 : Int32) (ha0 : atCanonCoteModel (kZ K) a0) (σ : zST), k4 a0 a1 a2 σ = some (r0, τ0) → Z K 0 0 4 [(0, .ref (eA (kZ K) a0)), (1, .int a1), (2, .int a2)] [] σ) : ∀ (n : Nat) (a0 : Nat) (a1 : Int32) (a2 : Int32) (a3 : Int32) (a4 : Int32) (ha0 : atCanonCoteModel (kZ K) a0) (σ : zST), m_X8_numbered_17 F k4 n a0 a1 a2 a3 a4 σ = some (r0, τ0) → Z K 0 0 17 [(0, .ref (eA (kZ K) a0)), (1, .int a1), (2, .int a2), (3, .int a3), (4, .int a4)] [] σ := by
  intro n
  induction n with
  | zero => intro a0 a1 a2 a3 a4 ha0 σ h; cases h
  | succ n ih =>
    intro a0 a1 a2 a3 a4 ha0 σ h
    rw [m_X8_numbered_17] at h
    refine Z_iload hk 4 dX8_numbered_17 rfl ?_
    refine Z_bipush hk dX8_numbered_19 zc_bipush_8 ?_
    refine Z_icmp_ge hk (tgt := 54) dX8_numbered_21 (by decide) (fun c4 => ?_) (fun c4 => ?_)
    · have h := if_yes h c4
      refine Z_iload_n hk 1 dX8_numbered_54 rfl rfl ?_
      refine Z_bipush hk dX8_numbered_55 zc_bipush_8 ?_
      refine Z_iload_n hk 2 dX8_numbered_57 rfl rfl ?_
      refine Z_isub hk dX8_numbered_58 ?_
      refine Z_imul hk dX8_numbered_59 ?_
      refine Z_iload_n hk 3 dX8_numbered_60 rfl rfl ?_
      refine Z_iadd hk dX8_numbered_61 ?_
      obtain ⟨x5, e6, h⟩ := nm_get h
      refine Z_eqI e6 ?_
      refine Z_istore_n hk (lv' := [(1, .int x5), (0, .ref (eA (kZ K) a0)), (2, .int a2), (3, .int a3), (4, .int a4)]) dX8_numbered_62 rfl (by decide) rfl ?_
      obtain ⟨x7, e8, h⟩ := nm_get h
      refine Z_iinc hk 2 (v := x7) (lv' := [(2, .int x7), (1, .int x5), (0, .ref (eA (kZ K) a0)), (3, .int a3), (4, .int a4)]) dX8_numbered_63 rfl (by rw [zc_iinc_1]; exact e8) (by decide) rfl ?_
      refine Z_goto hk (tgt := 4) dX8_numbered_66 (by decide) ?_
      refine Z_sub [2, 1, 0] rfl ?_
      exact hk4 a0 x5 x7 ha0 σ h
    · have h := if_no h c4
      refine Z_iload_n hk 3 dX8_numbered_24 rfl rfl ?_
      refine Z_aload_n hk 0 dX8_numbered_25 rfl rfl ?_
      refine Z_get hk in_X8_numbered_CanonCoteModel rfl ha0.cell.1 (ha0.cell.2 _) 15 (by decide) wd_X8_numbered_1 rfl dX8_numbered_26 ?_
      refine Z_iload hk 4 dX8_numbered_29 rfl ?_
      obtain ⟨i11, x9, e10, h⟩ := ldI_get h
      refine Z_iald hk (ha0.images) i11 dX8_numbered_31 ?_
      refine Z_eqI e10 ?_
      refine Z_aload_n hk 0 dX8_numbered_32 rfl rfl ?_
      refine Z_get hk in_X8_numbered_CanonCoteModel rfl ha0.cell.1 (ha0.cell.2 _) 15 (by decide) wd_X8_numbered_1 rfl dX8_numbered_33 ?_
      refine Z_iload_n hk 2 dX8_numbered_36 rfl rfl ?_
      obtain ⟨i14, x12, e13, h⟩ := ldI_get h
      refine Z_iald hk (ha0.images) i14 dX8_numbered_37 ?_
      refine Z_eqI e13 ?_
      refine Z_icmp_ge hk (tgt := 45) dX8_numbered_38 (by decide) (fun c15 => ?_) (fun c15 => ?_)
      · have h := if_yes h c15
        refine Z_iconst hk dX8_numbered_45 zc_iconst_0 ?_
        refine Z_sub [0, 1, 2, 4] rfl ?_
        exact w_X8_numbered_46 hk hq F k4 hk4 (m_X8_numbered_17 F k4 n) ih a0 a1 a2 a4 0 a3 ha0 σ h
      · have h := if_no h c15
        refine Z_iconst hk dX8_numbered_41 zc_iconst_1 ?_
        refine Z_goto hk (tgt := 46) dX8_numbered_42 (by decide) ?_
        refine Z_sub [0, 1, 2, 4] rfl ?_
        exact w_X8_numbered_46 hk hq F k4 hk4 (m_X8_numbered_17 F k4 n) ih a0 a1 a2 a4 1 a3 ha0 σ h
set_option maxRecDepth 100000 in
set_option maxHeartbeats 4000000 in
theorem w_X8_numbered_4 {K : zK} (hk : zIs K RX8 cX8_numbered 5 wsX8_numbered (some .int) r_X8_numbered) {r0 : Int32} {τ0 : zST} (hq : zQ K (some (.int r0)) τ0) (F : Nat) : ∀ (n : Nat) (a0 : Nat) (a1 : Int32) (a2 : Int32) (ha0 : atCanonCoteModel (kZ K) a0) (σ : zST), m_X8_numbered_4 F n a0 a1 a2 σ = some (r0, τ0) → Z K 0 0 4 [(0, .ref (eA (kZ K) a0)), (1, .int a1), (2, .int a2)] [] σ := by
  intro n
  induction n with
  | zero => intro a0 a1 a2 ha0 σ h; cases h
  | succ n ih =>
    intro a0 a1 a2 ha0 σ h
    rw [m_X8_numbered_4] at h
    refine Z_iload_n hk 2 dX8_numbered_4 rfl rfl ?_
    refine Z_bipush hk dX8_numbered_5 zc_bipush_8 ?_
    refine Z_icmp_ge hk (tgt := 69) dX8_numbered_7 (by decide) (fun c1 => ?_) (fun c1 => ?_)
    · have h := if_yes h c1
      refine Z_iload_n hk 1 dX8_numbered_69 rfl rfl ?_
      cases h
      exact Z_iret hk hq dX8_numbered_70
    · have h := if_no h c1
      refine Z_iconst hk dX8_numbered_10 zc_iconst_0 ?_
      refine Z_istore_n hk (lv' := [(3, .int 0), (0, .ref (eA (kZ K) a0)), (1, .int a1), (2, .int a2)]) dX8_numbered_11 rfl (by decide) rfl ?_
      refine Z_iload_n hk 3 dX8_numbered_12 rfl rfl ?_
      refine Z_iconst hk dX8_numbered_13 zc_iconst_1 ?_
      refine Z_iadd hk dX8_numbered_14 ?_
      obtain ⟨x2, e3, h⟩ := nm_get h
      refine Z_eqI e3 ?_
      refine Z_istore hk (lv' := [(4, .int x2), (3, .int 0), (0, .ref (eA (kZ K) a0)), (1, .int a1), (2, .int a2)]) dX8_numbered_15 (by decide) rfl ?_
      refine Z_sub [2, 3, 4, 1, 0] rfl ?_
      exact w_X8_numbered_17 hk hq F (m_X8_numbered_4 F n) ih F a0 a1 a2 0 x2 ha0 σ h
set_option maxRecDepth 100000 in
set_option maxHeartbeats 4000000 in
theorem w_X8_numbered {K : zK} (hk : zIs K RX8 cX8_numbered 5 wsX8_numbered (some .int) r_X8_numbered) {r0 : Int32} {τ0 : zST} (hq : zQ K (some (.int r0)) τ0) (F : Nat) (a0 : Nat) (ha0 : atCanonCoteModel (kZ K) a0) (σ : zST) (h : m_X8_numbered F a0 σ = some (r0, τ0)) : Z K 0 0 0 [(0, .ref (eA (kZ K) a0))] [] σ := by
  unfold m_X8_numbered at h
  refine Z_iconst hk dX8_numbered_0 zc_iconst_0 ?_
  refine Z_istore_n hk (lv' := [(1, .int 0), (0, .ref (eA (kZ K) a0))]) dX8_numbered_1 rfl (by decide) rfl ?_
  refine Z_iconst hk dX8_numbered_2 zc_iconst_0 ?_
  refine Z_istore_n hk (lv' := [(2, .int 0), (1, .int 0), (0, .ref (eA (kZ K) a0))]) dX8_numbered_3 rfl (by decide) rfl ?_
  refine Z_sub [2, 1, 0] rfl ?_
  exact w_X8_numbered_4 hk hq F F a0 0 0 ha0 σ h
theorem c_X8_numbered {l : Launch} {E : zE} (hL : eL E) (hJ : eJ E) (F : Nat) (a0 : Nat) (ha0 : atCanonCoteModel E a0) (σ : zST) {r0 : Int32} {τ0 : zST} (h : m_X8_numbered F a0 σ = some (r0, τ0)) : Ct l yX8_numbered wsX8_numbered r_X8_numbered E [.ref (eA E a0)] σ (some (.int r0)) τ0 := by
  refine Ct_of (by decide) rfl hL hJ (Nat.le_of_ble_eq_true rfl) (fun K hE hl hk hq => ?_)
  subst hE
  exact w_X8_numbered hk hq F a0 ha0 σ h
end

-- CanonCoteModel.finds ()V
section
theorem dX8_finds_0 : decode cX8_finds 0 = .ok (.aload_n 0, 1) := by decide +kernel
theorem dX8_finds_1 : decode cX8_finds 1 = .ok (.invokevirtual 149, 3) := by decide +kernel
theorem dX8_finds_4 : decode cX8_finds 4 = .ok (.istore_n 1, 1) := by decide +kernel
theorem dX8_finds_5 : decode cX8_finds 5 = .ok (.aload_n 0, 1) := by decide +kernel
theorem dX8_finds_6 : decode cX8_finds 6 = .ok (.getfield 44, 3) := by decide +kernel
theorem dX8_finds_9 : decode cX8_finds 9 = .ok (.iload_n 1, 1) := by decide +kernel
theorem dX8_finds_10 : decode cX8_finds 10 = .ok (.baload, 1) := by decide +kernel
theorem dX8_finds_11 : decode cX8_finds 11 = .ok (.ifCond .ne 59, 3) := by decide +kernel
theorem dX8_finds_14 : decode cX8_finds 14 = .ok (.aload_n 0, 1) := by decide +kernel
theorem dX8_finds_15 : decode cX8_finds 15 = .ok (.getfield 44, 3) := by decide +kernel
theorem dX8_finds_18 : decode cX8_finds 18 = .ok (.iload_n 1, 1) := by decide +kernel
theorem dX8_finds_19 : decode cX8_finds 19 = .ok (.iconst 1, 1) := by decide +kernel
theorem dX8_finds_20 : decode cX8_finds 20 = .ok (.bastore, 1) := by decide +kernel
theorem dX8_finds_21 : decode cX8_finds 21 = .ok (.iconst 0, 1) := by decide +kernel
theorem dX8_finds_22 : decode cX8_finds 22 = .ok (.istore_n 2, 1) := by decide +kernel
theorem dX8_finds_23 : decode cX8_finds 23 = .ok (.iconst 0, 1) := by decide +kernel
theorem dX8_finds_24 : decode cX8_finds 24 = .ok (.istore_n 3, 1) := by decide +kernel
theorem dX8_finds_25 : decode cX8_finds 25 = .ok (.iload_n 3, 1) := by decide +kernel
theorem dX8_finds_26 : decode cX8_finds 26 = .ok (.bipush 8, 2) := by decide +kernel
theorem dX8_finds_28 : decode cX8_finds 28 = .ok (.if_icmp .ge 22, 3) := by decide +kernel
theorem dX8_finds_31 : decode cX8_finds 31 = .ok (.iload_n 2, 1) := by decide +kernel
theorem dX8_finds_32 : decode cX8_finds 32 = .ok (.aload_n 0, 1) := by decide +kernel
theorem dX8_finds_33 : decode cX8_finds 33 = .ok (.getfield 48, 3) := by decide +kernel
theorem dX8_finds_36 : decode cX8_finds 36 = .ok (.iload_n 3, 1) := by decide +kernel
theorem dX8_finds_37 : decode cX8_finds 37 = .ok (.iaload, 1) := by decide +kernel
theorem dX8_finds_38 : decode cX8_finds 38 = .ok (.iconst 3, 1) := by decide +kernel
theorem dX8_finds_39 : decode cX8_finds 39 = .ok (.iload_n 3, 1) := by decide +kernel
theorem dX8_finds_40 : decode cX8_finds 40 = .ok (.imul, 1) := by decide +kernel
theorem dX8_finds_41 : decode cX8_finds 41 = .ok (.ishl, 1) := by decide +kernel
theorem dX8_finds_42 : decode cX8_finds 42 = .ok (.ior, 1) := by decide +kernel
theorem dX8_finds_43 : decode cX8_finds 43 = .ok (.istore_n 2, 1) := by decide +kernel
theorem dX8_finds_44 : decode cX8_finds 44 = .ok (.iinc 3 1, 3) := by decide +kernel
theorem dX8_finds_47 : decode cX8_finds 47 = .ok (.goto (-22), 3) := by decide +kernel
theorem dX8_finds_50 : decode cX8_finds 50 = .ok (.aload_n 0, 1) := by decide +kernel
theorem dX8_finds_51 : decode cX8_finds 51 = .ok (.getfield 41, 3) := by decide +kernel
theorem dX8_finds_54 : decode cX8_finds 54 = .ok (.aload_n 0, 1) := by decide +kernel
theorem dX8_finds_55 : decode cX8_finds 55 = .ok (.getfield 153, 3) := by decide +kernel
theorem dX8_finds_58 : decode cX8_finds 58 = .ok (.iload_n 2, 1) := by decide +kernel
theorem dX8_finds_59 : decode cX8_finds 59 = .ok (.iastore, 1) := by decide +kernel
theorem dX8_finds_60 : decode cX8_finds 60 = .ok (.aload_n 0, 1) := by decide +kernel
theorem dX8_finds_61 : decode cX8_finds 61 = .ok (.dup, 1) := by decide +kernel
theorem dX8_finds_62 : decode cX8_finds 62 = .ok (.getfield 153, 3) := by decide +kernel
theorem dX8_finds_65 : decode cX8_finds 65 = .ok (.iconst 1, 1) := by decide +kernel
theorem dX8_finds_66 : decode cX8_finds 66 = .ok (.iadd, 1) := by decide +kernel
theorem dX8_finds_67 : decode cX8_finds 67 = .ok (.putfield 153, 3) := by decide +kernel
theorem dX8_finds_70 : decode cX8_finds 70 = .ok (.return_, 1) := by decide +kernel
set_option maxRecDepth 20000 in
theorem ggX8_finds_X8_numbered : GoodIn wsX8_finds wsX8_numbered := goodIn_r _ [9, 2, 10, 11, 12, 13, 14, 15, 16, 17, 18, 19, 20, 21, 22, 23, 24, 25, 26] (by decide +kernel) (by decide +kernel)
set_option maxRecDepth 20000 in
theorem gX8_finds_X8_numbered : GoodIn wsX8_finds (wsV RX8 149 RX8 yX8_numbered wsX8_numbered) := goodIn_app (goodIn_of _ (by decide +kernel)) ggX8_finds_X8_numbered
theorem in_X8_finds_CanonCoteModel : ∀ w ∈ u_ws RX8 TX8 17, w ∈ wsX8_finds := by decide +kernel
theorem wd_X8_finds_1 : Cond.fieldLink RX8 44 (TX8 13).1 (TX8 13).2.1 (TX8 13).2.2.1 ∈ wsX8_finds := by decide +kernel
theorem wd_X8_finds_2 : Cond.fieldLink RX8 41 (TX8 12).1 (TX8 12).2.1 (TX8 12).2.2.1 ∈ wsX8_finds := by decide +kernel
theorem wd_X8_finds_3 : Cond.fieldLink RX8 153 (TX8 14).1 (TX8 14).2.1 (TX8 14).2.2.1 ∈ wsX8_finds := by decide +kernel
theorem wd_X8_finds_4 : Cond.fieldLink RX8 48 (TX8 15).1 (TX8 15).2.1 (TX8 15).2.2.1 ∈ wsX8_finds := by decide +kernel
def r_X8_finds : Room := { frames := 2, cells := 0, slots := 0, locals := 36 }
set_option maxRecDepth 100000 in
set_option maxHeartbeats 4000000 in
theorem w_X8_finds_25 {K : zK} (hk : zIs K RX8 cX8_finds 4 wsX8_finds none r_X8_finds) {τ0 : zST} (hq : zQ K none τ0) (F : Nat) : ∀ (n : Nat) (a0 : Nat) (a2 : Int32) (a3 : Int32) (ha0 : atCanonCoteModel (kZ K) a0) (σ : zST), m_X8_finds_25 F n a0 a2 a3 σ = some τ0 → Z K 0 0 25 [(0, .ref (eA (kZ K) a0)), (2, .int a2), (3, .int a3)] [] σ := by
  intro n
  induction n with
  | zero => intro a0 a2 a3 ha0 σ h; cases h
  | succ n ih =>
    intro a0 a2 a3 ha0 σ h
    rw [m_X8_finds_25] at h
    refine Z_iload_n hk 2 dX8_finds_25 rfl rfl ?_
    refine Z_bipush hk dX8_finds_26 zc_bipush_8 ?_
    refine Z_icmp_ge hk (tgt := 50) dX8_finds_28 (by decide) (fun c11 => ?_) (fun c11 => ?_)
    · have h := if_yes h c11
      refine Z_aload_n hk 0 dX8_finds_50 rfl rfl ?_
      refine Z_get hk in_X8_finds_CanonCoteModel rfl ha0.cell.1 (ha0.cell.2 _) 12 (by decide) wd_X8_finds_2 rfl dX8_finds_51 ?_
      refine Z_aload_n hk 0 dX8_finds_54 rfl rfl ?_
      refine Z_get hk in_X8_finds_CanonCoteModel rfl ha0.cell.1 (ha0.cell.2 _) 14 (by decide) wd_X8_finds_3 rfl dX8_finds_55 ?_
      refine Z_iload_n hk 1 dX8_finds_58 rfl rfl ?_
      obtain ⟨i14, s12, e13, h⟩ := stI_get h
      refine Z_iast hk (ha0.found) i14 dX8_finds_59 ?_
      refine Z_eqS e13 ?_
      refine Z_aload_n hk 0 dX8_finds_60 rfl rfl ?_
      refine Z_dup hk dX8_finds_61 rfl ?_
      refine Z_get hk in_X8_finds_CanonCoteModel rfl ha0.cell.1 (ha0.cell.2 _) 14 (by decide) wd_X8_finds_3 rfl dX8_finds_62 ?_
      refine Z_iconst hk dX8_finds_65 zc_iconst_1 ?_
      refine Z_iadd hk dX8_finds_66 ?_
      obtain ⟨s15, e16, h⟩ := nm_get h
      refine Z_put hk in_X8_finds_CanonCoteModel tyX8 tok_TX8 tnm_TX8 rfl ha0.cell.1 (ha0.cell.2 _) 14 (by decide) wd_X8_finds_3 rfl (by decide) (Nat.le_of_ble_eq_true rfl) (ha0.put_order _ _) dX8_finds_67 ?_
      refine Z_eqS e16 ?_
      cases h
      exact Z_vret hk hq dX8_finds_70
    · have h := if_no h c11
      refine Z_iload_n hk 1 dX8_finds_31 rfl rfl ?_
      refine Z_aload_n hk 0 dX8_finds_32 rfl rfl ?_
      refine Z_get hk in_X8_finds_CanonCoteModel rfl ha0.cell.1 (ha0.cell.2 _) 15 (by decide) wd_X8_finds_4 rfl dX8_finds_33 ?_
      refine Z_iload_n hk 2 dX8_finds_36 rfl rfl ?_
      obtain ⟨i19, x17, e18, h⟩ := ldI_get h
      refine Z_iald hk (ha0.images) i19 dX8_finds_37 ?_
      refine Z_eqI e18 ?_
      refine Z_iconst hk dX8_finds_38 zc_iconst_3 ?_
      refine Z_iload_n hk 2 dX8_finds_39 rfl rfl ?_
      refine Z_imul hk dX8_finds_40 ?_
      refine Z_ishl hk dX8_finds_41 ?_
      refine Z_ior hk dX8_finds_42 ?_
      obtain ⟨x20, e21, h⟩ := nm_get h
      refine Z_eqI e21 ?_
      refine Z_istore_n hk (lv' := [(2, .int x20), (0, .ref (eA (kZ K) a0)), (3, .int a3)]) dX8_finds_43 rfl (by decide) rfl ?_
      obtain ⟨x22, e23, h⟩ := nm_get h
      refine Z_iinc hk 2 (v := x22) (lv' := [(3, .int x22), (2, .int x20), (0, .ref (eA (kZ K) a0))]) dX8_finds_44 rfl (by rw [zc_iinc_1]; exact e23) (by decide) rfl ?_
      refine Z_goto hk (tgt := 25) dX8_finds_47 (by decide) ?_
      refine Z_sub [2, 1, 0] rfl ?_
      exact ih a0 x20 x22 ha0 σ h
set_option maxRecDepth 100000 in
set_option maxHeartbeats 4000000 in
theorem w_X8_finds {K : zK} (hk : zIs K RX8 cX8_finds 4 wsX8_finds none r_X8_finds) {τ0 : zST} (hq : zQ K none τ0) (F : Nat) (a0 : Nat) (ha0 : atCanonCoteModel (kZ K) a0) (σ : zST) (h : m_X8_finds F a0 σ = some τ0) : Z K 0 0 0 [(0, .ref (eA (kZ K) a0))] [] σ := by
  unfold m_X8_finds at h
  refine Z_aload_n hk 0 dX8_finds_0 rfl rfl ?_
  obtain ⟨x1, s2, h3, h⟩ := bd_ok h
  refine Z_callV 0 hk [] (c_X8_numbered hk.loc hk.inj F a0 ha0 σ h3) gX8_finds_X8_numbered rfl ⟨rfl, rfl⟩ (by decide +kernel) ⟨Nat.le_of_ble_eq_true rfl, Nat.le_of_ble_eq_true rfl⟩ ha0.cell.1 (ha0.cell.2 _) rfl rfl rfl (Nat.le_of_ble_eq_true rfl) ⟨Nat.zero_le _, Nat.zero_le _⟩ dX8_finds_1 ?_
  show Z K 0 0 4 [(0, .ref (eA (kZ K) a0))] [.int x1] s2
  refine Z_istore_n hk (lv' := [(1, .int x1), (0, .ref (eA (kZ K) a0))]) dX8_finds_4 rfl (by decide) rfl ?_
  refine Z_aload_n hk 1 dX8_finds_5 rfl rfl ?_
  refine Z_get hk in_X8_finds_CanonCoteModel rfl ha0.cell.1 (ha0.cell.2 _) 13 (by decide) wd_X8_finds_1 rfl dX8_finds_6 ?_
  refine Z_iload_n hk 0 dX8_finds_9 rfl rfl ?_
  obtain ⟨i6, x4, e5, h⟩ := ldI_get h
  refine Z_zald hk (ha0.has) i6 dX8_finds_10 ?_
  refine Z_eqI e5 ?_
  refine Z_if_ne hk (tgt := 70) dX8_finds_11 (by decide) (fun c7 => ?_) (fun c7 => ?_)
  · have h := if_yes h c7
    refine Z_aload_n hk 1 dX8_finds_14 rfl rfl ?_
    refine Z_get hk in_X8_finds_CanonCoteModel rfl ha0.cell.1 (ha0.cell.2 _) 13 (by decide) wd_X8_finds_1 rfl dX8_finds_15 ?_
    refine Z_iload_n hk 0 dX8_finds_18 rfl rfl ?_
    refine Z_iconst hk dX8_finds_19 zc_iconst_1 ?_
    obtain ⟨i10, s8, e9, h⟩ := stI_get h
    refine Z_zast hk (ha0.has) (by first | rfl | decide) i10 dX8_finds_20 ?_
    refine Z_eqS e9 ?_
    refine Z_iconst hk dX8_finds_21 zc_iconst_0 ?_
    refine Z_istore_n hk (lv' := [(2, .int 0), (1, .int x1), (0, .ref (eA (kZ K) a0))]) dX8_finds_22 rfl (by decide) rfl ?_
    refine Z_iconst hk dX8_finds_23 zc_iconst_0 ?_
    refine Z_istore_n hk (lv' := [(3, .int 0), (2, .int 0), (1, .int x1), (0, .ref (eA (kZ K) a0))]) dX8_finds_24 rfl (by decide) rfl ?_
    refine Z_sub [3, 1, 0] rfl ?_
    exact w_X8_finds_25 hk hq F F a0 0 0 ha0 s8 h
  · have h := if_no h c7
    cases h
    exact Z_vret hk hq dX8_finds_70
theorem c_X8_finds {l : Launch} {E : zE} (hL : eL E) (hJ : eJ E) (F : Nat) (a0 : Nat) (ha0 : atCanonCoteModel E a0) (σ : zST) {τ0 : zST} (h : m_X8_finds F a0 σ = some τ0) : Ct l yX8_finds wsX8_finds r_X8_finds E [.ref (eA E a0)] σ none τ0 := by
  refine Ct_of (by decide) rfl hL hJ (Nat.le_of_ble_eq_true rfl) (fun K hE hl hk hq => ?_)
  subst hE
  exact w_X8_finds hk hq F a0 ha0 σ h
end

-- CanonCoteModel.closes ()V
section
theorem dX8_closes_0 : decode cX8_closes 0 = .ok (.iconst 0, 1) := by decide +kernel
theorem dX8_closes_1 : decode cX8_closes 1 = .ok (.istore_n 1, 1) := by decide +kernel
theorem dX8_closes_2 : decode cX8_closes 2 = .ok (.iload_n 1, 1) := by decide +kernel
theorem dX8_closes_3 : decode cX8_closes 3 = .ok (.ldc 40, 2) := by decide +kernel
theorem dX8_closes_5 : decode cX8_closes 5 = .ok (.if_icmp .ge 16, 3) := by decide +kernel
theorem dX8_closes_8 : decode cX8_closes 8 = .ok (.aload_n 0, 1) := by decide +kernel
theorem dX8_closes_9 : decode cX8_closes 9 = .ok (.getfield 44, 3) := by decide +kernel
theorem dX8_closes_12 : decode cX8_closes 12 = .ok (.iload_n 1, 1) := by decide +kernel
theorem dX8_closes_13 : decode cX8_closes 13 = .ok (.iconst 0, 1) := by decide +kernel
theorem dX8_closes_14 : decode cX8_closes 14 = .ok (.bastore, 1) := by decide +kernel
theorem dX8_closes_15 : decode cX8_closes 15 = .ok (.iinc 1 1, 3) := by decide +kernel
theorem dX8_closes_18 : decode cX8_closes 18 = .ok (.goto (-16), 3) := by decide +kernel
theorem dX8_closes_21 : decode cX8_closes 21 = .ok (.aload_n 0, 1) := by decide +kernel
theorem dX8_closes_22 : decode cX8_closes 22 = .ok (.iconst 0, 1) := by decide +kernel
theorem dX8_closes_23 : decode cX8_closes 23 = .ok (.putfield 153, 3) := by decide +kernel
theorem dX8_closes_26 : decode cX8_closes 26 = .ok (.iconst 0, 1) := by decide +kernel
theorem dX8_closes_27 : decode cX8_closes 27 = .ok (.istore_n 1, 1) := by decide +kernel
theorem dX8_closes_28 : decode cX8_closes 28 = .ok (.iload_n 1, 1) := by decide +kernel
theorem dX8_closes_29 : decode cX8_closes 29 = .ok (.bipush 8, 2) := by decide +kernel
theorem dX8_closes_31 : decode cX8_closes 31 = .ok (.if_icmp .ge 16, 3) := by decide +kernel
theorem dX8_closes_34 : decode cX8_closes 34 = .ok (.aload_n 0, 1) := by decide +kernel
theorem dX8_closes_35 : decode cX8_closes 35 = .ok (.getfield 48, 3) := by decide +kernel
theorem dX8_closes_38 : decode cX8_closes 38 = .ok (.iload_n 1, 1) := by decide +kernel
theorem dX8_closes_39 : decode cX8_closes 39 = .ok (.iload_n 1, 1) := by decide +kernel
theorem dX8_closes_40 : decode cX8_closes 40 = .ok (.iastore, 1) := by decide +kernel
theorem dX8_closes_41 : decode cX8_closes 41 = .ok (.iinc 1 1, 3) := by decide +kernel
theorem dX8_closes_44 : decode cX8_closes 44 = .ok (.goto (-16), 3) := by decide +kernel
theorem dX8_closes_47 : decode cX8_closes 47 = .ok (.aload_n 0, 1) := by decide +kernel
theorem dX8_closes_48 : decode cX8_closes 48 = .ok (.invokevirtual 156, 3) := by decide +kernel
theorem dX8_closes_51 : decode cX8_closes 51 = .ok (.iconst 0, 1) := by decide +kernel
theorem dX8_closes_52 : decode cX8_closes 52 = .ok (.istore_n 1, 1) := by decide +kernel
theorem dX8_closes_53 : decode cX8_closes 53 = .ok (.iload_n 1, 1) := by decide +kernel
theorem dX8_closes_54 : decode cX8_closes 54 = .ok (.aload_n 0, 1) := by decide +kernel
theorem dX8_closes_55 : decode cX8_closes 55 = .ok (.getfield 153, 3) := by decide +kernel
theorem dX8_closes_58 : decode cX8_closes 58 = .ok (.if_icmp .ge 72, 3) := by decide +kernel
theorem dX8_closes_61 : decode cX8_closes 61 = .ok (.iconst 0, 1) := by decide +kernel
theorem dX8_closes_62 : decode cX8_closes 62 = .ok (.istore_n 2, 1) := by decide +kernel
theorem dX8_closes_63 : decode cX8_closes 63 = .ok (.iload_n 2, 1) := by decide +kernel
theorem dX8_closes_64 : decode cX8_closes 64 = .ok (.aload_n 0, 1) := by decide +kernel
theorem dX8_closes_65 : decode cX8_closes 65 = .ok (.getfield 159, 3) := by decide +kernel
theorem dX8_closes_68 : decode cX8_closes 68 = .ok (.if_icmp .ge 56, 3) := by decide +kernel
theorem dX8_closes_71 : decode cX8_closes 71 = .ok (.iconst 0, 1) := by decide +kernel
theorem dX8_closes_72 : decode cX8_closes 72 = .ok (.istore_n 3, 1) := by decide +kernel
theorem dX8_closes_73 : decode cX8_closes 73 = .ok (.iload_n 3, 1) := by decide +kernel
theorem dX8_closes_74 : decode cX8_closes 74 = .ok (.bipush 8, 2) := by decide +kernel
theorem dX8_closes_76 : decode cX8_closes 76 = .ok (.if_icmp .ge 38, 3) := by decide +kernel
theorem dX8_closes_79 : decode cX8_closes 79 = .ok (.aload_n 0, 1) := by decide +kernel
theorem dX8_closes_80 : decode cX8_closes 80 = .ok (.getfield 48, 3) := by decide +kernel
theorem dX8_closes_83 : decode cX8_closes 83 = .ok (.iload_n 3, 1) := by decide +kernel
theorem dX8_closes_84 : decode cX8_closes 84 = .ok (.aload_n 0, 1) := by decide +kernel
theorem dX8_closes_85 : decode cX8_closes 85 = .ok (.getfield 37, 3) := by decide +kernel
theorem dX8_closes_88 : decode cX8_closes 88 = .ok (.bipush 8, 2) := by decide +kernel
theorem dX8_closes_90 : decode cX8_closes 90 = .ok (.iload_n 2, 1) := by decide +kernel
theorem dX8_closes_91 : decode cX8_closes 91 = .ok (.imul, 1) := by decide +kernel
theorem dX8_closes_92 : decode cX8_closes 92 = .ok (.aload_n 0, 1) := by decide +kernel
theorem dX8_closes_93 : decode cX8_closes 93 = .ok (.getfield 41, 3) := by decide +kernel
theorem dX8_closes_96 : decode cX8_closes 96 = .ok (.iload_n 1, 1) := by decide +kernel
theorem dX8_closes_97 : decode cX8_closes 97 = .ok (.iaload, 1) := by decide +kernel
theorem dX8_closes_98 : decode cX8_closes 98 = .ok (.iconst 3, 1) := by decide +kernel
theorem dX8_closes_99 : decode cX8_closes 99 = .ok (.iload_n 3, 1) := by decide +kernel
theorem dX8_closes_100 : decode cX8_closes 100 = .ok (.imul, 1) := by decide +kernel
theorem dX8_closes_101 : decode cX8_closes 101 = .ok (.ishr, 1) := by decide +kernel
theorem dX8_closes_102 : decode cX8_closes 102 = .ok (.bipush 7, 2) := by decide +kernel
theorem dX8_closes_104 : decode cX8_closes 104 = .ok (.iand, 1) := by decide +kernel
theorem dX8_closes_105 : decode cX8_closes 105 = .ok (.iadd, 1) := by decide +kernel
theorem dX8_closes_106 : decode cX8_closes 106 = .ok (.iaload, 1) := by decide +kernel
theorem dX8_closes_107 : decode cX8_closes 107 = .ok (.iastore, 1) := by decide +kernel
theorem dX8_closes_108 : decode cX8_closes 108 = .ok (.iinc 3 1, 3) := by decide +kernel
theorem dX8_closes_111 : decode cX8_closes 111 = .ok (.goto (-38), 3) := by decide +kernel
theorem dX8_closes_114 : decode cX8_closes 114 = .ok (.aload_n 0, 1) := by decide +kernel
theorem dX8_closes_115 : decode cX8_closes 115 = .ok (.invokevirtual 156, 3) := by decide +kernel
theorem dX8_closes_118 : decode cX8_closes 118 = .ok (.iinc 2 1, 3) := by decide +kernel
theorem dX8_closes_121 : decode cX8_closes 121 = .ok (.goto (-58), 3) := by decide +kernel
theorem dX8_closes_124 : decode cX8_closes 124 = .ok (.iinc 1 1, 3) := by decide +kernel
theorem dX8_closes_127 : decode cX8_closes 127 = .ok (.goto (-74), 3) := by decide +kernel
theorem dX8_closes_130 : decode cX8_closes 130 = .ok (.return_, 1) := by decide +kernel
set_option maxRecDepth 20000 in
theorem ggX8_closes_X8_finds : GoodIn wsX8_closes wsX8_finds := goodIn_r _ [12, 2, 4, 7, 3, 13, 14, 15, 11, 16, 17, 18, 19, 20, 21, 22, 23, 24, 25, 26, 27, 28, 29, 30, 31, 32, 33] (by decide +kernel) (by decide +kernel)
set_option maxRecDepth 20000 in
theorem gX8_closes_X8_finds : GoodIn wsX8_closes (wsV RX8 156 RX8 yX8_finds wsX8_finds) := goodIn_app (goodIn_of _ (by decide +kernel)) ggX8_closes_X8_finds
theorem wd_X8_closes_0 : Cond.constant RX8 40 40320 ∈ wsX8_closes := by decide +kernel
theorem in_X8_closes_CanonCoteModel : ∀ w ∈ u_ws RX8 TX8 17, w ∈ wsX8_closes := by decide +kernel
theorem wd_X8_closes_2 : Cond.fieldLink RX8 153 (TX8 14).1 (TX8 14).2.1 (TX8 14).2.2.1 ∈ wsX8_closes := by decide +kernel
theorem wd_X8_closes_3 : Cond.fieldLink RX8 44 (TX8 13).1 (TX8 13).2.1 (TX8 13).2.2.1 ∈ wsX8_closes := by decide +kernel
theorem wd_X8_closes_4 : Cond.fieldLink RX8 48 (TX8 15).1 (TX8 15).2.1 (TX8 15).2.2.1 ∈ wsX8_closes := by decide +kernel
theorem wd_X8_closes_5 : Cond.fieldLink RX8 159 (TX8 11).1 (TX8 11).2.1 (TX8 11).2.2.1 ∈ wsX8_closes := by decide +kernel
theorem wd_X8_closes_6 : Cond.fieldLink RX8 37 (TX8 10).1 (TX8 10).2.1 (TX8 10).2.2.1 ∈ wsX8_closes := by decide +kernel
theorem wd_X8_closes_7 : Cond.fieldLink RX8 41 (TX8 12).1 (TX8 12).2.1 (TX8 12).2.2.1 ∈ wsX8_closes := by decide +kernel
def r_X8_closes : Room := { frames := 3, cells := 0, slots := 0, locals := 59 }
set_option maxRecDepth 100000 in
set_option maxHeartbeats 4000000 in
theorem w_X8_closes_73 {K : zK} (hk : zIs K RX8 cX8_closes 4 wsX8_closes none r_X8_closes) {τ0 : zST} (hq : zQ K none τ0) (F : Nat) (k53 : Nat → Int32 → zST → Option zST) (hk53 : ∀ (a0 : Nat) (a1 : Int32) (ha0 : atCanonCoteModel (kZ K) a0) (σ : zST), k53 a0 a1 σ = some τ0 → Z K 0 0 53 [(0, .ref (eA (kZ K) a0)), (1, .int a1)] [] σ) (k63 : Nat → Int32 → Int32 → zST → Option zST) (hk63 : ∀ (a0 : Nat) (a1 : Int32) (a2 : Int32) (ha0 : atCanonCoteModel (kZ K) a0) (σ : zST), k63 a0 a1 a2 σ = some τ0 → Z K 0 0 63 [(0, .ref (eA (kZ K) a0)), (1, .int a1), (2, .int a2)] [] σ) : ∀ (n : Nat) (a0 : Nat) (a1 : Int32) (a2 : Int32) (a3 : Int32) (ha0 : atCanonCoteModel (kZ K) a0) (σ : zST), m_X8_closes_73 F k53 k63 n a0 a1 a2 a3 σ = some τ0 → Z K 0 0 73 [(0, .ref (eA (kZ K) a0)), (1, .int a1), (2, .int a2), (3, .int a3)] [] σ := by
  intro n
  induction n with
  | zero => intro a0 a1 a2 a3 ha0 σ h; cases h
  | succ n ih =>
    intro a0 a1 a2 a3 ha0 σ h
    rw [m_X8_closes_73] at h
    refine Z_iload_n hk 3 dX8_closes_73 rfl rfl ?_
    refine Z_bipush hk dX8_closes_74 zc_bipush_8 ?_
    refine Z_icmp_ge hk (tgt := 114) dX8_closes_76 (by decide) (fun c22 => ?_) (fun c22 => ?_)
    · have h := if_yes h c22
      refine Z_aload_n hk 0 dX8_closes_114 rfl rfl ?_
      obtain ⟨s24, h25, h⟩ := bv_ok h
      refine Z_callV 0 hk [] (c_X8_finds hk.loc hk.inj F a0 ha0 σ h25) gX8_closes_X8_finds rfl ⟨rfl, rfl⟩ (by decide +kernel) ⟨Nat.le_of_ble_eq_true rfl, Nat.le_of_ble_eq_true rfl⟩ ha0.cell.1 (ha0.cell.2 _) rfl rfl rfl (Nat.le_of_ble_eq_true rfl) ⟨Nat.zero_le _, Nat.zero_le _⟩ dX8_closes_115 ?_
      show Z K 0 0 118 [(0, .ref (eA (kZ K) a0)), (1, .int a1), (2, .int a2), (3, .int a3)] [] s24
      obtain ⟨x26, e27, h⟩ := nm_get h
      refine Z_iinc hk 2 (v := x26) (lv' := [(2, .int x26), (0, .ref (eA (kZ K) a0)), (1, .int a1), (3, .int a3)]) dX8_closes_118 rfl (by rw [zc_iinc_1]; exact e27) (by decide) rfl ?_
      refine Z_goto hk (tgt := 63) dX8_closes_121 (by decide) ?_
      refine Z_sub [1, 2, 0] rfl ?_
      exact hk63 a0 a1 x26 ha0 s24 h
    · have h := if_no h c22
      refine Z_aload_n hk 0 dX8_closes_79 rfl rfl ?_
      refine Z_get hk in_X8_closes_CanonCoteModel rfl ha0.cell.1 (ha0.cell.2 _) 15 (by decide) wd_X8_closes_4 rfl dX8_closes_80 ?_
      refine Z_iload_n hk 3 dX8_closes_83 rfl rfl ?_
      refine Z_aload_n hk 0 dX8_closes_84 rfl rfl ?_
      refine Z_get hk in_X8_closes_CanonCoteModel rfl ha0.cell.1 (ha0.cell.2 _) 10 (by decide) wd_X8_closes_6 rfl dX8_closes_85 ?_
      refine Z_bipush hk dX8_closes_88 zc_bipush_8 ?_
      refine Z_iload_n hk 2 dX8_closes_90 rfl rfl ?_
      refine Z_imul hk dX8_closes_91 ?_
      refine Z_aload_n hk 0 dX8_closes_92 rfl rfl ?_
      refine Z_get hk in_X8_closes_CanonCoteModel rfl ha0.cell.1 (ha0.cell.2 _) 12 (by decide) wd_X8_closes_7 rfl dX8_closes_93 ?_
      refine Z_iload_n hk 1 dX8_closes_96 rfl rfl ?_
      obtain ⟨i30, x28, e29, h⟩ := ldI_get h
      refine Z_iald hk (ha0.found) i30 dX8_closes_97 ?_
      refine Z_eqI e29 ?_
      refine Z_iconst hk dX8_closes_98 zc_iconst_3 ?_
      refine Z_iload_n hk 3 dX8_closes_99 rfl rfl ?_
      refine Z_imul hk dX8_closes_100 ?_
      refine Z_ishr hk dX8_closes_101 ?_
      refine Z_bipush hk dX8_closes_102 zc_bipush_7 ?_
      refine Z_iand hk dX8_closes_104 ?_
      refine Z_iadd hk dX8_closes_105 ?_
      obtain ⟨i33, x31, e32, h⟩ := ldI_get h
      refine Z_iald hk (ha0.generators) i33 dX8_closes_106 ?_
      refine Z_eqI e32 ?_
      obtain ⟨i36, s34, e35, h⟩ := stI_get h
      refine Z_iast hk (ha0.images) i36 dX8_closes_107 ?_
      refine Z_eqS e35 ?_
      obtain ⟨x37, e38, h⟩ := nm_get h
      refine Z_iinc hk 3 (v := x37) (lv' := [(3, .int x37), (0, .ref (eA (kZ K) a0)), (1, .int a1), (2, .int a2)]) dX8_closes_108 rfl (by rw [zc_iinc_1]; exact e38) (by decide) rfl ?_
      refine Z_goto hk (tgt := 73) dX8_closes_111 (by decide) ?_
      refine Z_sub [1, 2, 3, 0] rfl ?_
      exact ih a0 a1 a2 x37 ha0 s34 h
set_option maxRecDepth 100000 in
set_option maxHeartbeats 4000000 in
theorem w_X8_closes_63 {K : zK} (hk : zIs K RX8 cX8_closes 4 wsX8_closes none r_X8_closes) {τ0 : zST} (hq : zQ K none τ0) (F : Nat) (k53 : Nat → Int32 → zST → Option zST) (hk53 : ∀ (a0 : Nat) (a1 : Int32) (ha0 : atCanonCoteModel (kZ K) a0) (σ : zST), k53 a0 a1 σ = some τ0 → Z K 0 0 53 [(0, .ref (eA (kZ K) a0)), (1, .int a1)] [] σ) : ∀ (n : Nat) (a0 : Nat) (a1 : Int32) (a2 : Int32) (ha0 : atCanonCoteModel (kZ K) a0) (σ : zST), m_X8_closes_63 F k53 n a0 a1 a2 σ = some τ0 → Z K 0 0 63 [(0, .ref (eA (kZ K) a0)), (1, .int a1), (2, .int a2)] [] σ := by
  intro n
  induction n with
  | zero => intro a0 a1 a2 ha0 σ h; cases h
  | succ n ih =>
    intro a0 a1 a2 ha0 σ h
    rw [m_X8_closes_63] at h
    refine Z_iload_n hk 2 dX8_closes_63 rfl rfl ?_
    refine Z_aload_n hk 0 dX8_closes_64 rfl rfl ?_
    refine Z_get hk in_X8_closes_CanonCoteModel rfl ha0.cell.1 (ha0.cell.2 _) 11 (by decide) wd_X8_closes_5 rfl dX8_closes_65 ?_
    refine Z_icmp_ge hk (tgt := 124) dX8_closes_68 (by decide) (fun c19 => ?_) (fun c19 => ?_)
    · have h := if_yes h c19
      obtain ⟨x20, e21, h⟩ := nm_get h
      refine Z_iinc hk 1 (v := x20) (lv' := [(1, .int x20), (0, .ref (eA (kZ K) a0)), (2, .int a2)]) dX8_closes_124 rfl (by rw [zc_iinc_1]; exact e21) (by decide) rfl ?_
      refine Z_goto hk (tgt := 53) dX8_closes_127 (by decide) ?_
      refine Z_sub [1, 0] rfl ?_
      exact hk53 a0 x20 ha0 σ h
    · have h := if_no h c19
      refine Z_iconst hk dX8_closes_71 zc_iconst_0 ?_
      refine Z_istore_n hk (lv' := [(3, .int 0), (0, .ref (eA (kZ K) a0)), (1, .int a1), (2, .int a2)]) dX8_closes_72 rfl (by decide) rfl ?_
      refine Z_sub [1, 2, 3, 0] rfl ?_
      exact w_X8_closes_73 hk hq F k53 hk53 (m_X8_closes_63 F k53 n) ih F a0 a1 a2 0 ha0 σ h
set_option maxRecDepth 100000 in
set_option maxHeartbeats 4000000 in
theorem w_X8_closes_53 {K : zK} (hk : zIs K RX8 cX8_closes 4 wsX8_closes none r_X8_closes) {τ0 : zST} (hq : zQ K none τ0) (F : Nat) : ∀ (n : Nat) (a0 : Nat) (a1 : Int32) (ha0 : atCanonCoteModel (kZ K) a0) (σ : zST), m_X8_closes_53 F n a0 a1 σ = some τ0 → Z K 0 0 53 [(0, .ref (eA (kZ K) a0)), (1, .int a1)] [] σ := by
  intro n
  induction n with
  | zero => intro a0 a1 ha0 σ h; cases h
  | succ n ih =>
    intro a0 a1 ha0 σ h
    rw [m_X8_closes_53] at h
    refine Z_iload_n hk 1 dX8_closes_53 rfl rfl ?_
    refine Z_aload_n hk 0 dX8_closes_54 rfl rfl ?_
    refine Z_get hk in_X8_closes_CanonCoteModel rfl ha0.cell.1 (ha0.cell.2 _) 14 (by decide) wd_X8_closes_2 rfl dX8_closes_55 ?_
    refine Z_icmp_ge hk (tgt := 130) dX8_closes_58 (by decide) (fun c18 => ?_) (fun c18 => ?_)
    · have h := if_yes h c18
      cases h
      exact Z_vret hk hq dX8_closes_130
    · have h := if_no h c18
      refine Z_iconst hk dX8_closes_61 zc_iconst_0 ?_
      refine Z_istore_n hk (lv' := [(2, .int 0), (0, .ref (eA (kZ K) a0)), (1, .int a1)]) dX8_closes_62 rfl (by decide) rfl ?_
      refine Z_sub [1, 2, 0] rfl ?_
      exact w_X8_closes_63 hk hq F (m_X8_closes_53 F n) ih F a0 a1 0 ha0 σ h
set_option maxRecDepth 100000 in
set_option maxHeartbeats 4000000 in
theorem w_X8_closes_28 {K : zK} (hk : zIs K RX8 cX8_closes 4 wsX8_closes none r_X8_closes) {τ0 : zST} (hq : zQ K none τ0) (F : Nat) : ∀ (n : Nat) (a0 : Nat) (a1 : Int32) (ha0 : atCanonCoteModel (kZ K) a0) (σ : zST), m_X8_closes_28 F n a0 a1 σ = some τ0 → Z K 0 0 28 [(0, .ref (eA (kZ K) a0)), (1, .int a1)] [] σ := by
  intro n
  induction n with
  | zero => intro a0 a1 ha0 σ h; cases h
  | succ n ih =>
    intro a0 a1 ha0 σ h
    rw [m_X8_closes_28] at h
    refine Z_iload_n hk 1 dX8_closes_28 rfl rfl ?_
    refine Z_bipush hk dX8_closes_29 zc_bipush_8 ?_
    refine Z_icmp_ge hk (tgt := 47) dX8_closes_31 (by decide) (fun c9 => ?_) (fun c9 => ?_)
    · have h := if_yes h c9
      refine Z_aload_n hk 0 dX8_closes_47 rfl rfl ?_
      obtain ⟨s11, h12, h⟩ := bv_ok h
      refine Z_callV 0 hk [] (c_X8_finds hk.loc hk.inj F a0 ha0 σ h12) gX8_closes_X8_finds rfl ⟨rfl, rfl⟩ (by decide +kernel) ⟨Nat.le_of_ble_eq_true rfl, Nat.le_of_ble_eq_true rfl⟩ ha0.cell.1 (ha0.cell.2 _) rfl rfl rfl (Nat.le_of_ble_eq_true rfl) ⟨Nat.zero_le _, Nat.zero_le _⟩ dX8_closes_48 ?_
      show Z K 0 0 51 [(0, .ref (eA (kZ K) a0)), (1, .int a1)] [] s11
      refine Z_iconst hk dX8_closes_51 zc_iconst_0 ?_
      refine Z_istore_n hk (lv' := [(1, .int 0), (0, .ref (eA (kZ K) a0))]) dX8_closes_52 rfl (by decide) rfl ?_
      refine Z_sub [1, 0] rfl ?_
      exact w_X8_closes_53 hk hq F F a0 0 ha0 s11 h
    · have h := if_no h c9
      refine Z_aload_n hk 0 dX8_closes_34 rfl rfl ?_
      refine Z_get hk in_X8_closes_CanonCoteModel rfl ha0.cell.1 (ha0.cell.2 _) 15 (by decide) wd_X8_closes_4 rfl dX8_closes_35 ?_
      refine Z_iload_n hk 1 dX8_closes_38 rfl rfl ?_
      refine Z_iload_n hk 1 dX8_closes_39 rfl rfl ?_
      obtain ⟨i15, s13, e14, h⟩ := stI_get h
      refine Z_iast hk (ha0.images) i15 dX8_closes_40 ?_
      refine Z_eqS e14 ?_
      obtain ⟨x16, e17, h⟩ := nm_get h
      refine Z_iinc hk 1 (v := x16) (lv' := [(1, .int x16), (0, .ref (eA (kZ K) a0))]) dX8_closes_41 rfl (by rw [zc_iinc_1]; exact e17) (by decide) rfl ?_
      refine Z_goto hk (tgt := 28) dX8_closes_44 (by decide) ?_
      refine Z_sub [1, 0] rfl ?_
      exact ih a0 x16 ha0 s13 h
set_option maxRecDepth 100000 in
set_option maxHeartbeats 4000000 in
theorem w_X8_closes_2 {K : zK} (hk : zIs K RX8 cX8_closes 4 wsX8_closes none r_X8_closes) {τ0 : zST} (hq : zQ K none τ0) (F : Nat) : ∀ (n : Nat) (a0 : Nat) (a1 : Int32) (ha0 : atCanonCoteModel (kZ K) a0) (σ : zST), m_X8_closes_2 F n a0 a1 σ = some τ0 → Z K 0 0 2 [(0, .ref (eA (kZ K) a0)), (1, .int a1)] [] σ := by
  intro n
  induction n with
  | zero => intro a0 a1 ha0 σ h; cases h
  | succ n ih =>
    intro a0 a1 ha0 σ h
    rw [m_X8_closes_2] at h
    refine Z_iload_n hk 1 dX8_closes_2 rfl rfl ?_
    refine Z_ldc hk (v := 40320) dX8_closes_3 wd_X8_closes_0 ?_
    refine Z_icmp_ge hk (tgt := 21) dX8_closes_5 (by decide) (fun c1 => ?_) (fun c1 => ?_)
    · have h := if_yes h c1
      refine Z_aload_n hk 0 dX8_closes_21 rfl rfl ?_
      refine Z_iconst hk dX8_closes_22 zc_iconst_0 ?_
      obtain ⟨s2, e3, h⟩ := nm_get h
      refine Z_put hk in_X8_closes_CanonCoteModel tyX8 tok_TX8 tnm_TX8 rfl ha0.cell.1 (ha0.cell.2 _) 14 (by decide) wd_X8_closes_2 rfl (by decide) (Nat.le_of_ble_eq_true rfl) (ha0.put_order _ _) dX8_closes_23 ?_
      refine Z_eqS e3 ?_
      refine Z_iconst hk dX8_closes_26 zc_iconst_0 ?_
      refine Z_istore_n hk (lv' := [(1, .int 0), (0, .ref (eA (kZ K) a0))]) dX8_closes_27 rfl (by decide) rfl ?_
      refine Z_sub [1, 0] rfl ?_
      exact w_X8_closes_28 hk hq F F a0 0 ha0 s2 h
    · have h := if_no h c1
      refine Z_aload_n hk 0 dX8_closes_8 rfl rfl ?_
      refine Z_get hk in_X8_closes_CanonCoteModel rfl ha0.cell.1 (ha0.cell.2 _) 13 (by decide) wd_X8_closes_3 rfl dX8_closes_9 ?_
      refine Z_iload_n hk 1 dX8_closes_12 rfl rfl ?_
      refine Z_iconst hk dX8_closes_13 zc_iconst_0 ?_
      obtain ⟨i6, s4, e5, h⟩ := stI_get h
      refine Z_zast hk (ha0.has) (by first | rfl | decide) i6 dX8_closes_14 ?_
      refine Z_eqS e5 ?_
      obtain ⟨x7, e8, h⟩ := nm_get h
      refine Z_iinc hk 1 (v := x7) (lv' := [(1, .int x7), (0, .ref (eA (kZ K) a0))]) dX8_closes_15 rfl (by rw [zc_iinc_1]; exact e8) (by decide) rfl ?_
      refine Z_goto hk (tgt := 2) dX8_closes_18 (by decide) ?_
      refine Z_sub [1, 0] rfl ?_
      exact ih a0 x7 ha0 s4 h
set_option maxRecDepth 100000 in
set_option maxHeartbeats 4000000 in
theorem w_X8_closes {K : zK} (hk : zIs K RX8 cX8_closes 4 wsX8_closes none r_X8_closes) {τ0 : zST} (hq : zQ K none τ0) (F : Nat) (a0 : Nat) (ha0 : atCanonCoteModel (kZ K) a0) (σ : zST) (h : m_X8_closes F a0 σ = some τ0) : Z K 0 0 0 [(0, .ref (eA (kZ K) a0))] [] σ := by
  unfold m_X8_closes at h
  refine Z_iconst hk dX8_closes_0 zc_iconst_0 ?_
  refine Z_istore_n hk (lv' := [(1, .int 0), (0, .ref (eA (kZ K) a0))]) dX8_closes_1 rfl (by decide) rfl ?_
  refine Z_sub [1, 0] rfl ?_
  exact w_X8_closes_2 hk hq F F a0 0 ha0 σ h
theorem c_X8_closes {l : Launch} {E : zE} (hL : eL E) (hJ : eJ E) (F : Nat) (a0 : Nat) (ha0 : atCanonCoteModel E a0) (σ : zST) {τ0 : zST} (h : m_X8_closes F a0 σ = some τ0) : Ct l yX8_closes wsX8_closes r_X8_closes E [.ref (eA E a0)] σ none τ0 := by
  refine Ct_of (by decide) rfl hL hJ (Nat.le_of_ble_eq_true rfl) (fun K hE hl hk hq => ?_)
  subst hE
  exact w_X8_closes hk hq F a0 ha0 σ h
end

-- CanonCoteModel.thrown ()I
section
theorem dX8_thrown_0 : decode cX8_thrown 0 = .ok (.aload_n 0, 1) := by decide +kernel
theorem dX8_thrown_1 : decode cX8_thrown 1 = .ok (.getfield 54, 3) := by decide +kernel
theorem dX8_thrown_4 : decode cX8_thrown 4 = .ok (.ireturn, 1) := by decide +kernel
theorem in_X8_thrown_CanonCoteModel : ∀ w ∈ u_ws RX8 TX8 17, w ∈ wsX8_thrown := by decide +kernel
theorem wd_X8_thrown_1 : Cond.fieldLink RX8 54 (TX8 16).1 (TX8 16).2.1 (TX8 16).2.2.1 ∈ wsX8_thrown := by decide +kernel
def r_X8_thrown : Room := { frames := 1, cells := 0, slots := 0, locals := 12 }
set_option maxRecDepth 100000 in
set_option maxHeartbeats 4000000 in
theorem w_X8_thrown {K : zK} (hk : zIs K RX8 cX8_thrown 1 wsX8_thrown (some .int) r_X8_thrown) {r0 : Int32} {τ0 : zST} (hq : zQ K (some (.int r0)) τ0) (F : Nat) (a0 : Nat) (ha0 : atCanonCoteModel (kZ K) a0) (σ : zST) (h : m_X8_thrown F a0 σ = some (r0, τ0)) : Z K 0 0 0 [(0, .ref (eA (kZ K) a0))] [] σ := by
  unfold m_X8_thrown at h
  refine Z_aload_n hk 0 dX8_thrown_0 rfl rfl ?_
  refine Z_get hk in_X8_thrown_CanonCoteModel rfl ha0.cell.1 (ha0.cell.2 _) 16 (by decide) wd_X8_thrown_1 rfl dX8_thrown_1 ?_
  cases h
  exact Z_iret hk hq dX8_thrown_4
theorem c_X8_thrown {l : Launch} {E : zE} (hL : eL E) (hJ : eJ E) (F : Nat) (a0 : Nat) (ha0 : atCanonCoteModel E a0) (σ : zST) {r0 : Int32} {τ0 : zST} (h : m_X8_thrown F a0 σ = some (r0, τ0)) : Ct l yX8_thrown wsX8_thrown r_X8_thrown E [.ref (eA E a0)] σ (some (.int r0)) τ0 := by
  refine Ct_of (by decide) rfl hL hJ (Nat.le_of_ble_eq_true rfl) (fun K hE hl hk hq => ?_)
  subst hE
  exact w_X8_thrown hk hq F a0 ha0 σ h
end

-- CanonCoteModel.in (III)Z
section
theorem dX8_in_0 : decode cX8_in 0 = .ok (.iload_n 0, 1) := by decide +kernel
theorem dX8_in_1 : decode cX8_in 1 = .ok (.iload_n 1, 1) := by decide +kernel
theorem dX8_in_2 : decode cX8_in 2 = .ok (.if_icmp .lt 12, 3) := by decide +kernel
theorem dX8_in_5 : decode cX8_in 5 = .ok (.iload_n 0, 1) := by decide +kernel
theorem dX8_in_6 : decode cX8_in 6 = .ok (.iload_n 2, 1) := by decide +kernel
theorem dX8_in_7 : decode cX8_in 7 = .ok (.if_icmp .gt 7, 3) := by decide +kernel
theorem dX8_in_10 : decode cX8_in 10 = .ok (.iconst 1, 1) := by decide +kernel
theorem dX8_in_11 : decode cX8_in 11 = .ok (.goto 4, 3) := by decide +kernel
theorem dX8_in_14 : decode cX8_in 14 = .ok (.iconst 0, 1) := by decide +kernel
theorem dX8_in_15 : decode cX8_in 15 = .ok (.ireturn, 1) := by decide +kernel
def r_X8_in : Room := { frames := 1, cells := 0, slots := 0, locals := 12 }
set_option maxRecDepth 100000 in
set_option maxHeartbeats 4000000 in
theorem w_X8_in_14 {K : zK} (hk : zIs K RX8 cX8_in 3 wsX8_in (some .boolean) r_X8_in) {r0 : Int32} {τ0 : zST} (hq : zQ K (some (.int r0)) τ0) (F : Nat)  (σ : zST) (h : m_X8_in_14 F σ = some (r0, τ0)) : Z K 0 0 14 [] [] σ := by
  unfold m_X8_in_14 at h
  refine Z_iconst hk dX8_in_14 zc_iconst_0 ?_
  cases h
  exact Z_zret hk (by decide) hq dX8_in_15
set_option maxRecDepth 100000 in
set_option maxHeartbeats 4000000 in
theorem w_X8_in {K : zK} (hk : zIs K RX8 cX8_in 3 wsX8_in (some .boolean) r_X8_in) {r0 : Int32} {τ0 : zST} (hq : zQ K (some (.int r0)) τ0) (F : Nat) (a0 : Int32) (a1 : Int32) (a2 : Int32) (σ : zST) (h : m_X8_in F a0 a1 a2 σ = some (r0, τ0)) : Z K 0 0 0 [(0, .int a0), (1, .int a1), (2, .int a2)] [] σ := by
  unfold m_X8_in at h
  refine Z_iload_n hk 0 dX8_in_0 rfl rfl ?_
  refine Z_iload_n hk 1 dX8_in_1 rfl rfl ?_
  refine Z_icmp_lt hk (tgt := 14) dX8_in_2 (by decide) (fun c1 => ?_) (fun c1 => ?_)
  · have h := if_yes h c1
    refine Z_sub [] rfl ?_
    exact w_X8_in_14 hk hq F σ h
  · have h := if_no h c1
    refine Z_iload_n hk 0 dX8_in_5 rfl rfl ?_
    refine Z_iload_n hk 2 dX8_in_6 rfl rfl ?_
    refine Z_icmp_gt hk (tgt := 14) dX8_in_7 (by decide) (fun c2 => ?_) (fun c2 => ?_)
    · have h := if_yes h c2
      refine Z_sub [] rfl ?_
      exact w_X8_in_14 hk hq F σ h
    · have h := if_no h c2
      refine Z_iconst hk dX8_in_10 zc_iconst_1 ?_
      refine Z_goto hk (tgt := 15) dX8_in_11 (by decide) ?_
      cases h
      exact Z_zret hk (by decide) hq dX8_in_15
theorem c_X8_in {l : Launch} {E : zE} (hL : eL E) (hJ : eJ E) (F : Nat) (a0 : Int32) (a1 : Int32) (a2 : Int32) (σ : zST) {r0 : Int32} {τ0 : zST} (h : m_X8_in F a0 a1 a2 σ = some (r0, τ0)) : Ct l yX8_in wsX8_in r_X8_in E [.int a0, .int a1, .int a2] σ (some (.int r0)) τ0 := by
  refine Ct_of (by decide) rfl hL hJ (Nat.le_of_ble_eq_true rfl) (fun K hE hl hk hq => ?_)
  subst hE
  exact w_X8_in hk hq F a0 a1 a2 σ h
end

-- CanonCoteModel.goes (ZZ)Z
section
theorem dX8_goes_0 : decode cX8_goes 0 = .ok (.aload_n 0, 1) := by decide +kernel
theorem dX8_goes_1 : decode cX8_goes 1 = .ok (.iload_n 1, 1) := by decide +kernel
theorem dX8_goes_2 : decode cX8_goes 2 = .ok (.ifCond .ne 7, 3) := by decide +kernel
theorem dX8_goes_5 : decode cX8_goes 5 = .ok (.iconst 1, 1) := by decide +kernel
theorem dX8_goes_6 : decode cX8_goes 6 = .ok (.goto 12, 3) := by decide +kernel
theorem dX8_goes_9 : decode cX8_goes 9 = .ok (.iload_n 2, 1) := by decide +kernel
theorem dX8_goes_10 : decode cX8_goes 10 = .ok (.ifCond .eq 7, 3) := by decide +kernel
theorem dX8_goes_13 : decode cX8_goes 13 = .ok (.iconst 0, 1) := by decide +kernel
theorem dX8_goes_14 : decode cX8_goes 14 = .ok (.goto 4, 3) := by decide +kernel
theorem dX8_goes_17 : decode cX8_goes 17 = .ok (.iconst 2, 1) := by decide +kernel
theorem dX8_goes_18 : decode cX8_goes 18 = .ok (.putfield 54, 3) := by decide +kernel
theorem dX8_goes_21 : decode cX8_goes 21 = .ok (.aload_n 0, 1) := by decide +kernel
theorem dX8_goes_22 : decode cX8_goes 22 = .ok (.getfield 54, 3) := by decide +kernel
theorem dX8_goes_25 : decode cX8_goes 25 = .ok (.ifCond .ne 7, 3) := by decide +kernel
theorem dX8_goes_28 : decode cX8_goes 28 = .ok (.iconst 1, 1) := by decide +kernel
theorem dX8_goes_29 : decode cX8_goes 29 = .ok (.goto 4, 3) := by decide +kernel
theorem dX8_goes_32 : decode cX8_goes 32 = .ok (.iconst 0, 1) := by decide +kernel
theorem dX8_goes_33 : decode cX8_goes 33 = .ok (.ireturn, 1) := by decide +kernel
theorem in_X8_goes_CanonCoteModel : ∀ w ∈ u_ws RX8 TX8 17, w ∈ wsX8_goes := by decide +kernel
theorem wd_X8_goes_1 : Cond.fieldLink RX8 54 (TX8 16).1 (TX8 16).2.1 (TX8 16).2.2.1 ∈ wsX8_goes := by decide +kernel
def r_X8_goes : Room := { frames := 1, cells := 0, slots := 0, locals := 12 }
set_option maxRecDepth 100000 in
set_option maxHeartbeats 4000000 in
theorem w_X8_goes_18 {K : zK} (hk : zIs K RX8 cX8_goes 3 wsX8_goes (some .boolean) r_X8_goes) {r0 : Int32} {τ0 : zST} (hq : zQ K (some (.int r0)) τ0) (F : Nat) (a0 : Nat) (t0 : Int32) (t1 : Nat) (ha0 : atCanonCoteModel (kZ K) a0) (ht1 : atCanonCoteModel (kZ K) t1) (σ : zST) (h : m_X8_goes_18 F a0 t0 t1 σ = some (r0, τ0)) : Z K 0 0 18 [(0, .ref (eA (kZ K) a0))] [.int t0, .ref (eA (kZ K) t1)] σ := by
  unfold m_X8_goes_18 at h
  obtain ⟨s3, e4, h⟩ := nm_get h
  refine Z_put hk in_X8_goes_CanonCoteModel tyX8 tok_TX8 tnm_TX8 rfl ht1.cell.1 (ht1.cell.2 _) 16 (by decide) wd_X8_goes_1 rfl (by decide) (Nat.le_of_ble_eq_true rfl) (ht1.put_last _ _) dX8_goes_18 ?_
  refine Z_eqS e4 ?_
  refine Z_aload_n hk 0 dX8_goes_21 rfl rfl ?_
  refine Z_get hk in_X8_goes_CanonCoteModel rfl ha0.cell.1 (ha0.cell.2 _) 16 (by decide) wd_X8_goes_1 rfl dX8_goes_22 ?_
  refine Z_if_ne hk (tgt := 32) dX8_goes_25 (by decide) (fun c5 => ?_) (fun c5 => ?_)
  · have h := if_yes h c5
    refine Z_iconst hk dX8_goes_28 zc_iconst_1 ?_
    refine Z_goto hk (tgt := 33) dX8_goes_29 (by decide) ?_
    cases h
    exact Z_zret hk (by decide) hq dX8_goes_33
  · have h := if_no h c5
    refine Z_iconst hk dX8_goes_32 zc_iconst_0 ?_
    cases h
    exact Z_zret hk (by decide) hq dX8_goes_33
set_option maxRecDepth 100000 in
set_option maxHeartbeats 4000000 in
theorem w_X8_goes {K : zK} (hk : zIs K RX8 cX8_goes 3 wsX8_goes (some .boolean) r_X8_goes) {r0 : Int32} {τ0 : zST} (hq : zQ K (some (.int r0)) τ0) (F : Nat) (a0 : Nat) (a1 : Int32) (a2 : Int32) (ha0 : atCanonCoteModel (kZ K) a0) (σ : zST) (h : m_X8_goes F a0 a1 a2 σ = some (r0, τ0)) : Z K 0 0 0 [(0, .ref (eA (kZ K) a0)), (1, .int a1), (2, .int a2)] [] σ := by
  unfold m_X8_goes at h
  refine Z_aload_n hk 0 dX8_goes_0 rfl rfl ?_
  refine Z_iload_n hk 1 dX8_goes_1 rfl rfl ?_
  refine Z_if_ne hk (tgt := 9) dX8_goes_2 (by decide) (fun c1 => ?_) (fun c1 => ?_)
  · have h := if_yes h c1
    refine Z_iconst hk dX8_goes_5 zc_iconst_1 ?_
    refine Z_goto hk (tgt := 18) dX8_goes_6 (by decide) ?_
    refine Z_sub [0] rfl ?_
    exact w_X8_goes_18 hk hq F a0 1 a0 ha0 ha0 σ h
  · have h := if_no h c1
    refine Z_iload_n hk 2 dX8_goes_9 rfl rfl ?_
    refine Z_if_eq hk (tgt := 17) dX8_goes_10 (by decide) (fun c2 => ?_) (fun c2 => ?_)
    · have h := if_yes h c2
      refine Z_iconst hk dX8_goes_17 zc_iconst_2 ?_
      refine Z_sub [0] rfl ?_
      exact w_X8_goes_18 hk hq F a0 2 a0 ha0 ha0 σ h
    · have h := if_no h c2
      refine Z_iconst hk dX8_goes_13 zc_iconst_0 ?_
      refine Z_goto hk (tgt := 18) dX8_goes_14 (by decide) ?_
      refine Z_sub [0] rfl ?_
      exact w_X8_goes_18 hk hq F a0 0 a0 ha0 ha0 σ h
theorem c_X8_goes {l : Launch} {E : zE} (hL : eL E) (hJ : eJ E) (F : Nat) (a0 : Nat) (a1 : Int32) (a2 : Int32) (ha0 : atCanonCoteModel E a0) (σ : zST) {r0 : Int32} {τ0 : zST} (h : m_X8_goes F a0 a1 a2 σ = some (r0, τ0)) : Ct l yX8_goes wsX8_goes r_X8_goes E [.ref (eA E a0), .int a1, .int a2] σ (some (.int r0)) τ0 := by
  refine Ct_of (by decide) rfl hL hJ (Nat.le_of_ble_eq_true rfl) (fun K hE hl hk hq => ?_)
  subst hE
  exact w_X8_goes hk hq F a0 a1 a2 ha0 σ h
end

-- CanonCoteModel.isGraph (I)Z
section
theorem dX8_isGraph_0 : decode cX8_isGraph 0 = .ok (.iload_n 0, 1) := by decide +kernel
theorem dX8_isGraph_1 : decode cX8_isGraph 1 = .ok (.iconst 0, 1) := by decide +kernel
theorem dX8_isGraph_2 : decode cX8_isGraph 2 = .ok (.iconst 3, 1) := by decide +kernel
theorem dX8_isGraph_3 : decode cX8_isGraph 3 = .ok (.invokestatic 58, 3) := by decide +kernel
theorem dX8_isGraph_6 : decode cX8_isGraph 6 = .ok (.ireturn, 1) := by decide +kernel
set_option maxRecDepth 20000 in
theorem ggX8_isGraph_X8_in : GoodIn wsX8_isGraph wsX8_in := goodIn_r _ [4] (by decide +kernel) (by decide +kernel)
set_option maxRecDepth 20000 in
theorem gX8_isGraph_X8_in : GoodIn wsX8_isGraph (va_wsS RX8 58 yX8_in wsX8_in) := goodIn_app (goodIn_of _ (by decide +kernel)) ggX8_isGraph_X8_in
def r_X8_isGraph : Room := { frames := 2, cells := 0, slots := 0, locals := 34 }
set_option maxRecDepth 100000 in
set_option maxHeartbeats 4000000 in
theorem w_X8_isGraph {K : zK} (hk : zIs K RX8 cX8_isGraph 1 wsX8_isGraph (some .boolean) r_X8_isGraph) {r0 : Int32} {τ0 : zST} (hq : zQ K (some (.int r0)) τ0) (F : Nat) (a0 : Int32) (σ : zST) (h : m_X8_isGraph F a0 σ = some (r0, τ0)) : Z K 0 0 0 [(0, .int a0)] [] σ := by
  unfold m_X8_isGraph at h
  refine Z_iload_n hk 0 dX8_isGraph_0 rfl rfl ?_
  refine Z_iconst hk dX8_isGraph_1 zc_iconst_0 ?_
  refine Z_iconst hk dX8_isGraph_2 zc_iconst_3 ?_
  obtain ⟨x1, s2, h3, h⟩ := bd_ok h
  refine Z_callT 3 hk [.int a0, .int 0, .int 3] (c_X8_in hk.loc hk.inj F a0 0 3 σ h3) gX8_isGraph_X8_in rfl ⟨rfl, rfl⟩ (by decide +kernel) ⟨Nat.le_of_ble_eq_true rfl, Nat.le_of_ble_eq_true rfl⟩ rfl rfl (Nat.le_of_ble_eq_true rfl) ⟨Nat.zero_le _, Nat.zero_le _⟩ dX8_isGraph_3 ?_
  show Z K 0 0 6 [(0, .int a0)] [.int x1] s2
  obtain ⟨hz, h⟩ := gd_some h
  cases h
  exact Z_zret hk hz hq dX8_isGraph_6
theorem c_X8_isGraph {l : Launch} {E : zE} (hL : eL E) (hJ : eJ E) (F : Nat) (a0 : Int32) (σ : zST) {r0 : Int32} {τ0 : zST} (h : m_X8_isGraph F a0 σ = some (r0, τ0)) : Ct l yX8_isGraph wsX8_isGraph r_X8_isGraph E [.int a0] σ (some (.int r0)) τ0 := by
  refine Ct_of (by decide) rfl hL hJ (Nat.le_of_ble_eq_true rfl) (fun K hE hl hk hq => ?_)
  subst hE
  exact w_X8_isGraph hk hq F a0 σ h
end

-- CanonCoteModel.isVertex (II)Z
section
theorem dX8_isVertex_0 : decode cX8_isVertex 0 = .ok (.iload_n 1, 1) := by decide +kernel
theorem dX8_isVertex_1 : decode cX8_isVertex 1 = .ok (.invokestatic 62, 3) := by decide +kernel
theorem dX8_isVertex_4 : decode cX8_isVertex 4 = .ok (.ifCond .eq 23, 3) := by decide +kernel
theorem dX8_isVertex_7 : decode cX8_isVertex 7 = .ok (.iload_n 2, 1) := by decide +kernel
theorem dX8_isVertex_8 : decode cX8_isVertex 8 = .ok (.iconst 0, 1) := by decide +kernel
theorem dX8_isVertex_9 : decode cX8_isVertex 9 = .ok (.aload_n 0, 1) := by decide +kernel
theorem dX8_isVertex_10 : decode cX8_isVertex 10 = .ok (.getfield 7, 3) := by decide +kernel
theorem dX8_isVertex_13 : decode cX8_isVertex 13 = .ok (.iload_n 1, 1) := by decide +kernel
theorem dX8_isVertex_14 : decode cX8_isVertex 14 = .ok (.iaload, 1) := by decide +kernel
theorem dX8_isVertex_15 : decode cX8_isVertex 15 = .ok (.iconst 1, 1) := by decide +kernel
theorem dX8_isVertex_16 : decode cX8_isVertex 16 = .ok (.isub, 1) := by decide +kernel
theorem dX8_isVertex_17 : decode cX8_isVertex 17 = .ok (.invokestatic 58, 3) := by decide +kernel
theorem dX8_isVertex_20 : decode cX8_isVertex 20 = .ok (.ifCond .eq 7, 3) := by decide +kernel
theorem dX8_isVertex_23 : decode cX8_isVertex 23 = .ok (.iconst 1, 1) := by decide +kernel
theorem dX8_isVertex_24 : decode cX8_isVertex 24 = .ok (.goto 4, 3) := by decide +kernel
theorem dX8_isVertex_27 : decode cX8_isVertex 27 = .ok (.iconst 0, 1) := by decide +kernel
theorem dX8_isVertex_28 : decode cX8_isVertex 28 = .ok (.ireturn, 1) := by decide +kernel
set_option maxRecDepth 20000 in
theorem ggX8_isVertex_X8_isGraph : GoodIn wsX8_isVertex wsX8_isGraph := goodIn_r _ [5, 6, 7, 4, 8] (by decide +kernel) (by decide +kernel)
set_option maxRecDepth 20000 in
theorem gX8_isVertex_X8_isGraph : GoodIn wsX8_isVertex (va_wsS RX8 62 yX8_isGraph wsX8_isGraph) := goodIn_app (goodIn_of _ (by decide +kernel)) ggX8_isVertex_X8_isGraph
set_option maxRecDepth 20000 in
theorem ggX8_isVertex_X8_in : GoodIn wsX8_isVertex wsX8_in := goodIn_r _ [8] (by decide +kernel) (by decide +kernel)
set_option maxRecDepth 20000 in
theorem gX8_isVertex_X8_in : GoodIn wsX8_isVertex (va_wsS RX8 58 yX8_in wsX8_in) := goodIn_app (goodIn_of _ (by decide +kernel)) ggX8_isVertex_X8_in
theorem in_X8_isVertex_CanonCoteModel : ∀ w ∈ u_ws RX8 TX8 17, w ∈ wsX8_isVertex := by decide +kernel
theorem wd_X8_isVertex_1 : Cond.fieldLink RX8 7 (TX8 0).1 (TX8 0).2.1 (TX8 0).2.2.1 ∈ wsX8_isVertex := by decide +kernel
def r_X8_isVertex : Room := { frames := 3, cells := 0, slots := 0, locals := 54 }
set_option maxRecDepth 100000 in
set_option maxHeartbeats 4000000 in
theorem w_X8_isVertex_27 {K : zK} (hk : zIs K RX8 cX8_isVertex 3 wsX8_isVertex (some .boolean) r_X8_isVertex) {r0 : Int32} {τ0 : zST} (hq : zQ K (some (.int r0)) τ0) (F : Nat)  (σ : zST) (h : m_X8_isVertex_27 F σ = some (r0, τ0)) : Z K 0 0 27 [] [] σ := by
  unfold m_X8_isVertex_27 at h
  refine Z_iconst hk dX8_isVertex_27 zc_iconst_0 ?_
  cases h
  exact Z_zret hk (by decide) hq dX8_isVertex_28
set_option maxRecDepth 100000 in
set_option maxHeartbeats 4000000 in
theorem w_X8_isVertex {K : zK} (hk : zIs K RX8 cX8_isVertex 3 wsX8_isVertex (some .boolean) r_X8_isVertex) {r0 : Int32} {τ0 : zST} (hq : zQ K (some (.int r0)) τ0) (F : Nat) (a0 : Nat) (a1 : Int32) (a2 : Int32) (ha0 : atCanonCoteModel (kZ K) a0) (σ : zST) (h : m_X8_isVertex F a0 a1 a2 σ = some (r0, τ0)) : Z K 0 0 0 [(0, .ref (eA (kZ K) a0)), (1, .int a1), (2, .int a2)] [] σ := by
  unfold m_X8_isVertex at h
  refine Z_iload_n hk 1 dX8_isVertex_0 rfl rfl ?_
  obtain ⟨x1, s2, h3, h⟩ := bd_ok h
  refine Z_callT 1 hk [.int a1] (c_X8_isGraph hk.loc hk.inj F a1 σ h3) gX8_isVertex_X8_isGraph rfl ⟨rfl, rfl⟩ (by decide +kernel) ⟨Nat.le_of_ble_eq_true rfl, Nat.le_of_ble_eq_true rfl⟩ rfl rfl (Nat.le_of_ble_eq_true rfl) ⟨Nat.zero_le _, Nat.zero_le _⟩ dX8_isVertex_1 ?_
  show Z K 0 0 4 [(0, .ref (eA (kZ K) a0)), (1, .int a1), (2, .int a2)] [.int x1] s2
  refine Z_if_eq hk (tgt := 27) dX8_isVertex_4 (by decide) (fun c4 => ?_) (fun c4 => ?_)
  · have h := if_yes h c4
    refine Z_sub [] rfl ?_
    exact w_X8_isVertex_27 hk hq F s2 h
  · have h := if_no h c4
    refine Z_iload_n hk 2 dX8_isVertex_7 rfl rfl ?_
    refine Z_iconst hk dX8_isVertex_8 zc_iconst_0 ?_
    refine Z_aload_n hk 0 dX8_isVertex_9 rfl rfl ?_
    refine Z_get hk in_X8_isVertex_CanonCoteModel rfl ha0.cell.1 (ha0.cell.2 _) 0 (by decide) wd_X8_isVertex_1 rfl dX8_isVertex_10 ?_
    refine Z_iload_n hk 1 dX8_isVertex_13 rfl rfl ?_
    obtain ⟨i7, x5, e6, h⟩ := ldI_get h
    refine Z_iald hk (ha0.sizes) i7 dX8_isVertex_14 ?_
    refine Z_eqI e6 ?_
    refine Z_iconst hk dX8_isVertex_15 zc_iconst_1 ?_
    refine Z_isub hk dX8_isVertex_16 ?_
    obtain ⟨x8, s9, h10, h⟩ := bd_ok h
    refine Z_callT 3 hk [.int a2, .int 0, .int (x5 - 1)] (c_X8_in hk.loc hk.inj F a2 0 (x5 - 1) s2 h10) gX8_isVertex_X8_in rfl ⟨rfl, rfl⟩ (by decide +kernel) ⟨Nat.le_of_ble_eq_true rfl, Nat.le_of_ble_eq_true rfl⟩ rfl rfl (Nat.le_of_ble_eq_true rfl) ⟨Nat.zero_le _, Nat.zero_le _⟩ dX8_isVertex_17 ?_
    show Z K 0 0 20 [(0, .ref (eA (kZ K) a0)), (1, .int a1), (2, .int a2)] [.int x8] s9
    refine Z_if_eq hk (tgt := 27) dX8_isVertex_20 (by decide) (fun c11 => ?_) (fun c11 => ?_)
    · have h := if_yes h c11
      refine Z_sub [] rfl ?_
      exact w_X8_isVertex_27 hk hq F s9 h
    · have h := if_no h c11
      refine Z_iconst hk dX8_isVertex_23 zc_iconst_1 ?_
      refine Z_goto hk (tgt := 28) dX8_isVertex_24 (by decide) ?_
      cases h
      exact Z_zret hk (by decide) hq dX8_isVertex_28
theorem c_X8_isVertex {l : Launch} {E : zE} (hL : eL E) (hJ : eJ E) (F : Nat) (a0 : Nat) (a1 : Int32) (a2 : Int32) (ha0 : atCanonCoteModel E a0) (σ : zST) {r0 : Int32} {τ0 : zST} (h : m_X8_isVertex F a0 a1 a2 σ = some (r0, τ0)) : Ct l yX8_isVertex wsX8_isVertex r_X8_isVertex E [.ref (eA E a0), .int a1, .int a2] σ (some (.int r0)) τ0 := by
  refine Ct_of (by decide) rfl hL hJ (Nat.le_of_ble_eq_true rfl) (fun K hE hl hk hq => ?_)
  subst hE
  exact w_X8_isVertex hk hq F a0 a1 a2 ha0 σ h
end

-- CanonCoteModel.areVertices (III)Z
section
theorem dX8_areVertices_0 : decode cX8_areVertices 0 = .ok (.aload_n 0, 1) := by decide +kernel
theorem dX8_areVertices_1 : decode cX8_areVertices 1 = .ok (.iload_n 1, 1) := by decide +kernel
theorem dX8_areVertices_2 : decode cX8_areVertices 2 = .ok (.iload_n 2, 1) := by decide +kernel
theorem dX8_areVertices_3 : decode cX8_areVertices 3 = .ok (.invokevirtual 66, 3) := by decide +kernel
theorem dX8_areVertices_6 : decode cX8_areVertices 6 = .ok (.ifCond .eq 16, 3) := by decide +kernel
theorem dX8_areVertices_9 : decode cX8_areVertices 9 = .ok (.aload_n 0, 1) := by decide +kernel
theorem dX8_areVertices_10 : decode cX8_areVertices 10 = .ok (.iload_n 1, 1) := by decide +kernel
theorem dX8_areVertices_11 : decode cX8_areVertices 11 = .ok (.iload_n 3, 1) := by decide +kernel
theorem dX8_areVertices_12 : decode cX8_areVertices 12 = .ok (.invokevirtual 66, 3) := by decide +kernel
theorem dX8_areVertices_15 : decode cX8_areVertices 15 = .ok (.ifCond .eq 7, 3) := by decide +kernel
theorem dX8_areVertices_18 : decode cX8_areVertices 18 = .ok (.iconst 1, 1) := by decide +kernel
theorem dX8_areVertices_19 : decode cX8_areVertices 19 = .ok (.goto 4, 3) := by decide +kernel
theorem dX8_areVertices_22 : decode cX8_areVertices 22 = .ok (.iconst 0, 1) := by decide +kernel
theorem dX8_areVertices_23 : decode cX8_areVertices 23 = .ok (.ireturn, 1) := by decide +kernel
set_option maxRecDepth 20000 in
theorem ggX8_areVertices_X8_isVertex : GoodIn wsX8_areVertices wsX8_isVertex := goodIn_r _ [5, 6, 7, 8, 4, 9, 10, 11, 12, 13, 14, 15, 16, 17, 18, 19, 20, 21, 22, 23, 24, 25, 26, 27, 28, 29] (by decide +kernel) (by decide +kernel)
set_option maxRecDepth 20000 in
theorem gX8_areVertices_X8_isVertex : GoodIn wsX8_areVertices (wsV RX8 66 RX8 yX8_isVertex wsX8_isVertex) := goodIn_app (goodIn_of _ (by decide +kernel)) ggX8_areVertices_X8_isVertex
def r_X8_areVertices : Room := { frames := 4, cells := 0, slots := 0, locals := 76 }
set_option maxRecDepth 100000 in
set_option maxHeartbeats 4000000 in
theorem w_X8_areVertices_22 {K : zK} (hk : zIs K RX8 cX8_areVertices 4 wsX8_areVertices (some .boolean) r_X8_areVertices) {r0 : Int32} {τ0 : zST} (hq : zQ K (some (.int r0)) τ0) (F : Nat)  (σ : zST) (h : m_X8_areVertices_22 F σ = some (r0, τ0)) : Z K 0 0 22 [] [] σ := by
  unfold m_X8_areVertices_22 at h
  refine Z_iconst hk dX8_areVertices_22 zc_iconst_0 ?_
  cases h
  exact Z_zret hk (by decide) hq dX8_areVertices_23
set_option maxRecDepth 100000 in
set_option maxHeartbeats 4000000 in
theorem w_X8_areVertices {K : zK} (hk : zIs K RX8 cX8_areVertices 4 wsX8_areVertices (some .boolean) r_X8_areVertices) {r0 : Int32} {τ0 : zST} (hq : zQ K (some (.int r0)) τ0) (F : Nat) (a0 : Nat) (a1 : Int32) (a2 : Int32) (a3 : Int32) (ha0 : atCanonCoteModel (kZ K) a0) (σ : zST) (h : m_X8_areVertices F a0 a1 a2 a3 σ = some (r0, τ0)) : Z K 0 0 0 [(0, .ref (eA (kZ K) a0)), (1, .int a1), (2, .int a2), (3, .int a3)] [] σ := by
  unfold m_X8_areVertices at h
  refine Z_aload_n hk 0 dX8_areVertices_0 rfl rfl ?_
  refine Z_iload_n hk 1 dX8_areVertices_1 rfl rfl ?_
  refine Z_iload_n hk 2 dX8_areVertices_2 rfl rfl ?_
  obtain ⟨x1, s2, h3, h⟩ := bd_ok h
  refine Z_callV 2 hk [.int a1, .int a2] (c_X8_isVertex hk.loc hk.inj F a0 a1 a2 ha0 σ h3) gX8_areVertices_X8_isVertex rfl ⟨rfl, rfl⟩ (by decide +kernel) ⟨Nat.le_of_ble_eq_true rfl, Nat.le_of_ble_eq_true rfl⟩ ha0.cell.1 (ha0.cell.2 _) rfl rfl rfl (Nat.le_of_ble_eq_true rfl) ⟨Nat.zero_le _, Nat.zero_le _⟩ dX8_areVertices_3 ?_
  show Z K 0 0 6 [(0, .ref (eA (kZ K) a0)), (1, .int a1), (2, .int a2), (3, .int a3)] [.int x1] s2
  refine Z_if_eq hk (tgt := 22) dX8_areVertices_6 (by decide) (fun c4 => ?_) (fun c4 => ?_)
  · have h := if_yes h c4
    refine Z_sub [] rfl ?_
    exact w_X8_areVertices_22 hk hq F s2 h
  · have h := if_no h c4
    refine Z_aload_n hk 0 dX8_areVertices_9 rfl rfl ?_
    refine Z_iload_n hk 1 dX8_areVertices_10 rfl rfl ?_
    refine Z_iload_n hk 3 dX8_areVertices_11 rfl rfl ?_
    obtain ⟨x5, s6, h7, h⟩ := bd_ok h
    refine Z_callV 2 hk [.int a1, .int a3] (c_X8_isVertex hk.loc hk.inj F a0 a1 a3 ha0 s2 h7) gX8_areVertices_X8_isVertex rfl ⟨rfl, rfl⟩ (by decide +kernel) ⟨Nat.le_of_ble_eq_true rfl, Nat.le_of_ble_eq_true rfl⟩ ha0.cell.1 (ha0.cell.2 _) rfl rfl rfl (Nat.le_of_ble_eq_true rfl) ⟨Nat.zero_le _, Nat.zero_le _⟩ dX8_areVertices_12 ?_
    show Z K 0 0 15 [(0, .ref (eA (kZ K) a0)), (1, .int a1), (2, .int a2), (3, .int a3)] [.int x5] s6
    refine Z_if_eq hk (tgt := 22) dX8_areVertices_15 (by decide) (fun c8 => ?_) (fun c8 => ?_)
    · have h := if_yes h c8
      refine Z_sub [] rfl ?_
      exact w_X8_areVertices_22 hk hq F s6 h
    · have h := if_no h c8
      refine Z_iconst hk dX8_areVertices_18 zc_iconst_1 ?_
      refine Z_goto hk (tgt := 23) dX8_areVertices_19 (by decide) ?_
      cases h
      exact Z_zret hk (by decide) hq dX8_areVertices_23
theorem c_X8_areVertices {l : Launch} {E : zE} (hL : eL E) (hJ : eJ E) (F : Nat) (a0 : Nat) (a1 : Int32) (a2 : Int32) (a3 : Int32) (ha0 : atCanonCoteModel E a0) (σ : zST) {r0 : Int32} {τ0 : zST} (h : m_X8_areVertices F a0 a1 a2 a3 σ = some (r0, τ0)) : Ct l yX8_areVertices wsX8_areVertices r_X8_areVertices E [.ref (eA E a0), .int a1, .int a2, .int a3] σ (some (.int r0)) τ0 := by
  refine Ct_of (by decide) rfl hL hJ (Nat.le_of_ble_eq_true rfl) (fun K hE hl hk hq => ?_)
  subst hE
  exact w_X8_areVertices hk hq F a0 a1 a2 a3 ha0 σ h
end

-- CanonCoteModel.hasEdge (III)Z
section
theorem dX8_hasEdge_0 : decode cX8_hasEdge 0 = .ok (.aload_n 0, 1) := by decide +kernel
theorem dX8_hasEdge_1 : decode cX8_hasEdge 1 = .ok (.getfield 13, 3) := by decide +kernel
theorem dX8_hasEdge_4 : decode cX8_hasEdge 4 = .ok (.bipush 8, 2) := by decide +kernel
theorem dX8_hasEdge_6 : decode cX8_hasEdge 6 = .ok (.iload_n 1, 1) := by decide +kernel
theorem dX8_hasEdge_7 : decode cX8_hasEdge 7 = .ok (.imul, 1) := by decide +kernel
theorem dX8_hasEdge_8 : decode cX8_hasEdge 8 = .ok (.iload_n 2, 1) := by decide +kernel
theorem dX8_hasEdge_9 : decode cX8_hasEdge 9 = .ok (.iadd, 1) := by decide +kernel
theorem dX8_hasEdge_10 : decode cX8_hasEdge 10 = .ok (.iaload, 1) := by decide +kernel
theorem dX8_hasEdge_11 : decode cX8_hasEdge 11 = .ok (.iload_n 3, 1) := by decide +kernel
theorem dX8_hasEdge_12 : decode cX8_hasEdge 12 = .ok (.ishr, 1) := by decide +kernel
theorem dX8_hasEdge_13 : decode cX8_hasEdge 13 = .ok (.iconst 1, 1) := by decide +kernel
theorem dX8_hasEdge_14 : decode cX8_hasEdge 14 = .ok (.iand, 1) := by decide +kernel
theorem dX8_hasEdge_15 : decode cX8_hasEdge 15 = .ok (.iconst 1, 1) := by decide +kernel
theorem dX8_hasEdge_16 : decode cX8_hasEdge 16 = .ok (.if_icmp .ne 7, 3) := by decide +kernel
theorem dX8_hasEdge_19 : decode cX8_hasEdge 19 = .ok (.iconst 1, 1) := by decide +kernel
theorem dX8_hasEdge_20 : decode cX8_hasEdge 20 = .ok (.goto 4, 3) := by decide +kernel
theorem dX8_hasEdge_23 : decode cX8_hasEdge 23 = .ok (.iconst 0, 1) := by decide +kernel
theorem dX8_hasEdge_24 : decode cX8_hasEdge 24 = .ok (.ireturn, 1) := by decide +kernel
theorem in_X8_hasEdge_CanonCoteModel : ∀ w ∈ u_ws RX8 TX8 17, w ∈ wsX8_hasEdge := by decide +kernel
theorem wd_X8_hasEdge_1 : Cond.fieldLink RX8 13 (TX8 1).1 (TX8 1).2.1 (TX8 1).2.2.1 ∈ wsX8_hasEdge := by decide +kernel
def r_X8_hasEdge : Room := { frames := 1, cells := 0, slots := 0, locals := 12 }
set_option maxRecDepth 100000 in
set_option maxHeartbeats 4000000 in
theorem w_X8_hasEdge {K : zK} (hk : zIs K RX8 cX8_hasEdge 4 wsX8_hasEdge (some .boolean) r_X8_hasEdge) {r0 : Int32} {τ0 : zST} (hq : zQ K (some (.int r0)) τ0) (F : Nat) (a0 : Nat) (a1 : Int32) (a2 : Int32) (a3 : Int32) (ha0 : atCanonCoteModel (kZ K) a0) (σ : zST) (h : m_X8_hasEdge F a0 a1 a2 a3 σ = some (r0, τ0)) : Z K 0 0 0 [(0, .ref (eA (kZ K) a0)), (1, .int a1), (2, .int a2), (3, .int a3)] [] σ := by
  unfold m_X8_hasEdge at h
  refine Z_aload_n hk 0 dX8_hasEdge_0 rfl rfl ?_
  refine Z_get hk in_X8_hasEdge_CanonCoteModel rfl ha0.cell.1 (ha0.cell.2 _) 1 (by decide) wd_X8_hasEdge_1 rfl dX8_hasEdge_1 ?_
  refine Z_bipush hk dX8_hasEdge_4 zc_bipush_8 ?_
  refine Z_iload_n hk 1 dX8_hasEdge_6 rfl rfl ?_
  refine Z_imul hk dX8_hasEdge_7 ?_
  refine Z_iload_n hk 2 dX8_hasEdge_8 rfl rfl ?_
  refine Z_iadd hk dX8_hasEdge_9 ?_
  obtain ⟨i3, x1, e2, h⟩ := ldI_get h
  refine Z_iald hk (ha0.sides) i3 dX8_hasEdge_10 ?_
  refine Z_eqI e2 ?_
  refine Z_iload_n hk 3 dX8_hasEdge_11 rfl rfl ?_
  refine Z_ishr hk dX8_hasEdge_12 ?_
  refine Z_iconst hk dX8_hasEdge_13 zc_iconst_1 ?_
  refine Z_iand hk dX8_hasEdge_14 ?_
  refine Z_iconst hk dX8_hasEdge_15 zc_iconst_1 ?_
  refine Z_icmp_ne hk (tgt := 23) dX8_hasEdge_16 (by decide) (fun c4 => ?_) (fun c4 => ?_)
  · have h := if_yes h c4
    refine Z_iconst hk dX8_hasEdge_19 zc_iconst_1 ?_
    refine Z_goto hk (tgt := 24) dX8_hasEdge_20 (by decide) ?_
    cases h
    exact Z_zret hk (by decide) hq dX8_hasEdge_24
  · have h := if_no h c4
    refine Z_iconst hk dX8_hasEdge_23 zc_iconst_0 ?_
    cases h
    exact Z_zret hk (by decide) hq dX8_hasEdge_24
theorem c_X8_hasEdge {l : Launch} {E : zE} (hL : eL E) (hJ : eJ E) (F : Nat) (a0 : Nat) (a1 : Int32) (a2 : Int32) (a3 : Int32) (ha0 : atCanonCoteModel E a0) (σ : zST) {r0 : Int32} {τ0 : zST} (h : m_X8_hasEdge F a0 a1 a2 a3 σ = some (r0, τ0)) : Ct l yX8_hasEdge wsX8_hasEdge r_X8_hasEdge E [.ref (eA E a0), .int a1, .int a2, .int a3] σ (some (.int r0)) τ0 := by
  refine Ct_of (by decide) rfl hL hJ (Nat.le_of_ble_eq_true rfl) (fun K hE hl hk hq => ?_)
  subst hE
  exact w_X8_hasEdge hk hq F a0 a1 a2 a3 ha0 σ h
end

-- CanonCoteModel.countEdges (I)I
section
theorem dX8_countEdges_0 : decode cX8_countEdges 0 = .ok (.iconst 0, 1) := by decide +kernel
theorem dX8_countEdges_1 : decode cX8_countEdges 1 = .ok (.istore_n 2, 1) := by decide +kernel
theorem dX8_countEdges_2 : decode cX8_countEdges 2 = .ok (.iconst 0, 1) := by decide +kernel
theorem dX8_countEdges_3 : decode cX8_countEdges 3 = .ok (.istore_n 3, 1) := by decide +kernel
theorem dX8_countEdges_4 : decode cX8_countEdges 4 = .ok (.iload_n 3, 1) := by decide +kernel
theorem dX8_countEdges_5 : decode cX8_countEdges 5 = .ok (.bipush 64, 2) := by decide +kernel
theorem dX8_countEdges_7 : decode cX8_countEdges 7 = .ok (.if_icmp .ge 44, 3) := by decide +kernel
theorem dX8_countEdges_10 : decode cX8_countEdges 10 = .ok (.iload_n 2, 1) := by decide +kernel
theorem dX8_countEdges_11 : decode cX8_countEdges 11 = .ok (.iload_n 3, 1) := by decide +kernel
theorem dX8_countEdges_12 : decode cX8_countEdges 12 = .ok (.bipush 8, 2) := by decide +kernel
theorem dX8_countEdges_14 : decode cX8_countEdges 14 = .ok (.idiv, 1) := by decide +kernel
theorem dX8_countEdges_15 : decode cX8_countEdges 15 = .ok (.iload_n 3, 1) := by decide +kernel
theorem dX8_countEdges_16 : decode cX8_countEdges 16 = .ok (.bipush 8, 2) := by decide +kernel
theorem dX8_countEdges_18 : decode cX8_countEdges 18 = .ok (.irem, 1) := by decide +kernel
theorem dX8_countEdges_19 : decode cX8_countEdges 19 = .ok (.if_icmp .ge 23, 3) := by decide +kernel
theorem dX8_countEdges_22 : decode cX8_countEdges 22 = .ok (.aload_n 0, 1) := by decide +kernel
theorem dX8_countEdges_23 : decode cX8_countEdges 23 = .ok (.iload_n 1, 1) := by decide +kernel
theorem dX8_countEdges_24 : decode cX8_countEdges 24 = .ok (.iload_n 3, 1) := by decide +kernel
theorem dX8_countEdges_25 : decode cX8_countEdges 25 = .ok (.bipush 8, 2) := by decide +kernel
theorem dX8_countEdges_27 : decode cX8_countEdges 27 = .ok (.idiv, 1) := by decide +kernel
theorem dX8_countEdges_28 : decode cX8_countEdges 28 = .ok (.iload_n 3, 1) := by decide +kernel
theorem dX8_countEdges_29 : decode cX8_countEdges 29 = .ok (.bipush 8, 2) := by decide +kernel
theorem dX8_countEdges_31 : decode cX8_countEdges 31 = .ok (.irem, 1) := by decide +kernel
theorem dX8_countEdges_32 : decode cX8_countEdges 32 = .ok (.invokevirtual 70, 3) := by decide +kernel
theorem dX8_countEdges_35 : decode cX8_countEdges 35 = .ok (.ifCond .eq 7, 3) := by decide +kernel
theorem dX8_countEdges_38 : decode cX8_countEdges 38 = .ok (.iconst 1, 1) := by decide +kernel
theorem dX8_countEdges_39 : decode cX8_countEdges 39 = .ok (.goto 4, 3) := by decide +kernel
theorem dX8_countEdges_42 : decode cX8_countEdges 42 = .ok (.iconst 0, 1) := by decide +kernel
theorem dX8_countEdges_43 : decode cX8_countEdges 43 = .ok (.iadd, 1) := by decide +kernel
theorem dX8_countEdges_44 : decode cX8_countEdges 44 = .ok (.istore_n 2, 1) := by decide +kernel
theorem dX8_countEdges_45 : decode cX8_countEdges 45 = .ok (.iinc 3 1, 3) := by decide +kernel
theorem dX8_countEdges_48 : decode cX8_countEdges 48 = .ok (.goto (-44), 3) := by decide +kernel
theorem dX8_countEdges_51 : decode cX8_countEdges 51 = .ok (.iload_n 2, 1) := by decide +kernel
theorem dX8_countEdges_52 : decode cX8_countEdges 52 = .ok (.ireturn, 1) := by decide +kernel
set_option maxRecDepth 20000 in
theorem ggX8_countEdges_X8_hasEdge : GoodIn wsX8_countEdges wsX8_hasEdge := goodIn_r _ [5, 6, 7, 8, 9, 10, 11, 12, 13, 14, 15, 16, 17, 18, 19, 20, 21, 22, 23] (by decide +kernel) (by decide +kernel)
set_option maxRecDepth 20000 in
theorem gX8_countEdges_X8_hasEdge : GoodIn wsX8_countEdges (wsV RX8 70 RX8 yX8_hasEdge wsX8_hasEdge) := goodIn_app (goodIn_of _ (by decide +kernel)) ggX8_countEdges_X8_hasEdge
def r_X8_countEdges : Room := { frames := 2, cells := 0, slots := 0, locals := 35 }
set_option maxRecDepth 100000 in
set_option maxHeartbeats 4000000 in
theorem w_X8_countEdges_43 {K : zK} (hk : zIs K RX8 cX8_countEdges 4 wsX8_countEdges (some .int) r_X8_countEdges) {r0 : Int32} {τ0 : zST} (hq : zQ K (some (.int r0)) τ0) (F : Nat) (k4 : Nat → Int32 → Int32 → Int32 → zST → Option (Int32 × zST)) (hk4 : ∀ (a0 : Nat) (a1 : Int32) (a2 : Int32) (a3 : Int32) (ha0 : atCanonCoteModel (kZ K) a0) (σ : zST), k4 a0 a1 a2 a3 σ = some (r0, τ0) → Z K 0 0 4 [(0, .ref (eA (kZ K) a0)), (1, .int a1), (2, .int a2), (3, .int a3)] [] σ) (a0 : Nat) (a1 : Int32) (a3 : Int32) (t0 : Int32) (t1 : Int32) (ha0 : atCanonCoteModel (kZ K) a0) (σ : zST) (h : m_X8_countEdges_43 F k4 a0 a1 a3 t0 t1 σ = some (r0, τ0)) : Z K 0 0 43 [(0, .ref (eA (kZ K) a0)), (1, .int a1), (3, .int a3)] [.int t0, .int t1] σ := by
  unfold m_X8_countEdges_43 at h
  refine Z_iadd hk dX8_countEdges_43 ?_
  obtain ⟨x7, e8, h⟩ := nm_get h
  refine Z_eqI e8 ?_
  refine Z_istore_n hk (lv' := [(2, .int x7), (0, .ref (eA (kZ K) a0)), (1, .int a1), (3, .int a3)]) dX8_countEdges_44 rfl (by decide) rfl ?_
  obtain ⟨x9, e10, h⟩ := nm_get h
  refine Z_iinc hk 3 (v := x9) (lv' := [(3, .int x9), (2, .int x7), (0, .ref (eA (kZ K) a0)), (1, .int a1)]) dX8_countEdges_45 rfl (by rw [zc_iinc_1]; exact e10) (by decide) rfl ?_
  refine Z_goto hk (tgt := 4) dX8_countEdges_48 (by decide) ?_
  refine Z_sub [2, 3, 1, 0] rfl ?_
  exact hk4 a0 a1 x7 x9 ha0 σ h
set_option maxRecDepth 100000 in
set_option maxHeartbeats 4000000 in
theorem w_X8_countEdges_42 {K : zK} (hk : zIs K RX8 cX8_countEdges 4 wsX8_countEdges (some .int) r_X8_countEdges) {r0 : Int32} {τ0 : zST} (hq : zQ K (some (.int r0)) τ0) (F : Nat) (k4 : Nat → Int32 → Int32 → Int32 → zST → Option (Int32 × zST)) (hk4 : ∀ (a0 : Nat) (a1 : Int32) (a2 : Int32) (a3 : Int32) (ha0 : atCanonCoteModel (kZ K) a0) (σ : zST), k4 a0 a1 a2 a3 σ = some (r0, τ0) → Z K 0 0 4 [(0, .ref (eA (kZ K) a0)), (1, .int a1), (2, .int a2), (3, .int a3)] [] σ) (a0 : Nat) (a1 : Int32) (a3 : Int32) (t0 : Int32) (ha0 : atCanonCoteModel (kZ K) a0) (σ : zST) (h : m_X8_countEdges_42 F k4 a0 a1 a3 t0 σ = some (r0, τ0)) : Z K 0 0 42 [(0, .ref (eA (kZ K) a0)), (1, .int a1), (3, .int a3)] [.int t0] σ := by
  unfold m_X8_countEdges_42 at h
  refine Z_iconst hk dX8_countEdges_42 zc_iconst_0 ?_
  refine Z_sub [0, 1, 2] rfl ?_
  exact w_X8_countEdges_43 hk hq F k4 hk4 a0 a1 a3 0 t0 ha0 σ h
set_option maxRecDepth 100000 in
set_option maxHeartbeats 4000000 in
theorem w_X8_countEdges_4 {K : zK} (hk : zIs K RX8 cX8_countEdges 4 wsX8_countEdges (some .int) r_X8_countEdges) {r0 : Int32} {τ0 : zST} (hq : zQ K (some (.int r0)) τ0) (F : Nat) : ∀ (n : Nat) (a0 : Nat) (a1 : Int32) (a2 : Int32) (a3 : Int32) (ha0 : atCanonCoteModel (kZ K) a0) (σ : zST), m_X8_countEdges_4 F n a0 a1 a2 a3 σ = some (r0, τ0) → Z K 0 0 4 [(0, .ref (eA (kZ K) a0)), (1, .int a1), (2, .int a2), (3, .int a3)] [] σ := by
  intro n
  induction n with
  | zero => intro a0 a1 a2 a3 ha0 σ h; cases h
  | succ n ih =>
    intro a0 a1 a2 a3 ha0 σ h
    rw [m_X8_countEdges_4] at h
    refine Z_iload_n hk 3 dX8_countEdges_4 rfl rfl ?_
    refine Z_bipush hk dX8_countEdges_5 zc_bipush_64 ?_
    refine Z_icmp_ge hk (tgt := 51) dX8_countEdges_7 (by decide) (fun c1 => ?_) (fun c1 => ?_)
    · have h := if_yes h c1
      refine Z_iload_n hk 2 dX8_countEdges_51 rfl rfl ?_
      cases h
      exact Z_iret hk hq dX8_countEdges_52
    · have h := if_no h c1
      refine Z_iload_n hk 2 dX8_countEdges_10 rfl rfl ?_
      refine Z_iload_n hk 3 dX8_countEdges_11 rfl rfl ?_
      refine Z_bipush hk dX8_countEdges_12 zc_bipush_8 ?_
      refine Z_idiv hk dX8_countEdges_14 (by decide) ?_
      refine Z_iload_n hk 3 dX8_countEdges_15 rfl rfl ?_
      refine Z_bipush hk dX8_countEdges_16 zc_bipush_8 ?_
      refine Z_irem hk dX8_countEdges_18 (by decide) ?_
      refine Z_icmp_ge hk (tgt := 42) dX8_countEdges_19 (by decide) (fun c2 => ?_) (fun c2 => ?_)
      · have h := if_yes h c2
        refine Z_sub [0, 1, 3] rfl ?_
        exact w_X8_countEdges_42 hk hq F (m_X8_countEdges_4 F n) ih a0 a1 a3 a2 ha0 σ h
      · have h := if_no h c2
        refine Z_aload_n hk 0 dX8_countEdges_22 rfl rfl ?_
        refine Z_iload_n hk 1 dX8_countEdges_23 rfl rfl ?_
        refine Z_iload_n hk 3 dX8_countEdges_24 rfl rfl ?_
        refine Z_bipush hk dX8_countEdges_25 zc_bipush_8 ?_
        refine Z_idiv hk dX8_countEdges_27 (by decide) ?_
        refine Z_iload_n hk 3 dX8_countEdges_28 rfl rfl ?_
        refine Z_bipush hk dX8_countEdges_29 zc_bipush_8 ?_
        refine Z_irem hk dX8_countEdges_31 (by decide) ?_
        obtain ⟨x3, s4, h5, h⟩ := bd_ok h
        refine Z_callV 3 hk [.int a1, .int (a3 / 8), .int (a3 - a3 / 8 * 8)] (c_X8_hasEdge hk.loc hk.inj F a0 a1 (a3 / 8) (a3 - a3 / 8 * 8) ha0 σ h5) gX8_countEdges_X8_hasEdge rfl ⟨rfl, rfl⟩ (by decide +kernel) ⟨Nat.le_of_ble_eq_true rfl, Nat.le_of_ble_eq_true rfl⟩ ha0.cell.1 (ha0.cell.2 _) rfl rfl rfl (Nat.le_of_ble_eq_true rfl) ⟨Nat.zero_le _, Nat.zero_le _⟩ dX8_countEdges_32 ?_
        show Z K 0 0 35 [(0, .ref (eA (kZ K) a0)), (1, .int a1), (2, .int a2), (3, .int a3)] [.int x3, .int a2] s4
        refine Z_if_eq hk (tgt := 42) dX8_countEdges_35 (by decide) (fun c6 => ?_) (fun c6 => ?_)
        · have h := if_yes h c6
          refine Z_sub [0, 1, 3] rfl ?_
          exact w_X8_countEdges_42 hk hq F (m_X8_countEdges_4 F n) ih a0 a1 a3 a2 ha0 s4 h
        · have h := if_no h c6
          refine Z_iconst hk dX8_countEdges_38 zc_iconst_1 ?_
          refine Z_goto hk (tgt := 43) dX8_countEdges_39 (by decide) ?_
          refine Z_sub [0, 1, 3] rfl ?_
          exact w_X8_countEdges_43 hk hq F (m_X8_countEdges_4 F n) ih a0 a1 a3 1 a2 ha0 s4 h
set_option maxRecDepth 100000 in
set_option maxHeartbeats 4000000 in
theorem w_X8_countEdges {K : zK} (hk : zIs K RX8 cX8_countEdges 4 wsX8_countEdges (some .int) r_X8_countEdges) {r0 : Int32} {τ0 : zST} (hq : zQ K (some (.int r0)) τ0) (F : Nat) (a0 : Nat) (a1 : Int32) (ha0 : atCanonCoteModel (kZ K) a0) (σ : zST) (h : m_X8_countEdges F a0 a1 σ = some (r0, τ0)) : Z K 0 0 0 [(0, .ref (eA (kZ K) a0)), (1, .int a1)] [] σ := by
  unfold m_X8_countEdges at h
  refine Z_iconst hk dX8_countEdges_0 zc_iconst_0 ?_
  refine Z_istore_n hk (lv' := [(2, .int 0), (0, .ref (eA (kZ K) a0)), (1, .int a1)]) dX8_countEdges_1 rfl (by decide) rfl ?_
  refine Z_iconst hk dX8_countEdges_2 zc_iconst_0 ?_
  refine Z_istore_n hk (lv' := [(3, .int 0), (2, .int 0), (0, .ref (eA (kZ K) a0)), (1, .int a1)]) dX8_countEdges_3 rfl (by decide) rfl ?_
  refine Z_sub [2, 3, 1, 0] rfl ?_
  exact w_X8_countEdges_4 hk hq F F a0 a1 0 0 ha0 σ h
theorem c_X8_countEdges {l : Launch} {E : zE} (hL : eL E) (hJ : eJ E) (F : Nat) (a0 : Nat) (a1 : Int32) (ha0 : atCanonCoteModel E a0) (σ : zST) {r0 : Int32} {τ0 : zST} (h : m_X8_countEdges F a0 a1 σ = some (r0, τ0)) : Ct l yX8_countEdges wsX8_countEdges r_X8_countEdges E [.ref (eA E a0), .int a1] σ (some (.int r0)) τ0 := by
  refine Ct_of (by decide) rfl hL hJ (Nat.le_of_ble_eq_true rfl) (fun K hE hl hk hq => ?_)
  subst hE
  exact w_X8_countEdges hk hq F a0 a1 ha0 σ h
end

-- CanonCoteModel.begin (II)I
section
theorem dX8_begin_0 : decode cX8_begin 0 = .ok (.aload_n 0, 1) := by decide +kernel
theorem dX8_begin_1 : decode cX8_begin 1 = .ok (.iload_n 1, 1) := by decide +kernel
theorem dX8_begin_2 : decode cX8_begin 2 = .ok (.invokestatic 62, 3) := by decide +kernel
theorem dX8_begin_5 : decode cX8_begin 5 = .ok (.iload_n 2, 1) := by decide +kernel
theorem dX8_begin_6 : decode cX8_begin 6 = .ok (.iconst 1, 1) := by decide +kernel
theorem dX8_begin_7 : decode cX8_begin 7 = .ok (.bipush 8, 2) := by decide +kernel
theorem dX8_begin_9 : decode cX8_begin 9 = .ok (.invokestatic 58, 3) := by decide +kernel
theorem dX8_begin_12 : decode cX8_begin 12 = .ok (.invokevirtual 73, 3) := by decide +kernel
theorem dX8_begin_15 : decode cX8_begin 15 = .ok (.ifCond .ne 5, 3) := by decide +kernel
theorem dX8_begin_18 : decode cX8_begin 18 = .ok (.iconst 0, 1) := by decide +kernel
theorem dX8_begin_19 : decode cX8_begin 19 = .ok (.ireturn, 1) := by decide +kernel
theorem dX8_begin_20 : decode cX8_begin 20 = .ok (.aload_n 0, 1) := by decide +kernel
theorem dX8_begin_21 : decode cX8_begin 21 = .ok (.getfield 7, 3) := by decide +kernel
theorem dX8_begin_24 : decode cX8_begin 24 = .ok (.iload_n 1, 1) := by decide +kernel
theorem dX8_begin_25 : decode cX8_begin 25 = .ok (.iaload, 1) := by decide +kernel
theorem dX8_begin_26 : decode cX8_begin 26 = .ok (.istore_n 3, 1) := by decide +kernel
theorem dX8_begin_27 : decode cX8_begin 27 = .ok (.aload_n 0, 1) := by decide +kernel
theorem dX8_begin_28 : decode cX8_begin 28 = .ok (.getfield 7, 3) := by decide +kernel
theorem dX8_begin_31 : decode cX8_begin 31 = .ok (.iload_n 1, 1) := by decide +kernel
theorem dX8_begin_32 : decode cX8_begin 32 = .ok (.iload_n 2, 1) := by decide +kernel
theorem dX8_begin_33 : decode cX8_begin 33 = .ok (.iastore, 1) := by decide +kernel
theorem dX8_begin_34 : decode cX8_begin 34 = .ok (.iconst 0, 1) := by decide +kernel
theorem dX8_begin_35 : decode cX8_begin 35 = .ok (.istore 4, 2) := by decide +kernel
theorem dX8_begin_37 : decode cX8_begin 37 = .ok (.iload 4, 2) := by decide +kernel
theorem dX8_begin_39 : decode cX8_begin 39 = .ok (.bipush 8, 2) := by decide +kernel
theorem dX8_begin_41 : decode cX8_begin 41 = .ok (.if_icmp .ge 35, 3) := by decide +kernel
theorem dX8_begin_44 : decode cX8_begin 44 = .ok (.aload_n 0, 1) := by decide +kernel
theorem dX8_begin_45 : decode cX8_begin 45 = .ok (.getfield 13, 3) := by decide +kernel
theorem dX8_begin_48 : decode cX8_begin 48 = .ok (.bipush 8, 2) := by decide +kernel
theorem dX8_begin_50 : decode cX8_begin 50 = .ok (.iload_n 1, 1) := by decide +kernel
theorem dX8_begin_51 : decode cX8_begin 51 = .ok (.imul, 1) := by decide +kernel
theorem dX8_begin_52 : decode cX8_begin 52 = .ok (.iload 4, 2) := by decide +kernel
theorem dX8_begin_54 : decode cX8_begin 54 = .ok (.iadd, 1) := by decide +kernel
theorem dX8_begin_55 : decode cX8_begin 55 = .ok (.iconst 0, 1) := by decide +kernel
theorem dX8_begin_56 : decode cX8_begin 56 = .ok (.iastore, 1) := by decide +kernel
theorem dX8_begin_57 : decode cX8_begin 57 = .ok (.aload_n 0, 1) := by decide +kernel
theorem dX8_begin_58 : decode cX8_begin 58 = .ok (.getfield 16, 3) := by decide +kernel
theorem dX8_begin_61 : decode cX8_begin 61 = .ok (.bipush 8, 2) := by decide +kernel
theorem dX8_begin_63 : decode cX8_begin 63 = .ok (.iload_n 1, 1) := by decide +kernel
theorem dX8_begin_64 : decode cX8_begin 64 = .ok (.imul, 1) := by decide +kernel
theorem dX8_begin_65 : decode cX8_begin 65 = .ok (.iload 4, 2) := by decide +kernel
theorem dX8_begin_67 : decode cX8_begin 67 = .ok (.iadd, 1) := by decide +kernel
theorem dX8_begin_68 : decode cX8_begin 68 = .ok (.iconst 0, 1) := by decide +kernel
theorem dX8_begin_69 : decode cX8_begin 69 = .ok (.iastore, 1) := by decide +kernel
theorem dX8_begin_70 : decode cX8_begin 70 = .ok (.iinc 4 1, 3) := by decide +kernel
theorem dX8_begin_73 : decode cX8_begin 73 = .ok (.goto (-36), 3) := by decide +kernel
theorem dX8_begin_76 : decode cX8_begin 76 = .ok (.iload_n 3, 1) := by decide +kernel
theorem dX8_begin_77 : decode cX8_begin 77 = .ok (.ireturn, 1) := by decide +kernel
set_option maxRecDepth 20000 in
theorem ggX8_begin_X8_isGraph : GoodIn wsX8_begin wsX8_isGraph := goodIn_r _ [7, 8, 9, 6, 10] (by decide +kernel) (by decide +kernel)
set_option maxRecDepth 20000 in
theorem gX8_begin_X8_isGraph : GoodIn wsX8_begin (va_wsS RX8 62 yX8_isGraph wsX8_isGraph) := goodIn_app (goodIn_of _ (by decide +kernel)) ggX8_begin_X8_isGraph
set_option maxRecDepth 20000 in
theorem ggX8_begin_X8_in : GoodIn wsX8_begin wsX8_in := goodIn_r _ [10] (by decide +kernel) (by decide +kernel)
set_option maxRecDepth 20000 in
theorem gX8_begin_X8_in : GoodIn wsX8_begin (va_wsS RX8 58 yX8_in wsX8_in) := goodIn_app (goodIn_of _ (by decide +kernel)) ggX8_begin_X8_in
set_option maxRecDepth 20000 in
theorem ggX8_begin_X8_goes : GoodIn wsX8_begin wsX8_goes := goodIn_r _ [14, 15, 16, 17, 18, 19, 20, 21, 22, 23, 24, 25, 26, 27, 28, 29, 30, 31, 32] (by decide +kernel) (by decide +kernel)
set_option maxRecDepth 20000 in
theorem gX8_begin_X8_goes : GoodIn wsX8_begin (wsV RX8 73 RX8 yX8_goes wsX8_goes) := goodIn_app (goodIn_of _ (by decide +kernel)) ggX8_begin_X8_goes
theorem in_X8_begin_CanonCoteModel : ∀ w ∈ u_ws RX8 TX8 17, w ∈ wsX8_begin := by decide +kernel
theorem wd_X8_begin_1 : Cond.fieldLink RX8 7 (TX8 0).1 (TX8 0).2.1 (TX8 0).2.2.1 ∈ wsX8_begin := by decide +kernel
theorem wd_X8_begin_2 : Cond.fieldLink RX8 13 (TX8 1).1 (TX8 1).2.1 (TX8 1).2.2.1 ∈ wsX8_begin := by decide +kernel
theorem wd_X8_begin_3 : Cond.fieldLink RX8 16 (TX8 2).1 (TX8 2).2.1 (TX8 2).2.2.1 ∈ wsX8_begin := by decide +kernel
def r_X8_begin : Room := { frames := 3, cells := 0, slots := 0, locals := 54 }
set_option maxRecDepth 100000 in
set_option maxHeartbeats 4000000 in
theorem w_X8_begin_37 {K : zK} (hk : zIs K RX8 cX8_begin 5 wsX8_begin (some .int) r_X8_begin) {r0 : Int32} {τ0 : zST} (hq : zQ K (some (.int r0)) τ0) (F : Nat) : ∀ (n : Nat) (a0 : Nat) (a1 : Int32) (a3 : Int32) (a4 : Int32) (ha0 : atCanonCoteModel (kZ K) a0) (σ : zST), m_X8_begin_37 F n a0 a1 a3 a4 σ = some (r0, τ0) → Z K 0 0 37 [(0, .ref (eA (kZ K) a0)), (1, .int a1), (3, .int a3), (4, .int a4)] [] σ := by
  intro n
  induction n with
  | zero => intro a0 a1 a3 a4 ha0 σ h; cases h
  | succ n ih =>
    intro a0 a1 a3 a4 ha0 σ h
    rw [m_X8_begin_37] at h
    refine Z_iload hk 3 dX8_begin_37 rfl ?_
    refine Z_bipush hk dX8_begin_39 zc_bipush_8 ?_
    refine Z_icmp_ge hk (tgt := 76) dX8_begin_41 (by decide) (fun c17 => ?_) (fun c17 => ?_)
    · have h := if_yes h c17
      refine Z_iload_n hk 2 dX8_begin_76 rfl rfl ?_
      cases h
      exact Z_iret hk hq dX8_begin_77
    · have h := if_no h c17
      refine Z_aload_n hk 0 dX8_begin_44 rfl rfl ?_
      refine Z_get hk in_X8_begin_CanonCoteModel rfl ha0.cell.1 (ha0.cell.2 _) 1 (by decide) wd_X8_begin_2 rfl dX8_begin_45 ?_
      refine Z_bipush hk dX8_begin_48 zc_bipush_8 ?_
      refine Z_iload_n hk 1 dX8_begin_50 rfl rfl ?_
      refine Z_imul hk dX8_begin_51 ?_
      refine Z_iload hk 3 dX8_begin_52 rfl ?_
      refine Z_iadd hk dX8_begin_54 ?_
      refine Z_iconst hk dX8_begin_55 zc_iconst_0 ?_
      obtain ⟨i20, s18, e19, h⟩ := stI_get h
      refine Z_iast hk (ha0.sides) i20 dX8_begin_56 ?_
      refine Z_eqS e19 ?_
      refine Z_aload_n hk 0 dX8_begin_57 rfl rfl ?_
      refine Z_get hk in_X8_begin_CanonCoteModel rfl ha0.cell.1 (ha0.cell.2 _) 2 (by decide) wd_X8_begin_3 rfl dX8_begin_58 ?_
      refine Z_bipush hk dX8_begin_61 zc_bipush_8 ?_
      refine Z_iload_n hk 1 dX8_begin_63 rfl rfl ?_
      refine Z_imul hk dX8_begin_64 ?_
      refine Z_iload hk 3 dX8_begin_65 rfl ?_
      refine Z_iadd hk dX8_begin_67 ?_
      refine Z_iconst hk dX8_begin_68 zc_iconst_0 ?_
      obtain ⟨i23, s21, e22, h⟩ := stI_get h
      refine Z_iast hk (ha0.colours) i23 dX8_begin_69 ?_
      refine Z_eqS e22 ?_
      obtain ⟨x24, e25, h⟩ := nm_get h
      refine Z_iinc hk 3 (v := x24) (lv' := [(4, .int x24), (0, .ref (eA (kZ K) a0)), (1, .int a1), (3, .int a3)]) dX8_begin_70 rfl (by rw [zc_iinc_1]; exact e25) (by decide) rfl ?_
      refine Z_goto hk (tgt := 37) dX8_begin_73 (by decide) ?_
      refine Z_sub [1, 2, 3, 0] rfl ?_
      exact ih a0 a1 a3 x24 ha0 s21 h
set_option maxRecDepth 100000 in
set_option maxHeartbeats 4000000 in
theorem w_X8_begin {K : zK} (hk : zIs K RX8 cX8_begin 5 wsX8_begin (some .int) r_X8_begin) {r0 : Int32} {τ0 : zST} (hq : zQ K (some (.int r0)) τ0) (F : Nat) (a0 : Nat) (a1 : Int32) (a2 : Int32) (ha0 : atCanonCoteModel (kZ K) a0) (σ : zST) (h : m_X8_begin F a0 a1 a2 σ = some (r0, τ0)) : Z K 0 0 0 [(0, .ref (eA (kZ K) a0)), (1, .int a1), (2, .int a2)] [] σ := by
  unfold m_X8_begin at h
  refine Z_aload_n hk 0 dX8_begin_0 rfl rfl ?_
  refine Z_iload_n hk 1 dX8_begin_1 rfl rfl ?_
  obtain ⟨x1, s2, h3, h⟩ := bd_ok h
  refine Z_callT 1 hk [.int a1] (c_X8_isGraph hk.loc hk.inj F a1 σ h3) gX8_begin_X8_isGraph rfl ⟨rfl, rfl⟩ (by decide +kernel) ⟨Nat.le_of_ble_eq_true rfl, Nat.le_of_ble_eq_true rfl⟩ rfl rfl (Nat.le_of_ble_eq_true rfl) ⟨Nat.zero_le _, Nat.zero_le _⟩ dX8_begin_2 ?_
  show Z K 0 0 5 [(0, .ref (eA (kZ K) a0)), (1, .int a1), (2, .int a2)] [.int x1, .ref (eA (kZ K) a0)] s2
  refine Z_iload_n hk 2 dX8_begin_5 rfl rfl ?_
  refine Z_iconst hk dX8_begin_6 zc_iconst_1 ?_
  refine Z_bipush hk dX8_begin_7 zc_bipush_8 ?_
  obtain ⟨x4, s5, h6, h⟩ := bd_ok h
  refine Z_callT 3 hk [.int a2, .int 1, .int 8] (c_X8_in hk.loc hk.inj F a2 1 8 s2 h6) gX8_begin_X8_in rfl ⟨rfl, rfl⟩ (by decide +kernel) ⟨Nat.le_of_ble_eq_true rfl, Nat.le_of_ble_eq_true rfl⟩ rfl rfl (Nat.le_of_ble_eq_true rfl) ⟨Nat.zero_le _, Nat.zero_le _⟩ dX8_begin_9 ?_
  show Z K 0 0 12 [(0, .ref (eA (kZ K) a0)), (1, .int a1), (2, .int a2)] [.int x4, .int x1, .ref (eA (kZ K) a0)] s5
  obtain ⟨x7, s8, h9, h⟩ := bd_ok h
  refine Z_callV 2 hk [.int x1, .int x4] (c_X8_goes hk.loc hk.inj F a0 x1 x4 ha0 s5 h9) gX8_begin_X8_goes rfl ⟨rfl, rfl⟩ (by decide +kernel) ⟨Nat.le_of_ble_eq_true rfl, Nat.le_of_ble_eq_true rfl⟩ ha0.cell.1 (ha0.cell.2 _) rfl rfl rfl (Nat.le_of_ble_eq_true rfl) ⟨Nat.zero_le _, Nat.zero_le _⟩ dX8_begin_12 ?_
  show Z K 0 0 15 [(0, .ref (eA (kZ K) a0)), (1, .int a1), (2, .int a2)] [.int x7] s8
  refine Z_if_ne hk (tgt := 20) dX8_begin_15 (by decide) (fun c10 => ?_) (fun c10 => ?_)
  · have h := if_yes h c10
    refine Z_iconst hk dX8_begin_18 zc_iconst_0 ?_
    cases h
    exact Z_iret hk hq dX8_begin_19
  · have h := if_no h c10
    refine Z_aload_n hk 0 dX8_begin_20 rfl rfl ?_
    refine Z_get hk in_X8_begin_CanonCoteModel rfl ha0.cell.1 (ha0.cell.2 _) 0 (by decide) wd_X8_begin_1 rfl dX8_begin_21 ?_
    refine Z_iload_n hk 1 dX8_begin_24 rfl rfl ?_
    obtain ⟨i13, x11, e12, h⟩ := ldI_get h
    refine Z_iald hk (ha0.sizes) i13 dX8_begin_25 ?_
    refine Z_eqI e12 ?_
    refine Z_istore_n hk (lv' := [(3, .int x11), (0, .ref (eA (kZ K) a0)), (1, .int a1), (2, .int a2)]) dX8_begin_26 rfl (by decide) rfl ?_
    refine Z_aload_n hk 1 dX8_begin_27 rfl rfl ?_
    refine Z_get hk in_X8_begin_CanonCoteModel rfl ha0.cell.1 (ha0.cell.2 _) 0 (by decide) wd_X8_begin_1 rfl dX8_begin_28 ?_
    refine Z_iload_n hk 2 dX8_begin_31 rfl rfl ?_
    refine Z_iload_n hk 3 dX8_begin_32 rfl rfl ?_
    obtain ⟨i16, s14, e15, h⟩ := stI_get h
    refine Z_iast hk (ha0.sizes) i16 dX8_begin_33 ?_
    refine Z_eqS e15 ?_
    refine Z_iconst hk dX8_begin_34 zc_iconst_0 ?_
    refine Z_istore hk (lv' := [(4, .int 0), (3, .int x11), (0, .ref (eA (kZ K) a0)), (1, .int a1), (2, .int a2)]) dX8_begin_35 (by decide) rfl ?_
    refine Z_sub [2, 3, 1, 0] rfl ?_
    exact w_X8_begin_37 hk hq F F a0 a1 x11 0 ha0 s14 h
theorem c_X8_begin {l : Launch} {E : zE} (hL : eL E) (hJ : eJ E) (F : Nat) (a0 : Nat) (a1 : Int32) (a2 : Int32) (ha0 : atCanonCoteModel E a0) (σ : zST) {r0 : Int32} {τ0 : zST} (h : m_X8_begin F a0 a1 a2 σ = some (r0, τ0)) : Ct l yX8_begin wsX8_begin r_X8_begin E [.ref (eA E a0), .int a1, .int a2] σ (some (.int r0)) τ0 := by
  refine Ct_of (by decide) rfl hL hJ (Nat.le_of_ble_eq_true rfl) (fun K hE hl hk hq => ?_)
  subst hE
  exact w_X8_begin hk hq F a0 a1 a2 ha0 σ h
end

-- CanonCoteModel.toggle (III)Z
section
theorem dX8_toggle_0 : decode cX8_toggle 0 = .ok (.aload_n 0, 1) := by decide +kernel
theorem dX8_toggle_1 : decode cX8_toggle 1 = .ok (.aload_n 0, 1) := by decide +kernel
theorem dX8_toggle_2 : decode cX8_toggle 2 = .ok (.iload_n 1, 1) := by decide +kernel
theorem dX8_toggle_3 : decode cX8_toggle 3 = .ok (.iload_n 2, 1) := by decide +kernel
theorem dX8_toggle_4 : decode cX8_toggle 4 = .ok (.iload_n 3, 1) := by decide +kernel
theorem dX8_toggle_5 : decode cX8_toggle 5 = .ok (.invokevirtual 77, 3) := by decide +kernel
theorem dX8_toggle_8 : decode cX8_toggle 8 = .ok (.iload_n 2, 1) := by decide +kernel
theorem dX8_toggle_9 : decode cX8_toggle 9 = .ok (.iload_n 3, 1) := by decide +kernel
theorem dX8_toggle_10 : decode cX8_toggle 10 = .ok (.if_icmp .eq 7, 3) := by decide +kernel
theorem dX8_toggle_13 : decode cX8_toggle 13 = .ok (.iconst 1, 1) := by decide +kernel
theorem dX8_toggle_14 : decode cX8_toggle 14 = .ok (.goto 4, 3) := by decide +kernel
theorem dX8_toggle_17 : decode cX8_toggle 17 = .ok (.iconst 0, 1) := by decide +kernel
theorem dX8_toggle_18 : decode cX8_toggle 18 = .ok (.invokevirtual 73, 3) := by decide +kernel
theorem dX8_toggle_21 : decode cX8_toggle 21 = .ok (.ifCond .ne 5, 3) := by decide +kernel
theorem dX8_toggle_24 : decode cX8_toggle 24 = .ok (.iconst 0, 1) := by decide +kernel
theorem dX8_toggle_25 : decode cX8_toggle 25 = .ok (.ireturn, 1) := by decide +kernel
theorem dX8_toggle_26 : decode cX8_toggle 26 = .ok (.aload_n 0, 1) := by decide +kernel
theorem dX8_toggle_27 : decode cX8_toggle 27 = .ok (.getfield 13, 3) := by decide +kernel
theorem dX8_toggle_30 : decode cX8_toggle 30 = .ok (.bipush 8, 2) := by decide +kernel
theorem dX8_toggle_32 : decode cX8_toggle 32 = .ok (.iload_n 1, 1) := by decide +kernel
theorem dX8_toggle_33 : decode cX8_toggle 33 = .ok (.imul, 1) := by decide +kernel
theorem dX8_toggle_34 : decode cX8_toggle 34 = .ok (.iload_n 2, 1) := by decide +kernel
theorem dX8_toggle_35 : decode cX8_toggle 35 = .ok (.iadd, 1) := by decide +kernel
theorem dX8_toggle_36 : decode cX8_toggle 36 = .ok (.dup2, 1) := by decide +kernel
theorem dX8_toggle_37 : decode cX8_toggle 37 = .ok (.iaload, 1) := by decide +kernel
theorem dX8_toggle_38 : decode cX8_toggle 38 = .ok (.iconst 1, 1) := by decide +kernel
theorem dX8_toggle_39 : decode cX8_toggle 39 = .ok (.iload_n 3, 1) := by decide +kernel
theorem dX8_toggle_40 : decode cX8_toggle 40 = .ok (.ishl, 1) := by decide +kernel
theorem dX8_toggle_41 : decode cX8_toggle 41 = .ok (.ixor, 1) := by decide +kernel
theorem dX8_toggle_42 : decode cX8_toggle 42 = .ok (.iastore, 1) := by decide +kernel
theorem dX8_toggle_43 : decode cX8_toggle 43 = .ok (.aload_n 0, 1) := by decide +kernel
theorem dX8_toggle_44 : decode cX8_toggle 44 = .ok (.getfield 13, 3) := by decide +kernel
theorem dX8_toggle_47 : decode cX8_toggle 47 = .ok (.bipush 8, 2) := by decide +kernel
theorem dX8_toggle_49 : decode cX8_toggle 49 = .ok (.iload_n 1, 1) := by decide +kernel
theorem dX8_toggle_50 : decode cX8_toggle 50 = .ok (.imul, 1) := by decide +kernel
theorem dX8_toggle_51 : decode cX8_toggle 51 = .ok (.iload_n 3, 1) := by decide +kernel
theorem dX8_toggle_52 : decode cX8_toggle 52 = .ok (.iadd, 1) := by decide +kernel
theorem dX8_toggle_53 : decode cX8_toggle 53 = .ok (.dup2, 1) := by decide +kernel
theorem dX8_toggle_54 : decode cX8_toggle 54 = .ok (.iaload, 1) := by decide +kernel
theorem dX8_toggle_55 : decode cX8_toggle 55 = .ok (.iconst 1, 1) := by decide +kernel
theorem dX8_toggle_56 : decode cX8_toggle 56 = .ok (.iload_n 2, 1) := by decide +kernel
theorem dX8_toggle_57 : decode cX8_toggle 57 = .ok (.ishl, 1) := by decide +kernel
theorem dX8_toggle_58 : decode cX8_toggle 58 = .ok (.ixor, 1) := by decide +kernel
theorem dX8_toggle_59 : decode cX8_toggle 59 = .ok (.iastore, 1) := by decide +kernel
theorem dX8_toggle_60 : decode cX8_toggle 60 = .ok (.aload_n 0, 1) := by decide +kernel
theorem dX8_toggle_61 : decode cX8_toggle 61 = .ok (.iload_n 1, 1) := by decide +kernel
theorem dX8_toggle_62 : decode cX8_toggle 62 = .ok (.iload_n 2, 1) := by decide +kernel
theorem dX8_toggle_63 : decode cX8_toggle 63 = .ok (.iload_n 3, 1) := by decide +kernel
theorem dX8_toggle_64 : decode cX8_toggle 64 = .ok (.invokevirtual 70, 3) := by decide +kernel
theorem dX8_toggle_67 : decode cX8_toggle 67 = .ok (.ireturn, 1) := by decide +kernel
set_option maxRecDepth 20000 in
theorem ggX8_toggle_X8_areVertices : GoodIn wsX8_toggle wsX8_areVertices := goodIn_r _ [6, 7, 8, 9, 5, 10, 11, 12, 13, 14, 15, 16, 17, 27, 28, 29, 30, 31, 32, 33, 34, 35, 36, 37, 38, 39, 40, 41, 42, 43] (by decide +kernel) (by decide +kernel)
set_option maxRecDepth 20000 in
theorem gX8_toggle_X8_areVertices : GoodIn wsX8_toggle (wsV RX8 77 RX8 yX8_areVertices wsX8_areVertices) := goodIn_app (goodIn_of _ (by decide +kernel)) ggX8_toggle_X8_areVertices
set_option maxRecDepth 20000 in
theorem ggX8_toggle_X8_goes : GoodIn wsX8_toggle wsX8_goes := goodIn_r _ [21, 22, 27, 28, 29, 30, 31, 32, 33, 34, 35, 36, 37, 38, 39, 40, 41, 42, 43] (by decide +kernel) (by decide +kernel)
set_option maxRecDepth 20000 in
theorem gX8_toggle_X8_goes : GoodIn wsX8_toggle (wsV RX8 73 RX8 yX8_goes wsX8_goes) := goodIn_app (goodIn_of _ (by decide +kernel)) ggX8_toggle_X8_goes
set_option maxRecDepth 20000 in
theorem ggX8_toggle_X8_hasEdge : GoodIn wsX8_toggle wsX8_hasEdge := goodIn_r _ [26, 1, 27, 28, 29, 30, 31, 32, 33, 34, 35, 36, 37, 38, 39, 40, 41, 42, 43] (by decide +kernel) (by decide +kernel)
set_option maxRecDepth 20000 in
theorem gX8_toggle_X8_hasEdge : GoodIn wsX8_toggle (wsV RX8 70 RX8 yX8_hasEdge wsX8_hasEdge) := goodIn_app (goodIn_of _ (by decide +kernel)) ggX8_toggle_X8_hasEdge
theorem in_X8_toggle_CanonCoteModel : ∀ w ∈ u_ws RX8 TX8 17, w ∈ wsX8_toggle := by decide +kernel
theorem wd_X8_toggle_1 : Cond.fieldLink RX8 13 (TX8 1).1 (TX8 1).2.1 (TX8 1).2.2.1 ∈ wsX8_toggle := by decide +kernel
def r_X8_toggle : Room := { frames := 5, cells := 0, slots := 0, locals := 99 }
set_option maxRecDepth 100000 in
set_option maxHeartbeats 4000000 in
theorem w_X8_toggle_18 {K : zK} (hk : zIs K RX8 cX8_toggle 4 wsX8_toggle (some .boolean) r_X8_toggle) {r0 : Int32} {τ0 : zST} (hq : zQ K (some (.int r0)) τ0) (F : Nat) (a0 : Nat) (a1 : Int32) (a2 : Int32) (a3 : Int32) (t0 : Int32) (t1 : Int32) (t2 : Nat) (ha0 : atCanonCoteModel (kZ K) a0) (ht2 : atCanonCoteModel (kZ K) t2) (σ : zST) (h : m_X8_toggle_18 F a0 a1 a2 a3 t0 t1 t2 σ = some (r0, τ0)) : Z K 0 0 18 [(0, .ref (eA (kZ K) a0)), (1, .int a1), (2, .int a2), (3, .int a3)] [.int t0, .int t1, .ref (eA (kZ K) t2)] σ := by
  unfold m_X8_toggle_18 at h
  obtain ⟨x5, s6, h7, h⟩ := bd_ok h
  refine Z_callV 2 hk [.int t1, .int t0] (c_X8_goes hk.loc hk.inj F t2 t1 t0 ht2 σ h7) gX8_toggle_X8_goes rfl ⟨rfl, rfl⟩ (by decide +kernel) ⟨Nat.le_of_ble_eq_true rfl, Nat.le_of_ble_eq_true rfl⟩ ht2.cell.1 (ht2.cell.2 _) rfl rfl rfl (Nat.le_of_ble_eq_true rfl) ⟨Nat.zero_le _, Nat.zero_le _⟩ dX8_toggle_18 ?_
  show Z K 0 0 21 [(0, .ref (eA (kZ K) a0)), (1, .int a1), (2, .int a2), (3, .int a3)] [.int x5] s6
  refine Z_if_ne hk (tgt := 26) dX8_toggle_21 (by decide) (fun c8 => ?_) (fun c8 => ?_)
  · have h := if_yes h c8
    refine Z_iconst hk dX8_toggle_24 zc_iconst_0 ?_
    cases h
    exact Z_zret hk (by decide) hq dX8_toggle_25
  · have h := if_no h c8
    refine Z_aload_n hk 0 dX8_toggle_26 rfl rfl ?_
    refine Z_get hk in_X8_toggle_CanonCoteModel rfl ha0.cell.1 (ha0.cell.2 _) 1 (by decide) wd_X8_toggle_1 rfl dX8_toggle_27 ?_
    refine Z_bipush hk dX8_toggle_30 zc_bipush_8 ?_
    refine Z_iload_n hk 1 dX8_toggle_32 rfl rfl ?_
    refine Z_imul hk dX8_toggle_33 ?_
    refine Z_iload_n hk 2 dX8_toggle_34 rfl rfl ?_
    refine Z_iadd hk dX8_toggle_35 ?_
    refine Z_dup2 hk dX8_toggle_36 rfl rfl ?_
    obtain ⟨i11, x9, e10, h⟩ := ldI_get h
    refine Z_iald hk (ha0.sides) i11 dX8_toggle_37 ?_
    refine Z_eqI e10 ?_
    refine Z_iconst hk dX8_toggle_38 zc_iconst_1 ?_
    refine Z_iload_n hk 3 dX8_toggle_39 rfl rfl ?_
    refine Z_ishl hk dX8_toggle_40 ?_
    refine Z_ixor hk dX8_toggle_41 ?_
    obtain ⟨i14, s12, e13, h⟩ := stI_get h
    refine Z_iast hk (ha0.sides) i14 dX8_toggle_42 ?_
    refine Z_eqS e13 ?_
    refine Z_aload_n hk 0 dX8_toggle_43 rfl rfl ?_
    refine Z_get hk in_X8_toggle_CanonCoteModel rfl ha0.cell.1 (ha0.cell.2 _) 1 (by decide) wd_X8_toggle_1 rfl dX8_toggle_44 ?_
    refine Z_bipush hk dX8_toggle_47 zc_bipush_8 ?_
    refine Z_iload_n hk 1 dX8_toggle_49 rfl rfl ?_
    refine Z_imul hk dX8_toggle_50 ?_
    refine Z_iload_n hk 3 dX8_toggle_51 rfl rfl ?_
    refine Z_iadd hk dX8_toggle_52 ?_
    refine Z_dup2 hk dX8_toggle_53 rfl rfl ?_
    obtain ⟨i17, x15, e16, h⟩ := ldI_get h
    refine Z_iald hk (ha0.sides) i17 dX8_toggle_54 ?_
    refine Z_eqI e16 ?_
    refine Z_iconst hk dX8_toggle_55 zc_iconst_1 ?_
    refine Z_iload_n hk 2 dX8_toggle_56 rfl rfl ?_
    refine Z_ishl hk dX8_toggle_57 ?_
    refine Z_ixor hk dX8_toggle_58 ?_
    obtain ⟨i20, s18, e19, h⟩ := stI_get h
    refine Z_iast hk (ha0.sides) i20 dX8_toggle_59 ?_
    refine Z_eqS e19 ?_
    refine Z_aload_n hk 0 dX8_toggle_60 rfl rfl ?_
    refine Z_iload_n hk 1 dX8_toggle_61 rfl rfl ?_
    refine Z_iload_n hk 2 dX8_toggle_62 rfl rfl ?_
    refine Z_iload_n hk 3 dX8_toggle_63 rfl rfl ?_
    obtain ⟨x21, s22, h23, h⟩ := bd_ok h
    refine Z_callV 3 hk [.int a1, .int a2, .int a3] (c_X8_hasEdge hk.loc hk.inj F a0 a1 a2 a3 ha0 s18 h23) gX8_toggle_X8_hasEdge rfl ⟨rfl, rfl⟩ (by decide +kernel) ⟨Nat.le_of_ble_eq_true rfl, Nat.le_of_ble_eq_true rfl⟩ ha0.cell.1 (ha0.cell.2 _) rfl rfl rfl (Nat.le_of_ble_eq_true rfl) ⟨Nat.zero_le _, Nat.zero_le _⟩ dX8_toggle_64 ?_
    show Z K 0 0 67 [(0, .ref (eA (kZ K) a0)), (1, .int a1), (2, .int a2), (3, .int a3)] [.int x21] s22
    obtain ⟨hz, h⟩ := gd_some h
    cases h
    exact Z_zret hk hz hq dX8_toggle_67
set_option maxRecDepth 100000 in
set_option maxHeartbeats 4000000 in
theorem w_X8_toggle {K : zK} (hk : zIs K RX8 cX8_toggle 4 wsX8_toggle (some .boolean) r_X8_toggle) {r0 : Int32} {τ0 : zST} (hq : zQ K (some (.int r0)) τ0) (F : Nat) (a0 : Nat) (a1 : Int32) (a2 : Int32) (a3 : Int32) (ha0 : atCanonCoteModel (kZ K) a0) (σ : zST) (h : m_X8_toggle F a0 a1 a2 a3 σ = some (r0, τ0)) : Z K 0 0 0 [(0, .ref (eA (kZ K) a0)), (1, .int a1), (2, .int a2), (3, .int a3)] [] σ := by
  unfold m_X8_toggle at h
  refine Z_aload_n hk 0 dX8_toggle_0 rfl rfl ?_
  refine Z_aload_n hk 0 dX8_toggle_1 rfl rfl ?_
  refine Z_iload_n hk 1 dX8_toggle_2 rfl rfl ?_
  refine Z_iload_n hk 2 dX8_toggle_3 rfl rfl ?_
  refine Z_iload_n hk 3 dX8_toggle_4 rfl rfl ?_
  obtain ⟨x1, s2, h3, h⟩ := bd_ok h
  refine Z_callV 3 hk [.int a1, .int a2, .int a3] (c_X8_areVertices hk.loc hk.inj F a0 a1 a2 a3 ha0 σ h3) gX8_toggle_X8_areVertices rfl ⟨rfl, rfl⟩ (by decide +kernel) ⟨Nat.le_of_ble_eq_true rfl, Nat.le_of_ble_eq_true rfl⟩ ha0.cell.1 (ha0.cell.2 _) rfl rfl rfl (Nat.le_of_ble_eq_true rfl) ⟨Nat.zero_le _, Nat.zero_le _⟩ dX8_toggle_5 ?_
  show Z K 0 0 8 [(0, .ref (eA (kZ K) a0)), (1, .int a1), (2, .int a2), (3, .int a3)] [.int x1, .ref (eA (kZ K) a0)] s2
  refine Z_iload_n hk 2 dX8_toggle_8 rfl rfl ?_
  refine Z_iload_n hk 3 dX8_toggle_9 rfl rfl ?_
  refine Z_icmp_eq hk (tgt := 17) dX8_toggle_10 (by decide) (fun c4 => ?_) (fun c4 => ?_)
  · have h := if_yes h c4
    refine Z_iconst hk dX8_toggle_17 zc_iconst_0 ?_
    refine Z_sub [0, 1, 2, 3] rfl ?_
    exact w_X8_toggle_18 hk hq F a0 a1 a2 a3 0 x1 a0 ha0 ha0 s2 h
  · have h := if_no h c4
    refine Z_iconst hk dX8_toggle_13 zc_iconst_1 ?_
    refine Z_goto hk (tgt := 18) dX8_toggle_14 (by decide) ?_
    refine Z_sub [0, 1, 2, 3] rfl ?_
    exact w_X8_toggle_18 hk hq F a0 a1 a2 a3 1 x1 a0 ha0 ha0 s2 h
theorem c_X8_toggle {l : Launch} {E : zE} (hL : eL E) (hJ : eJ E) (F : Nat) (a0 : Nat) (a1 : Int32) (a2 : Int32) (a3 : Int32) (ha0 : atCanonCoteModel E a0) (σ : zST) {r0 : Int32} {τ0 : zST} (h : m_X8_toggle F a0 a1 a2 a3 σ = some (r0, τ0)) : Ct l yX8_toggle wsX8_toggle r_X8_toggle E [.ref (eA E a0), .int a1, .int a2, .int a3] σ (some (.int r0)) τ0 := by
  refine Ct_of (by decide) rfl hL hJ (Nat.le_of_ble_eq_true rfl) (fun K hE hl hk hq => ?_)
  subst hE
  exact w_X8_toggle hk hq F a0 a1 a2 a3 ha0 σ h
end

-- CanonCoteModel.setColour (III)I
section
theorem dX8_setColour_0 : decode cX8_setColour 0 = .ok (.aload_n 0, 1) := by decide +kernel
theorem dX8_setColour_1 : decode cX8_setColour 1 = .ok (.aload_n 0, 1) := by decide +kernel
theorem dX8_setColour_2 : decode cX8_setColour 2 = .ok (.iload_n 1, 1) := by decide +kernel
theorem dX8_setColour_3 : decode cX8_setColour 3 = .ok (.iload_n 2, 1) := by decide +kernel
theorem dX8_setColour_4 : decode cX8_setColour 4 = .ok (.invokevirtual 66, 3) := by decide +kernel
theorem dX8_setColour_7 : decode cX8_setColour 7 = .ok (.iload_n 3, 1) := by decide +kernel
theorem dX8_setColour_8 : decode cX8_setColour 8 = .ok (.iconst 0, 1) := by decide +kernel
theorem dX8_setColour_9 : decode cX8_setColour 9 = .ok (.bipush 7, 2) := by decide +kernel
theorem dX8_setColour_11 : decode cX8_setColour 11 = .ok (.invokestatic 58, 3) := by decide +kernel
theorem dX8_setColour_14 : decode cX8_setColour 14 = .ok (.invokevirtual 73, 3) := by decide +kernel
theorem dX8_setColour_17 : decode cX8_setColour 17 = .ok (.ifCond .ne 5, 3) := by decide +kernel
theorem dX8_setColour_20 : decode cX8_setColour 20 = .ok (.iconst 0, 1) := by decide +kernel
theorem dX8_setColour_21 : decode cX8_setColour 21 = .ok (.ireturn, 1) := by decide +kernel
theorem dX8_setColour_22 : decode cX8_setColour 22 = .ok (.aload_n 0, 1) := by decide +kernel
theorem dX8_setColour_23 : decode cX8_setColour 23 = .ok (.getfield 16, 3) := by decide +kernel
theorem dX8_setColour_26 : decode cX8_setColour 26 = .ok (.bipush 8, 2) := by decide +kernel
theorem dX8_setColour_28 : decode cX8_setColour 28 = .ok (.iload_n 1, 1) := by decide +kernel
theorem dX8_setColour_29 : decode cX8_setColour 29 = .ok (.imul, 1) := by decide +kernel
theorem dX8_setColour_30 : decode cX8_setColour 30 = .ok (.iload_n 2, 1) := by decide +kernel
theorem dX8_setColour_31 : decode cX8_setColour 31 = .ok (.iadd, 1) := by decide +kernel
theorem dX8_setColour_32 : decode cX8_setColour 32 = .ok (.iaload, 1) := by decide +kernel
theorem dX8_setColour_33 : decode cX8_setColour 33 = .ok (.istore 4, 2) := by decide +kernel
theorem dX8_setColour_35 : decode cX8_setColour 35 = .ok (.aload_n 0, 1) := by decide +kernel
theorem dX8_setColour_36 : decode cX8_setColour 36 = .ok (.getfield 16, 3) := by decide +kernel
theorem dX8_setColour_39 : decode cX8_setColour 39 = .ok (.bipush 8, 2) := by decide +kernel
theorem dX8_setColour_41 : decode cX8_setColour 41 = .ok (.iload_n 1, 1) := by decide +kernel
theorem dX8_setColour_42 : decode cX8_setColour 42 = .ok (.imul, 1) := by decide +kernel
theorem dX8_setColour_43 : decode cX8_setColour 43 = .ok (.iload_n 2, 1) := by decide +kernel
theorem dX8_setColour_44 : decode cX8_setColour 44 = .ok (.iadd, 1) := by decide +kernel
theorem dX8_setColour_45 : decode cX8_setColour 45 = .ok (.iload_n 3, 1) := by decide +kernel
theorem dX8_setColour_46 : decode cX8_setColour 46 = .ok (.iastore, 1) := by decide +kernel
theorem dX8_setColour_47 : decode cX8_setColour 47 = .ok (.iload 4, 2) := by decide +kernel
theorem dX8_setColour_49 : decode cX8_setColour 49 = .ok (.ireturn, 1) := by decide +kernel
set_option maxRecDepth 20000 in
theorem ggX8_setColour_X8_isVertex : GoodIn wsX8_setColour wsX8_isVertex := goodIn_r _ [6, 7, 8, 9, 5, 10, 11, 12, 13, 19, 20, 21, 22, 23, 24, 25, 26, 27, 28, 29, 30, 31, 32, 33, 34, 35] (by decide +kernel) (by decide +kernel)
set_option maxRecDepth 20000 in
theorem gX8_setColour_X8_isVertex : GoodIn wsX8_setColour (wsV RX8 66 RX8 yX8_isVertex wsX8_isVertex) := goodIn_app (goodIn_of _ (by decide +kernel)) ggX8_setColour_X8_isVertex
set_option maxRecDepth 20000 in
theorem ggX8_setColour_X8_in : GoodIn wsX8_setColour wsX8_in := goodIn_r _ [13] (by decide +kernel) (by decide +kernel)
set_option maxRecDepth 20000 in
theorem gX8_setColour_X8_in : GoodIn wsX8_setColour (va_wsS RX8 58 yX8_in wsX8_in) := goodIn_app (goodIn_of _ (by decide +kernel)) ggX8_setColour_X8_in
set_option maxRecDepth 20000 in
theorem ggX8_setColour_X8_goes : GoodIn wsX8_setColour wsX8_goes := goodIn_r _ [17, 18, 19, 20, 21, 22, 23, 24, 25, 26, 27, 28, 29, 30, 31, 32, 33, 34, 35] (by decide +kernel) (by decide +kernel)
set_option maxRecDepth 20000 in
theorem gX8_setColour_X8_goes : GoodIn wsX8_setColour (wsV RX8 73 RX8 yX8_goes wsX8_goes) := goodIn_app (goodIn_of _ (by decide +kernel)) ggX8_setColour_X8_goes
theorem in_X8_setColour_CanonCoteModel : ∀ w ∈ u_ws RX8 TX8 17, w ∈ wsX8_setColour := by decide +kernel
theorem wd_X8_setColour_1 : Cond.fieldLink RX8 16 (TX8 2).1 (TX8 2).2.1 (TX8 2).2.2.1 ∈ wsX8_setColour := by decide +kernel
def r_X8_setColour : Room := { frames := 4, cells := 0, slots := 0, locals := 76 }
set_option maxRecDepth 100000 in
set_option maxHeartbeats 4000000 in
theorem w_X8_setColour {K : zK} (hk : zIs K RX8 cX8_setColour 5 wsX8_setColour (some .int) r_X8_setColour) {r0 : Int32} {τ0 : zST} (hq : zQ K (some (.int r0)) τ0) (F : Nat) (a0 : Nat) (a1 : Int32) (a2 : Int32) (a3 : Int32) (ha0 : atCanonCoteModel (kZ K) a0) (σ : zST) (h : m_X8_setColour F a0 a1 a2 a3 σ = some (r0, τ0)) : Z K 0 0 0 [(0, .ref (eA (kZ K) a0)), (1, .int a1), (2, .int a2), (3, .int a3)] [] σ := by
  unfold m_X8_setColour at h
  refine Z_aload_n hk 0 dX8_setColour_0 rfl rfl ?_
  refine Z_aload_n hk 0 dX8_setColour_1 rfl rfl ?_
  refine Z_iload_n hk 1 dX8_setColour_2 rfl rfl ?_
  refine Z_iload_n hk 2 dX8_setColour_3 rfl rfl ?_
  obtain ⟨x1, s2, h3, h⟩ := bd_ok h
  refine Z_callV 2 hk [.int a1, .int a2] (c_X8_isVertex hk.loc hk.inj F a0 a1 a2 ha0 σ h3) gX8_setColour_X8_isVertex rfl ⟨rfl, rfl⟩ (by decide +kernel) ⟨Nat.le_of_ble_eq_true rfl, Nat.le_of_ble_eq_true rfl⟩ ha0.cell.1 (ha0.cell.2 _) rfl rfl rfl (Nat.le_of_ble_eq_true rfl) ⟨Nat.zero_le _, Nat.zero_le _⟩ dX8_setColour_4 ?_
  show Z K 0 0 7 [(0, .ref (eA (kZ K) a0)), (1, .int a1), (2, .int a2), (3, .int a3)] [.int x1, .ref (eA (kZ K) a0)] s2
  refine Z_iload_n hk 3 dX8_setColour_7 rfl rfl ?_
  refine Z_iconst hk dX8_setColour_8 zc_iconst_0 ?_
  refine Z_bipush hk dX8_setColour_9 zc_bipush_7 ?_
  obtain ⟨x4, s5, h6, h⟩ := bd_ok h
  refine Z_callT 3 hk [.int a3, .int 0, .int 7] (c_X8_in hk.loc hk.inj F a3 0 7 s2 h6) gX8_setColour_X8_in rfl ⟨rfl, rfl⟩ (by decide +kernel) ⟨Nat.le_of_ble_eq_true rfl, Nat.le_of_ble_eq_true rfl⟩ rfl rfl (Nat.le_of_ble_eq_true rfl) ⟨Nat.zero_le _, Nat.zero_le _⟩ dX8_setColour_11 ?_
  show Z K 0 0 14 [(0, .ref (eA (kZ K) a0)), (1, .int a1), (2, .int a2), (3, .int a3)] [.int x4, .int x1, .ref (eA (kZ K) a0)] s5
  obtain ⟨x7, s8, h9, h⟩ := bd_ok h
  refine Z_callV 2 hk [.int x1, .int x4] (c_X8_goes hk.loc hk.inj F a0 x1 x4 ha0 s5 h9) gX8_setColour_X8_goes rfl ⟨rfl, rfl⟩ (by decide +kernel) ⟨Nat.le_of_ble_eq_true rfl, Nat.le_of_ble_eq_true rfl⟩ ha0.cell.1 (ha0.cell.2 _) rfl rfl rfl (Nat.le_of_ble_eq_true rfl) ⟨Nat.zero_le _, Nat.zero_le _⟩ dX8_setColour_14 ?_
  show Z K 0 0 17 [(0, .ref (eA (kZ K) a0)), (1, .int a1), (2, .int a2), (3, .int a3)] [.int x7] s8
  refine Z_if_ne hk (tgt := 22) dX8_setColour_17 (by decide) (fun c10 => ?_) (fun c10 => ?_)
  · have h := if_yes h c10
    refine Z_iconst hk dX8_setColour_20 zc_iconst_0 ?_
    cases h
    exact Z_iret hk hq dX8_setColour_21
  · have h := if_no h c10
    refine Z_aload_n hk 0 dX8_setColour_22 rfl rfl ?_
    refine Z_get hk in_X8_setColour_CanonCoteModel rfl ha0.cell.1 (ha0.cell.2 _) 2 (by decide) wd_X8_setColour_1 rfl dX8_setColour_23 ?_
    refine Z_bipush hk dX8_setColour_26 zc_bipush_8 ?_
    refine Z_iload_n hk 1 dX8_setColour_28 rfl rfl ?_
    refine Z_imul hk dX8_setColour_29 ?_
    refine Z_iload_n hk 2 dX8_setColour_30 rfl rfl ?_
    refine Z_iadd hk dX8_setColour_31 ?_
    obtain ⟨i13, x11, e12, h⟩ := ldI_get h
    refine Z_iald hk (ha0.colours) i13 dX8_setColour_32 ?_
    refine Z_eqI e12 ?_
    refine Z_istore hk (lv' := [(4, .int x11), (0, .ref (eA (kZ K) a0)), (1, .int a1), (2, .int a2), (3, .int a3)]) dX8_setColour_33 (by decide) rfl ?_
    refine Z_aload_n hk 1 dX8_setColour_35 rfl rfl ?_
    refine Z_get hk in_X8_setColour_CanonCoteModel rfl ha0.cell.1 (ha0.cell.2 _) 2 (by decide) wd_X8_setColour_1 rfl dX8_setColour_36 ?_
    refine Z_bipush hk dX8_setColour_39 zc_bipush_8 ?_
    refine Z_iload_n hk 2 dX8_setColour_41 rfl rfl ?_
    refine Z_imul hk dX8_setColour_42 ?_
    refine Z_iload_n hk 3 dX8_setColour_43 rfl rfl ?_
    refine Z_iadd hk dX8_setColour_44 ?_
    refine Z_iload_n hk 4 dX8_setColour_45 rfl rfl ?_
    obtain ⟨i16, s14, e15, h⟩ := stI_get h
    refine Z_iast hk (ha0.colours) i16 dX8_setColour_46 ?_
    refine Z_eqS e15 ?_
    refine Z_iload hk 0 dX8_setColour_47 rfl ?_
    cases h
    exact Z_iret hk hq dX8_setColour_49
theorem c_X8_setColour {l : Launch} {E : zE} (hL : eL E) (hJ : eJ E) (F : Nat) (a0 : Nat) (a1 : Int32) (a2 : Int32) (a3 : Int32) (ha0 : atCanonCoteModel E a0) (σ : zST) {r0 : Int32} {τ0 : zST} (h : m_X8_setColour F a0 a1 a2 a3 σ = some (r0, τ0)) : Ct l yX8_setColour wsX8_setColour r_X8_setColour E [.ref (eA E a0), .int a1, .int a2, .int a3] σ (some (.int r0)) τ0 := by
  refine Ct_of (by decide) rfl hL hJ (Nat.le_of_ble_eq_true rfl) (fun K hE hl hk hq => ?_)
  subst hE
  exact w_X8_setColour hk hq F a0 a1 a2 a3 ha0 σ h
end

-- CanonCoteModel.swapped (III)I
section
theorem dX8_swapped_0 : decode cX8_swapped 0 = .ok (.iload_n 0, 1) := by decide +kernel
theorem dX8_swapped_1 : decode cX8_swapped 1 = .ok (.iload_n 1, 1) := by decide +kernel
theorem dX8_swapped_2 : decode cX8_swapped 2 = .ok (.ishr, 1) := by decide +kernel
theorem dX8_swapped_3 : decode cX8_swapped 3 = .ok (.iload_n 0, 1) := by decide +kernel
theorem dX8_swapped_4 : decode cX8_swapped 4 = .ok (.iload_n 2, 1) := by decide +kernel
theorem dX8_swapped_5 : decode cX8_swapped 5 = .ok (.ishr, 1) := by decide +kernel
theorem dX8_swapped_6 : decode cX8_swapped 6 = .ok (.ixor, 1) := by decide +kernel
theorem dX8_swapped_7 : decode cX8_swapped 7 = .ok (.iconst 1, 1) := by decide +kernel
theorem dX8_swapped_8 : decode cX8_swapped 8 = .ok (.iand, 1) := by decide +kernel
theorem dX8_swapped_9 : decode cX8_swapped 9 = .ok (.istore_n 3, 1) := by decide +kernel
theorem dX8_swapped_10 : decode cX8_swapped 10 = .ok (.iload_n 0, 1) := by decide +kernel
theorem dX8_swapped_11 : decode cX8_swapped 11 = .ok (.iload_n 3, 1) := by decide +kernel
theorem dX8_swapped_12 : decode cX8_swapped 12 = .ok (.iload_n 1, 1) := by decide +kernel
theorem dX8_swapped_13 : decode cX8_swapped 13 = .ok (.ishl, 1) := by decide +kernel
theorem dX8_swapped_14 : decode cX8_swapped 14 = .ok (.iload_n 3, 1) := by decide +kernel
theorem dX8_swapped_15 : decode cX8_swapped 15 = .ok (.iload_n 2, 1) := by decide +kernel
theorem dX8_swapped_16 : decode cX8_swapped 16 = .ok (.ishl, 1) := by decide +kernel
theorem dX8_swapped_17 : decode cX8_swapped 17 = .ok (.ior, 1) := by decide +kernel
theorem dX8_swapped_18 : decode cX8_swapped 18 = .ok (.ixor, 1) := by decide +kernel
theorem dX8_swapped_19 : decode cX8_swapped 19 = .ok (.ireturn, 1) := by decide +kernel
def r_X8_swapped : Room := { frames := 1, cells := 0, slots := 0, locals := 12 }
set_option maxRecDepth 100000 in
set_option maxHeartbeats 4000000 in
theorem w_X8_swapped {K : zK} (hk : zIs K RX8 cX8_swapped 4 wsX8_swapped (some .int) r_X8_swapped) {r0 : Int32} {τ0 : zST} (hq : zQ K (some (.int r0)) τ0) (F : Nat) (a0 : Int32) (a1 : Int32) (a2 : Int32) (σ : zST) (h : m_X8_swapped F a0 a1 a2 σ = some (r0, τ0)) : Z K 0 0 0 [(0, .int a0), (1, .int a1), (2, .int a2)] [] σ := by
  unfold m_X8_swapped at h
  refine Z_iload_n hk 0 dX8_swapped_0 rfl rfl ?_
  refine Z_iload_n hk 1 dX8_swapped_1 rfl rfl ?_
  refine Z_ishr hk dX8_swapped_2 ?_
  refine Z_iload_n hk 0 dX8_swapped_3 rfl rfl ?_
  refine Z_iload_n hk 2 dX8_swapped_4 rfl rfl ?_
  refine Z_ishr hk dX8_swapped_5 ?_
  refine Z_ixor hk dX8_swapped_6 ?_
  refine Z_iconst hk dX8_swapped_7 zc_iconst_1 ?_
  refine Z_iand hk dX8_swapped_8 ?_
  obtain ⟨x1, e2, h⟩ := nm_get h
  refine Z_eqI e2 ?_
  refine Z_istore_n hk (lv' := [(3, .int x1), (0, .int a0), (1, .int a1), (2, .int a2)]) dX8_swapped_9 rfl (by decide) rfl ?_
  refine Z_iload_n hk 1 dX8_swapped_10 rfl rfl ?_
  refine Z_iload_n hk 0 dX8_swapped_11 rfl rfl ?_
  refine Z_iload_n hk 2 dX8_swapped_12 rfl rfl ?_
  refine Z_ishl hk dX8_swapped_13 ?_
  refine Z_iload_n hk 0 dX8_swapped_14 rfl rfl ?_
  refine Z_iload_n hk 3 dX8_swapped_15 rfl rfl ?_
  refine Z_ishl hk dX8_swapped_16 ?_
  refine Z_ior hk dX8_swapped_17 ?_
  refine Z_ixor hk dX8_swapped_18 ?_
  cases h
  exact Z_iret hk hq dX8_swapped_19
theorem c_X8_swapped {l : Launch} {E : zE} (hL : eL E) (hJ : eJ E) (F : Nat) (a0 : Int32) (a1 : Int32) (a2 : Int32) (σ : zST) {r0 : Int32} {τ0 : zST} (h : m_X8_swapped F a0 a1 a2 σ = some (r0, τ0)) : Ct l yX8_swapped wsX8_swapped r_X8_swapped E [.int a0, .int a1, .int a2] σ (some (.int r0)) τ0 := by
  refine Ct_of (by decide) rfl hL hJ (Nat.le_of_ble_eq_true rfl) (fun K hE hl hk hq => ?_)
  subst hE
  exact w_X8_swapped hk hq F a0 a1 a2 σ h
end

-- CanonCoteModel.swap (III)V
section
theorem dX8_swap_0 : decode cX8_swap 0 = .ok (.aload_n 0, 1) := by decide +kernel
theorem dX8_swap_1 : decode cX8_swap 1 = .ok (.aload_n 0, 1) := by decide +kernel
theorem dX8_swap_2 : decode cX8_swap 2 = .ok (.iload_n 1, 1) := by decide +kernel
theorem dX8_swap_3 : decode cX8_swap 3 = .ok (.iload_n 2, 1) := by decide +kernel
theorem dX8_swap_4 : decode cX8_swap 4 = .ok (.iload_n 3, 1) := by decide +kernel
theorem dX8_swap_5 : decode cX8_swap 5 = .ok (.invokevirtual 77, 3) := by decide +kernel
theorem dX8_swap_8 : decode cX8_swap 8 = .ok (.iconst 1, 1) := by decide +kernel
theorem dX8_swap_9 : decode cX8_swap 9 = .ok (.invokevirtual 73, 3) := by decide +kernel
theorem dX8_swap_12 : decode cX8_swap 12 = .ok (.ifCond .eq 133, 3) := by decide +kernel
theorem dX8_swap_15 : decode cX8_swap 15 = .ok (.iload_n 2, 1) := by decide +kernel
theorem dX8_swap_16 : decode cX8_swap 16 = .ok (.iload_n 3, 1) := by decide +kernel
theorem dX8_swap_17 : decode cX8_swap 17 = .ok (.if_icmp .eq 128, 3) := by decide +kernel
theorem dX8_swap_20 : decode cX8_swap 20 = .ok (.bipush 8, 2) := by decide +kernel
theorem dX8_swap_22 : decode cX8_swap 22 = .ok (.iload_n 1, 1) := by decide +kernel
theorem dX8_swap_23 : decode cX8_swap 23 = .ok (.imul, 1) := by decide +kernel
theorem dX8_swap_24 : decode cX8_swap 24 = .ok (.iload_n 2, 1) := by decide +kernel
theorem dX8_swap_25 : decode cX8_swap 25 = .ok (.iadd, 1) := by decide +kernel
theorem dX8_swap_26 : decode cX8_swap 26 = .ok (.istore 4, 2) := by decide +kernel
theorem dX8_swap_28 : decode cX8_swap 28 = .ok (.bipush 8, 2) := by decide +kernel
theorem dX8_swap_30 : decode cX8_swap 30 = .ok (.iload_n 1, 1) := by decide +kernel
theorem dX8_swap_31 : decode cX8_swap 31 = .ok (.imul, 1) := by decide +kernel
theorem dX8_swap_32 : decode cX8_swap 32 = .ok (.iload_n 3, 1) := by decide +kernel
theorem dX8_swap_33 : decode cX8_swap 33 = .ok (.iadd, 1) := by decide +kernel
theorem dX8_swap_34 : decode cX8_swap 34 = .ok (.istore 5, 2) := by decide +kernel
theorem dX8_swap_36 : decode cX8_swap 36 = .ok (.aload_n 0, 1) := by decide +kernel
theorem dX8_swap_37 : decode cX8_swap 37 = .ok (.getfield 13, 3) := by decide +kernel
theorem dX8_swap_40 : decode cX8_swap 40 = .ok (.iload 4, 2) := by decide +kernel
theorem dX8_swap_42 : decode cX8_swap 42 = .ok (.iaload, 1) := by decide +kernel
theorem dX8_swap_43 : decode cX8_swap 43 = .ok (.istore 6, 2) := by decide +kernel
theorem dX8_swap_45 : decode cX8_swap 45 = .ok (.aload_n 0, 1) := by decide +kernel
theorem dX8_swap_46 : decode cX8_swap 46 = .ok (.getfield 13, 3) := by decide +kernel
theorem dX8_swap_49 : decode cX8_swap 49 = .ok (.iload 4, 2) := by decide +kernel
theorem dX8_swap_51 : decode cX8_swap 51 = .ok (.aload_n 0, 1) := by decide +kernel
theorem dX8_swap_52 : decode cX8_swap 52 = .ok (.getfield 13, 3) := by decide +kernel
theorem dX8_swap_55 : decode cX8_swap 55 = .ok (.iload 5, 2) := by decide +kernel
theorem dX8_swap_57 : decode cX8_swap 57 = .ok (.iaload, 1) := by decide +kernel
theorem dX8_swap_58 : decode cX8_swap 58 = .ok (.iastore, 1) := by decide +kernel
theorem dX8_swap_59 : decode cX8_swap 59 = .ok (.aload_n 0, 1) := by decide +kernel
theorem dX8_swap_60 : decode cX8_swap 60 = .ok (.getfield 13, 3) := by decide +kernel
theorem dX8_swap_63 : decode cX8_swap 63 = .ok (.iload 5, 2) := by decide +kernel
theorem dX8_swap_65 : decode cX8_swap 65 = .ok (.iload 6, 2) := by decide +kernel
theorem dX8_swap_67 : decode cX8_swap 67 = .ok (.iastore, 1) := by decide +kernel
theorem dX8_swap_68 : decode cX8_swap 68 = .ok (.aload_n 0, 1) := by decide +kernel
theorem dX8_swap_69 : decode cX8_swap 69 = .ok (.getfield 16, 3) := by decide +kernel
theorem dX8_swap_72 : decode cX8_swap 72 = .ok (.iload 4, 2) := by decide +kernel
theorem dX8_swap_74 : decode cX8_swap 74 = .ok (.iaload, 1) := by decide +kernel
theorem dX8_swap_75 : decode cX8_swap 75 = .ok (.istore 7, 2) := by decide +kernel
theorem dX8_swap_77 : decode cX8_swap 77 = .ok (.aload_n 0, 1) := by decide +kernel
theorem dX8_swap_78 : decode cX8_swap 78 = .ok (.getfield 16, 3) := by decide +kernel
theorem dX8_swap_81 : decode cX8_swap 81 = .ok (.iload 4, 2) := by decide +kernel
theorem dX8_swap_83 : decode cX8_swap 83 = .ok (.aload_n 0, 1) := by decide +kernel
theorem dX8_swap_84 : decode cX8_swap 84 = .ok (.getfield 16, 3) := by decide +kernel
theorem dX8_swap_87 : decode cX8_swap 87 = .ok (.iload 5, 2) := by decide +kernel
theorem dX8_swap_89 : decode cX8_swap 89 = .ok (.iaload, 1) := by decide +kernel
theorem dX8_swap_90 : decode cX8_swap 90 = .ok (.iastore, 1) := by decide +kernel
theorem dX8_swap_91 : decode cX8_swap 91 = .ok (.aload_n 0, 1) := by decide +kernel
theorem dX8_swap_92 : decode cX8_swap 92 = .ok (.getfield 16, 3) := by decide +kernel
theorem dX8_swap_95 : decode cX8_swap 95 = .ok (.iload 5, 2) := by decide +kernel
theorem dX8_swap_97 : decode cX8_swap 97 = .ok (.iload 7, 2) := by decide +kernel
theorem dX8_swap_99 : decode cX8_swap 99 = .ok (.iastore, 1) := by decide +kernel
theorem dX8_swap_100 : decode cX8_swap 100 = .ok (.iconst 0, 1) := by decide +kernel
theorem dX8_swap_101 : decode cX8_swap 101 = .ok (.istore 8, 2) := by decide +kernel
theorem dX8_swap_103 : decode cX8_swap 103 = .ok (.iload 8, 2) := by decide +kernel
theorem dX8_swap_105 : decode cX8_swap 105 = .ok (.bipush 8, 2) := by decide +kernel
theorem dX8_swap_107 : decode cX8_swap 107 = .ok (.if_icmp .ge 38, 3) := by decide +kernel
theorem dX8_swap_110 : decode cX8_swap 110 = .ok (.aload_n 0, 1) := by decide +kernel
theorem dX8_swap_111 : decode cX8_swap 111 = .ok (.getfield 13, 3) := by decide +kernel
theorem dX8_swap_114 : decode cX8_swap 114 = .ok (.bipush 8, 2) := by decide +kernel
theorem dX8_swap_116 : decode cX8_swap 116 = .ok (.iload_n 1, 1) := by decide +kernel
theorem dX8_swap_117 : decode cX8_swap 117 = .ok (.imul, 1) := by decide +kernel
theorem dX8_swap_118 : decode cX8_swap 118 = .ok (.iload 8, 2) := by decide +kernel
theorem dX8_swap_120 : decode cX8_swap 120 = .ok (.iadd, 1) := by decide +kernel
theorem dX8_swap_121 : decode cX8_swap 121 = .ok (.aload_n 0, 1) := by decide +kernel
theorem dX8_swap_122 : decode cX8_swap 122 = .ok (.getfield 13, 3) := by decide +kernel
theorem dX8_swap_125 : decode cX8_swap 125 = .ok (.bipush 8, 2) := by decide +kernel
theorem dX8_swap_127 : decode cX8_swap 127 = .ok (.iload_n 1, 1) := by decide +kernel
theorem dX8_swap_128 : decode cX8_swap 128 = .ok (.imul, 1) := by decide +kernel
theorem dX8_swap_129 : decode cX8_swap 129 = .ok (.iload 8, 2) := by decide +kernel
theorem dX8_swap_131 : decode cX8_swap 131 = .ok (.iadd, 1) := by decide +kernel
theorem dX8_swap_132 : decode cX8_swap 132 = .ok (.iaload, 1) := by decide +kernel
theorem dX8_swap_133 : decode cX8_swap 133 = .ok (.iload_n 2, 1) := by decide +kernel
theorem dX8_swap_134 : decode cX8_swap 134 = .ok (.iload_n 3, 1) := by decide +kernel
theorem dX8_swap_135 : decode cX8_swap 135 = .ok (.invokestatic 80, 3) := by decide +kernel
theorem dX8_swap_138 : decode cX8_swap 138 = .ok (.iastore, 1) := by decide +kernel
theorem dX8_swap_139 : decode cX8_swap 139 = .ok (.iinc 8 1, 3) := by decide +kernel
theorem dX8_swap_142 : decode cX8_swap 142 = .ok (.goto (-39), 3) := by decide +kernel
theorem dX8_swap_145 : decode cX8_swap 145 = .ok (.return_, 1) := by decide +kernel
set_option maxRecDepth 20000 in
theorem ggX8_swap_X8_areVertices : GoodIn wsX8_swap wsX8_areVertices := goodIn_r _ [7, 8, 9, 10, 6, 11, 12, 13, 14, 15, 16, 17, 18, 27, 28, 29, 30, 31, 32, 33, 34, 35, 36, 37, 38, 39, 40, 41, 42, 43] (by decide +kernel) (by decide +kernel)
set_option maxRecDepth 20000 in
theorem gX8_swap_X8_areVertices : GoodIn wsX8_swap (wsV RX8 77 RX8 yX8_areVertices wsX8_areVertices) := goodIn_app (goodIn_of _ (by decide +kernel)) ggX8_swap_X8_areVertices
set_option maxRecDepth 20000 in
theorem ggX8_swap_X8_goes : GoodIn wsX8_swap wsX8_goes := goodIn_r _ [22, 23, 27, 28, 29, 30, 31, 32, 33, 34, 35, 36, 37, 38, 39, 40, 41, 42, 43] (by decide +kernel) (by decide +kernel)
set_option maxRecDepth 20000 in
theorem gX8_swap_X8_goes : GoodIn wsX8_swap (wsV RX8 73 RX8 yX8_goes wsX8_goes) := goodIn_app (goodIn_of _ (by decide +kernel)) ggX8_swap_X8_goes
set_option maxRecDepth 20000 in
theorem ggX8_swap_X8_swapped : GoodIn wsX8_swap wsX8_swapped := goodIn_r _ [26] (by decide +kernel) (by decide +kernel)
set_option maxRecDepth 20000 in
theorem gX8_swap_X8_swapped : GoodIn wsX8_swap (va_wsS RX8 80 yX8_swapped wsX8_swapped) := goodIn_app (goodIn_of _ (by decide +kernel)) ggX8_swap_X8_swapped
theorem in_X8_swap_CanonCoteModel : ∀ w ∈ u_ws RX8 TX8 17, w ∈ wsX8_swap := by decide +kernel
theorem wd_X8_swap_1 : Cond.fieldLink RX8 13 (TX8 1).1 (TX8 1).2.1 (TX8 1).2.2.1 ∈ wsX8_swap := by decide +kernel
theorem wd_X8_swap_2 : Cond.fieldLink RX8 16 (TX8 2).1 (TX8 2).2.1 (TX8 2).2.2.1 ∈ wsX8_swap := by decide +kernel
def r_X8_swap : Room := { frames := 5, cells := 0, slots := 0, locals := 99 }
set_option maxRecDepth 100000 in
set_option maxHeartbeats 4000000 in
theorem w_X8_swap_103 {K : zK} (hk : zIs K RX8 cX8_swap 9 wsX8_swap none r_X8_swap) {τ0 : zST} (hq : zQ K none τ0) (F : Nat) : ∀ (n : Nat) (a0 : Nat) (a1 : Int32) (a2 : Int32) (a3 : Int32) (a8 : Int32) (ha0 : atCanonCoteModel (kZ K) a0) (σ : zST), m_X8_swap_103 F n a0 a1 a2 a3 a8 σ = some τ0 → Z K 0 0 103 [(0, .ref (eA (kZ K) a0)), (1, .int a1), (2, .int a2), (3, .int a3), (8, .int a8)] [] σ := by
  intro n
  induction n with
  | zero => intro a0 a1 a2 a3 a8 ha0 σ h; cases h
  | succ n ih =>
    intro a0 a1 a2 a3 a8 ha0 σ h
    rw [m_X8_swap_103] at h
    refine Z_iload hk 4 dX8_swap_103 rfl ?_
    refine Z_bipush hk dX8_swap_105 zc_bipush_8 ?_
    refine Z_icmp_ge hk (tgt := 145) dX8_swap_107 (by decide) (fun c37 => ?_) (fun c37 => ?_)
    · have h := if_yes h c37
      cases h
      exact Z_vret hk hq dX8_swap_145
    · have h := if_no h c37
      refine Z_aload_n hk 0 dX8_swap_110 rfl rfl ?_
      refine Z_get hk in_X8_swap_CanonCoteModel rfl ha0.cell.1 (ha0.cell.2 _) 1 (by decide) wd_X8_swap_1 rfl dX8_swap_111 ?_
      refine Z_bipush hk dX8_swap_114 zc_bipush_8 ?_
      refine Z_iload_n hk 1 dX8_swap_116 rfl rfl ?_
      refine Z_imul hk dX8_swap_117 ?_
      refine Z_iload hk 4 dX8_swap_118 rfl ?_
      refine Z_iadd hk dX8_swap_120 ?_
      refine Z_aload_n hk 0 dX8_swap_121 rfl rfl ?_
      refine Z_get hk in_X8_swap_CanonCoteModel rfl ha0.cell.1 (ha0.cell.2 _) 1 (by decide) wd_X8_swap_1 rfl dX8_swap_122 ?_
      refine Z_bipush hk dX8_swap_125 zc_bipush_8 ?_
      refine Z_iload_n hk 1 dX8_swap_127 rfl rfl ?_
      refine Z_imul hk dX8_swap_128 ?_
      refine Z_iload hk 4 dX8_swap_129 rfl ?_
      refine Z_iadd hk dX8_swap_131 ?_
      obtain ⟨i40, x38, e39, h⟩ := ldI_get h
      refine Z_iald hk (ha0.sides) i40 dX8_swap_132 ?_
      refine Z_eqI e39 ?_
      refine Z_iload_n hk 2 dX8_swap_133 rfl rfl ?_
      refine Z_iload_n hk 3 dX8_swap_134 rfl rfl ?_
      obtain ⟨x41, s42, h43, h⟩ := bd_ok h
      refine Z_callT 3 hk [.int x38, .int a2, .int a3] (c_X8_swapped hk.loc hk.inj F x38 a2 a3 σ h43) gX8_swap_X8_swapped rfl ⟨rfl, rfl⟩ (by decide +kernel) ⟨Nat.le_of_ble_eq_true rfl, Nat.le_of_ble_eq_true rfl⟩ rfl rfl (Nat.le_of_ble_eq_true rfl) ⟨Nat.zero_le _, Nat.zero_le _⟩ dX8_swap_135 ?_
      show Z K 0 0 138 [(0, .ref (eA (kZ K) a0)), (1, .int a1), (2, .int a2), (3, .int a3), (8, .int a8)] [.int x41, .int ((8 * a1) + a8), .ref (eA (kZ K) (a0 + 2))] s42
      obtain ⟨i46, s44, e45, h⟩ := stI_get h
      refine Z_iast hk (ha0.sides) i46 dX8_swap_138 ?_
      refine Z_eqS e45 ?_
      obtain ⟨x47, e48, h⟩ := nm_get h
      refine Z_iinc hk 4 (v := x47) (lv' := [(8, .int x47), (0, .ref (eA (kZ K) a0)), (1, .int a1), (2, .int a2), (3, .int a3)]) dX8_swap_139 rfl (by rw [zc_iinc_1]; exact e48) (by decide) rfl ?_
      refine Z_goto hk (tgt := 103) dX8_swap_142 (by decide) ?_
      refine Z_sub [1, 2, 3, 4, 0] rfl ?_
      exact ih a0 a1 a2 a3 x47 ha0 s44 h
set_option maxRecDepth 100000 in
set_option maxHeartbeats 4000000 in
theorem w_X8_swap {K : zK} (hk : zIs K RX8 cX8_swap 9 wsX8_swap none r_X8_swap) {τ0 : zST} (hq : zQ K none τ0) (F : Nat) (a0 : Nat) (a1 : Int32) (a2 : Int32) (a3 : Int32) (ha0 : atCanonCoteModel (kZ K) a0) (σ : zST) (h : m_X8_swap F a0 a1 a2 a3 σ = some τ0) : Z K 0 0 0 [(0, .ref (eA (kZ K) a0)), (1, .int a1), (2, .int a2), (3, .int a3)] [] σ := by
  unfold m_X8_swap at h
  refine Z_aload_n hk 0 dX8_swap_0 rfl rfl ?_
  refine Z_aload_n hk 0 dX8_swap_1 rfl rfl ?_
  refine Z_iload_n hk 1 dX8_swap_2 rfl rfl ?_
  refine Z_iload_n hk 2 dX8_swap_3 rfl rfl ?_
  refine Z_iload_n hk 3 dX8_swap_4 rfl rfl ?_
  obtain ⟨x1, s2, h3, h⟩ := bd_ok h
  refine Z_callV 3 hk [.int a1, .int a2, .int a3] (c_X8_areVertices hk.loc hk.inj F a0 a1 a2 a3 ha0 σ h3) gX8_swap_X8_areVertices rfl ⟨rfl, rfl⟩ (by decide +kernel) ⟨Nat.le_of_ble_eq_true rfl, Nat.le_of_ble_eq_true rfl⟩ ha0.cell.1 (ha0.cell.2 _) rfl rfl rfl (Nat.le_of_ble_eq_true rfl) ⟨Nat.zero_le _, Nat.zero_le _⟩ dX8_swap_5 ?_
  show Z K 0 0 8 [(0, .ref (eA (kZ K) a0)), (1, .int a1), (2, .int a2), (3, .int a3)] [.int x1, .ref (eA (kZ K) a0)] s2
  refine Z_iconst hk dX8_swap_8 zc_iconst_1 ?_
  obtain ⟨x4, s5, h6, h⟩ := bd_ok h
  refine Z_callV 2 hk [.int x1, .int 1] (c_X8_goes hk.loc hk.inj F a0 x1 1 ha0 s2 h6) gX8_swap_X8_goes rfl ⟨rfl, rfl⟩ (by decide +kernel) ⟨Nat.le_of_ble_eq_true rfl, Nat.le_of_ble_eq_true rfl⟩ ha0.cell.1 (ha0.cell.2 _) rfl rfl rfl (Nat.le_of_ble_eq_true rfl) ⟨Nat.zero_le _, Nat.zero_le _⟩ dX8_swap_9 ?_
  show Z K 0 0 12 [(0, .ref (eA (kZ K) a0)), (1, .int a1), (2, .int a2), (3, .int a3)] [.int x4] s5
  refine Z_if_eq hk (tgt := 145) dX8_swap_12 (by decide) (fun c7 => ?_) (fun c7 => ?_)
  · have h := if_yes h c7
    cases h
    exact Z_vret hk hq dX8_swap_145
  · have h := if_no h c7
    refine Z_iload_n hk 2 dX8_swap_15 rfl rfl ?_
    refine Z_iload_n hk 3 dX8_swap_16 rfl rfl ?_
    refine Z_icmp_eq hk (tgt := 145) dX8_swap_17 (by decide) (fun c8 => ?_) (fun c8 => ?_)
    · have h := if_yes h c8
      cases h
      exact Z_vret hk hq dX8_swap_145
    · have h := if_no h c8
      refine Z_bipush hk dX8_swap_20 zc_bipush_8 ?_
      refine Z_iload_n hk 1 dX8_swap_22 rfl rfl ?_
      refine Z_imul hk dX8_swap_23 ?_
      refine Z_iload_n hk 2 dX8_swap_24 rfl rfl ?_
      refine Z_iadd hk dX8_swap_25 ?_
      obtain ⟨x9, e10, h⟩ := nm_get h
      refine Z_eqI e10 ?_
      refine Z_istore hk (lv' := [(4, .int x9), (0, .ref (eA (kZ K) a0)), (1, .int a1), (2, .int a2), (3, .int a3)]) dX8_swap_26 (by decide) rfl ?_
      refine Z_bipush hk dX8_swap_28 zc_bipush_8 ?_
      refine Z_iload_n hk 2 dX8_swap_30 rfl rfl ?_
      refine Z_imul hk dX8_swap_31 ?_
      refine Z_iload_n hk 4 dX8_swap_32 rfl rfl ?_
      refine Z_iadd hk dX8_swap_33 ?_
      obtain ⟨x11, e12, h⟩ := nm_get h
      refine Z_eqI e12 ?_
      refine Z_istore hk (lv' := [(5, .int x11), (4, .int x9), (0, .ref (eA (kZ K) a0)), (1, .int a1), (2, .int a2), (3, .int a3)]) dX8_swap_34 (by decide) rfl ?_
      refine Z_aload_n hk 2 dX8_swap_36 rfl rfl ?_
      refine Z_get hk in_X8_swap_CanonCoteModel rfl ha0.cell.1 (ha0.cell.2 _) 1 (by decide) wd_X8_swap_1 rfl dX8_swap_37 ?_
      refine Z_iload hk 1 dX8_swap_40 rfl ?_
      obtain ⟨i15, x13, e14, h⟩ := ldI_get h
      refine Z_iald hk (ha0.sides) i15 dX8_swap_42 ?_
      refine Z_eqI e14 ?_
      refine Z_istore hk (lv' := [(6, .int x13), (5, .int x11), (4, .int x9), (0, .ref (eA (kZ K) a0)), (1, .int a1), (2, .int a2), (3, .int a3)]) dX8_swap_43 (by decide) rfl ?_
      refine Z_aload_n hk 3 dX8_swap_45 rfl rfl ?_
      refine Z_get hk in_X8_swap_CanonCoteModel rfl ha0.cell.1 (ha0.cell.2 _) 1 (by decide) wd_X8_swap_1 rfl dX8_swap_46 ?_
      refine Z_iload hk 2 dX8_swap_49 rfl ?_
      refine Z_aload_n hk 3 dX8_swap_51 rfl rfl ?_
      refine Z_get hk in_X8_swap_CanonCoteModel rfl ha0.cell.1 (ha0.cell.2 _) 1 (by decide) wd_X8_swap_1 rfl dX8_swap_52 ?_
      refine Z_iload hk 1 dX8_swap_55 rfl ?_
      obtain ⟨i18, x16, e17, h⟩ := ldI_get h
      refine Z_iald hk (ha0.sides) i18 dX8_swap_57 ?_
      refine Z_eqI e17 ?_
      obtain ⟨i21, s19, e20, h⟩ := stI_get h
      refine Z_iast hk (ha0.sides) i21 dX8_swap_58 ?_
      refine Z_eqS e20 ?_
      refine Z_aload_n hk 3 dX8_swap_59 rfl rfl ?_
      refine Z_get hk in_X8_swap_CanonCoteModel rfl ha0.cell.1 (ha0.cell.2 _) 1 (by decide) wd_X8_swap_1 rfl dX8_swap_60 ?_
      refine Z_iload hk 1 dX8_swap_63 rfl ?_
      refine Z_iload hk 0 dX8_swap_65 rfl ?_
      obtain ⟨i24, s22, e23, h⟩ := stI_get h
      refine Z_iast hk (ha0.sides) i24 dX8_swap_67 ?_
      refine Z_eqS e23 ?_
      refine Z_aload_n hk 3 dX8_swap_68 rfl rfl ?_
      refine Z_get hk in_X8_swap_CanonCoteModel rfl ha0.cell.1 (ha0.cell.2 _) 2 (by decide) wd_X8_swap_2 rfl dX8_swap_69 ?_
      refine Z_iload hk 2 dX8_swap_72 rfl ?_
      obtain ⟨i27, x25, e26, h⟩ := ldI_get h
      refine Z_iald hk (ha0.colours) i27 dX8_swap_74 ?_
      refine Z_eqI e26 ?_
      refine Z_istore hk (lv' := [(7, .int x25), (6, .int x13), (5, .int x11), (4, .int x9), (0, .ref (eA (kZ K) a0)), (1, .int a1), (2, .int a2), (3, .int a3)]) dX8_swap_75 (by decide) rfl ?_
      refine Z_aload_n hk 4 dX8_swap_77 rfl rfl ?_
      refine Z_get hk in_X8_swap_CanonCoteModel rfl ha0.cell.1 (ha0.cell.2 _) 2 (by decide) wd_X8_swap_2 rfl dX8_swap_78 ?_
      refine Z_iload hk 3 dX8_swap_81 rfl ?_
      refine Z_aload_n hk 4 dX8_swap_83 rfl rfl ?_
      refine Z_get hk in_X8_swap_CanonCoteModel rfl ha0.cell.1 (ha0.cell.2 _) 2 (by decide) wd_X8_swap_2 rfl dX8_swap_84 ?_
      refine Z_iload hk 2 dX8_swap_87 rfl ?_
      obtain ⟨i30, x28, e29, h⟩ := ldI_get h
      refine Z_iald hk (ha0.colours) i30 dX8_swap_89 ?_
      refine Z_eqI e29 ?_
      obtain ⟨i33, s31, e32, h⟩ := stI_get h
      refine Z_iast hk (ha0.colours) i33 dX8_swap_90 ?_
      refine Z_eqS e32 ?_
      refine Z_aload_n hk 4 dX8_swap_91 rfl rfl ?_
      refine Z_get hk in_X8_swap_CanonCoteModel rfl ha0.cell.1 (ha0.cell.2 _) 2 (by decide) wd_X8_swap_2 rfl dX8_swap_92 ?_
      refine Z_iload hk 2 dX8_swap_95 rfl ?_
      refine Z_iload hk 0 dX8_swap_97 rfl ?_
      obtain ⟨i36, s34, e35, h⟩ := stI_get h
      refine Z_iast hk (ha0.colours) i36 dX8_swap_99 ?_
      refine Z_eqS e35 ?_
      refine Z_iconst hk dX8_swap_100 zc_iconst_0 ?_
      refine Z_istore hk (lv' := [(8, .int 0), (7, .int x25), (6, .int x13), (5, .int x11), (4, .int x9), (0, .ref (eA (kZ K) a0)), (1, .int a1), (2, .int a2), (3, .int a3)]) dX8_swap_101 (by decide) rfl ?_
      refine Z_sub [5, 6, 7, 8, 0] rfl ?_
      exact w_X8_swap_103 hk hq F F a0 a1 a2 a3 0 ha0 s34 h
theorem c_X8_swap {l : Launch} {E : zE} (hL : eL E) (hJ : eJ E) (F : Nat) (a0 : Nat) (a1 : Int32) (a2 : Int32) (a3 : Int32) (ha0 : atCanonCoteModel E a0) (σ : zST) {τ0 : zST} (h : m_X8_swap F a0 a1 a2 a3 σ = some τ0) : Ct l yX8_swap wsX8_swap r_X8_swap E [.ref (eA E a0), .int a1, .int a2, .int a3] σ none τ0 := by
  refine Ct_of (by decide) rfl hL hJ (Nat.le_of_ble_eq_true rfl) (fun K hE hl hk hq => ?_)
  subst hE
  exact w_X8_swap hk hq F a0 a1 a2 a3 ha0 σ h
end

-- CanonCoteModel.copy (II)V
section
theorem dX8_copy_0 : decode cX8_copy 0 = .ok (.aload_n 0, 1) := by decide +kernel
theorem dX8_copy_1 : decode cX8_copy 1 = .ok (.iload_n 1, 1) := by decide +kernel
theorem dX8_copy_2 : decode cX8_copy 2 = .ok (.invokestatic 62, 3) := by decide +kernel
theorem dX8_copy_5 : decode cX8_copy 5 = .ok (.ifCond .eq 14, 3) := by decide +kernel
theorem dX8_copy_8 : decode cX8_copy 8 = .ok (.iload_n 2, 1) := by decide +kernel
theorem dX8_copy_9 : decode cX8_copy 9 = .ok (.invokestatic 62, 3) := by decide +kernel
theorem dX8_copy_12 : decode cX8_copy 12 = .ok (.ifCond .eq 7, 3) := by decide +kernel
theorem dX8_copy_15 : decode cX8_copy 15 = .ok (.iconst 1, 1) := by decide +kernel
theorem dX8_copy_16 : decode cX8_copy 16 = .ok (.goto 4, 3) := by decide +kernel
theorem dX8_copy_19 : decode cX8_copy 19 = .ok (.iconst 0, 1) := by decide +kernel
theorem dX8_copy_20 : decode cX8_copy 20 = .ok (.iconst 1, 1) := by decide +kernel
theorem dX8_copy_21 : decode cX8_copy 21 = .ok (.invokevirtual 73, 3) := by decide +kernel
theorem dX8_copy_24 : decode cX8_copy 24 = .ok (.ifCond .eq 73, 3) := by decide +kernel
theorem dX8_copy_27 : decode cX8_copy 27 = .ok (.aload_n 0, 1) := by decide +kernel
theorem dX8_copy_28 : decode cX8_copy 28 = .ok (.getfield 7, 3) := by decide +kernel
theorem dX8_copy_31 : decode cX8_copy 31 = .ok (.iload_n 2, 1) := by decide +kernel
theorem dX8_copy_32 : decode cX8_copy 32 = .ok (.aload_n 0, 1) := by decide +kernel
theorem dX8_copy_33 : decode cX8_copy 33 = .ok (.getfield 7, 3) := by decide +kernel
theorem dX8_copy_36 : decode cX8_copy 36 = .ok (.iload_n 1, 1) := by decide +kernel
theorem dX8_copy_37 : decode cX8_copy 37 = .ok (.iaload, 1) := by decide +kernel
theorem dX8_copy_38 : decode cX8_copy 38 = .ok (.iastore, 1) := by decide +kernel
theorem dX8_copy_39 : decode cX8_copy 39 = .ok (.iconst 0, 1) := by decide +kernel
theorem dX8_copy_40 : decode cX8_copy 40 = .ok (.istore_n 3, 1) := by decide +kernel
theorem dX8_copy_41 : decode cX8_copy 41 = .ok (.iload_n 3, 1) := by decide +kernel
theorem dX8_copy_42 : decode cX8_copy 42 = .ok (.bipush 8, 2) := by decide +kernel
theorem dX8_copy_44 : decode cX8_copy 44 = .ok (.if_icmp .ge 53, 3) := by decide +kernel
theorem dX8_copy_47 : decode cX8_copy 47 = .ok (.aload_n 0, 1) := by decide +kernel
theorem dX8_copy_48 : decode cX8_copy 48 = .ok (.getfield 13, 3) := by decide +kernel
theorem dX8_copy_51 : decode cX8_copy 51 = .ok (.bipush 8, 2) := by decide +kernel
theorem dX8_copy_53 : decode cX8_copy 53 = .ok (.iload_n 2, 1) := by decide +kernel
theorem dX8_copy_54 : decode cX8_copy 54 = .ok (.imul, 1) := by decide +kernel
theorem dX8_copy_55 : decode cX8_copy 55 = .ok (.iload_n 3, 1) := by decide +kernel
theorem dX8_copy_56 : decode cX8_copy 56 = .ok (.iadd, 1) := by decide +kernel
theorem dX8_copy_57 : decode cX8_copy 57 = .ok (.aload_n 0, 1) := by decide +kernel
theorem dX8_copy_58 : decode cX8_copy 58 = .ok (.getfield 13, 3) := by decide +kernel
theorem dX8_copy_61 : decode cX8_copy 61 = .ok (.bipush 8, 2) := by decide +kernel
theorem dX8_copy_63 : decode cX8_copy 63 = .ok (.iload_n 1, 1) := by decide +kernel
theorem dX8_copy_64 : decode cX8_copy 64 = .ok (.imul, 1) := by decide +kernel
theorem dX8_copy_65 : decode cX8_copy 65 = .ok (.iload_n 3, 1) := by decide +kernel
theorem dX8_copy_66 : decode cX8_copy 66 = .ok (.iadd, 1) := by decide +kernel
theorem dX8_copy_67 : decode cX8_copy 67 = .ok (.iaload, 1) := by decide +kernel
theorem dX8_copy_68 : decode cX8_copy 68 = .ok (.iastore, 1) := by decide +kernel
theorem dX8_copy_69 : decode cX8_copy 69 = .ok (.aload_n 0, 1) := by decide +kernel
theorem dX8_copy_70 : decode cX8_copy 70 = .ok (.getfield 16, 3) := by decide +kernel
theorem dX8_copy_73 : decode cX8_copy 73 = .ok (.bipush 8, 2) := by decide +kernel
theorem dX8_copy_75 : decode cX8_copy 75 = .ok (.iload_n 2, 1) := by decide +kernel
theorem dX8_copy_76 : decode cX8_copy 76 = .ok (.imul, 1) := by decide +kernel
theorem dX8_copy_77 : decode cX8_copy 77 = .ok (.iload_n 3, 1) := by decide +kernel
theorem dX8_copy_78 : decode cX8_copy 78 = .ok (.iadd, 1) := by decide +kernel
theorem dX8_copy_79 : decode cX8_copy 79 = .ok (.aload_n 0, 1) := by decide +kernel
theorem dX8_copy_80 : decode cX8_copy 80 = .ok (.getfield 16, 3) := by decide +kernel
theorem dX8_copy_83 : decode cX8_copy 83 = .ok (.bipush 8, 2) := by decide +kernel
theorem dX8_copy_85 : decode cX8_copy 85 = .ok (.iload_n 1, 1) := by decide +kernel
theorem dX8_copy_86 : decode cX8_copy 86 = .ok (.imul, 1) := by decide +kernel
theorem dX8_copy_87 : decode cX8_copy 87 = .ok (.iload_n 3, 1) := by decide +kernel
theorem dX8_copy_88 : decode cX8_copy 88 = .ok (.iadd, 1) := by decide +kernel
theorem dX8_copy_89 : decode cX8_copy 89 = .ok (.iaload, 1) := by decide +kernel
theorem dX8_copy_90 : decode cX8_copy 90 = .ok (.iastore, 1) := by decide +kernel
theorem dX8_copy_91 : decode cX8_copy 91 = .ok (.iinc 3 1, 3) := by decide +kernel
theorem dX8_copy_94 : decode cX8_copy 94 = .ok (.goto (-53), 3) := by decide +kernel
theorem dX8_copy_97 : decode cX8_copy 97 = .ok (.return_, 1) := by decide +kernel
set_option maxRecDepth 20000 in
theorem ggX8_copy_X8_isGraph : GoodIn wsX8_copy wsX8_isGraph := goodIn_r _ [7, 8, 9, 6, 10] (by decide +kernel) (by decide +kernel)
set_option maxRecDepth 20000 in
theorem gX8_copy_X8_isGraph : GoodIn wsX8_copy (va_wsS RX8 62 yX8_isGraph wsX8_isGraph) := goodIn_app (goodIn_of _ (by decide +kernel)) ggX8_copy_X8_isGraph
set_option maxRecDepth 20000 in
theorem ggX8_copy_X8_goes : GoodIn wsX8_copy wsX8_goes := goodIn_r _ [14, 15, 16, 17, 18, 19, 20, 21, 22, 23, 24, 25, 26, 27, 28, 29, 30, 31, 32] (by decide +kernel) (by decide +kernel)
set_option maxRecDepth 20000 in
theorem gX8_copy_X8_goes : GoodIn wsX8_copy (wsV RX8 73 RX8 yX8_goes wsX8_goes) := goodIn_app (goodIn_of _ (by decide +kernel)) ggX8_copy_X8_goes
theorem in_X8_copy_CanonCoteModel : ∀ w ∈ u_ws RX8 TX8 17, w ∈ wsX8_copy := by decide +kernel
theorem wd_X8_copy_1 : Cond.fieldLink RX8 7 (TX8 0).1 (TX8 0).2.1 (TX8 0).2.2.1 ∈ wsX8_copy := by decide +kernel
theorem wd_X8_copy_2 : Cond.fieldLink RX8 13 (TX8 1).1 (TX8 1).2.1 (TX8 1).2.2.1 ∈ wsX8_copy := by decide +kernel
theorem wd_X8_copy_3 : Cond.fieldLink RX8 16 (TX8 2).1 (TX8 2).2.1 (TX8 2).2.2.1 ∈ wsX8_copy := by decide +kernel
def r_X8_copy : Room := { frames := 3, cells := 0, slots := 0, locals := 54 }
set_option maxRecDepth 100000 in
set_option maxHeartbeats 4000000 in
theorem w_X8_copy_41 {K : zK} (hk : zIs K RX8 cX8_copy 4 wsX8_copy none r_X8_copy) {τ0 : zST} (hq : zQ K none τ0) (F : Nat) : ∀ (n : Nat) (a0 : Nat) (a1 : Int32) (a2 : Int32) (a3 : Int32) (ha0 : atCanonCoteModel (kZ K) a0) (σ : zST), m_X8_copy_41 F n a0 a1 a2 a3 σ = some τ0 → Z K 0 0 41 [(0, .ref (eA (kZ K) a0)), (1, .int a1), (2, .int a2), (3, .int a3)] [] σ := by
  intro n
  induction n with
  | zero => intro a0 a1 a2 a3 ha0 σ h; cases h
  | succ n ih =>
    intro a0 a1 a2 a3 ha0 σ h
    rw [m_X8_copy_41] at h
    refine Z_iload_n hk 3 dX8_copy_41 rfl rfl ?_
    refine Z_bipush hk dX8_copy_42 zc_bipush_8 ?_
    refine Z_icmp_ge hk (tgt := 97) dX8_copy_44 (by decide) (fun c19 => ?_) (fun c19 => ?_)
    · have h := if_yes h c19
      cases h
      exact Z_vret hk hq dX8_copy_97
    · have h := if_no h c19
      refine Z_aload_n hk 0 dX8_copy_47 rfl rfl ?_
      refine Z_get hk in_X8_copy_CanonCoteModel rfl ha0.cell.1 (ha0.cell.2 _) 1 (by decide) wd_X8_copy_2 rfl dX8_copy_48 ?_
      refine Z_bipush hk dX8_copy_51 zc_bipush_8 ?_
      refine Z_iload_n hk 2 dX8_copy_53 rfl rfl ?_
      refine Z_imul hk dX8_copy_54 ?_
      refine Z_iload_n hk 3 dX8_copy_55 rfl rfl ?_
      refine Z_iadd hk dX8_copy_56 ?_
      refine Z_aload_n hk 0 dX8_copy_57 rfl rfl ?_
      refine Z_get hk in_X8_copy_CanonCoteModel rfl ha0.cell.1 (ha0.cell.2 _) 1 (by decide) wd_X8_copy_2 rfl dX8_copy_58 ?_
      refine Z_bipush hk dX8_copy_61 zc_bipush_8 ?_
      refine Z_iload_n hk 1 dX8_copy_63 rfl rfl ?_
      refine Z_imul hk dX8_copy_64 ?_
      refine Z_iload_n hk 3 dX8_copy_65 rfl rfl ?_
      refine Z_iadd hk dX8_copy_66 ?_
      obtain ⟨i22, x20, e21, h⟩ := ldI_get h
      refine Z_iald hk (ha0.sides) i22 dX8_copy_67 ?_
      refine Z_eqI e21 ?_
      obtain ⟨i25, s23, e24, h⟩ := stI_get h
      refine Z_iast hk (ha0.sides) i25 dX8_copy_68 ?_
      refine Z_eqS e24 ?_
      refine Z_aload_n hk 0 dX8_copy_69 rfl rfl ?_
      refine Z_get hk in_X8_copy_CanonCoteModel rfl ha0.cell.1 (ha0.cell.2 _) 2 (by decide) wd_X8_copy_3 rfl dX8_copy_70 ?_
      refine Z_bipush hk dX8_copy_73 zc_bipush_8 ?_
      refine Z_iload_n hk 2 dX8_copy_75 rfl rfl ?_
      refine Z_imul hk dX8_copy_76 ?_
      refine Z_iload_n hk 3 dX8_copy_77 rfl rfl ?_
      refine Z_iadd hk dX8_copy_78 ?_
      refine Z_aload_n hk 0 dX8_copy_79 rfl rfl ?_
      refine Z_get hk in_X8_copy_CanonCoteModel rfl ha0.cell.1 (ha0.cell.2 _) 2 (by decide) wd_X8_copy_3 rfl dX8_copy_80 ?_
      refine Z_bipush hk dX8_copy_83 zc_bipush_8 ?_
      refine Z_iload_n hk 1 dX8_copy_85 rfl rfl ?_
      refine Z_imul hk dX8_copy_86 ?_
      refine Z_iload_n hk 3 dX8_copy_87 rfl rfl ?_
      refine Z_iadd hk dX8_copy_88 ?_
      obtain ⟨i28, x26, e27, h⟩ := ldI_get h
      refine Z_iald hk (ha0.colours) i28 dX8_copy_89 ?_
      refine Z_eqI e27 ?_
      obtain ⟨i31, s29, e30, h⟩ := stI_get h
      refine Z_iast hk (ha0.colours) i31 dX8_copy_90 ?_
      refine Z_eqS e30 ?_
      obtain ⟨x32, e33, h⟩ := nm_get h
      refine Z_iinc hk 3 (v := x32) (lv' := [(3, .int x32), (0, .ref (eA (kZ K) a0)), (1, .int a1), (2, .int a2)]) dX8_copy_91 rfl (by rw [zc_iinc_1]; exact e33) (by decide) rfl ?_
      refine Z_goto hk (tgt := 41) dX8_copy_94 (by decide) ?_
      refine Z_sub [1, 2, 3, 0] rfl ?_
      exact ih a0 a1 a2 x32 ha0 s29 h
set_option maxRecDepth 100000 in
set_option maxHeartbeats 4000000 in
theorem w_X8_copy_20 {K : zK} (hk : zIs K RX8 cX8_copy 4 wsX8_copy none r_X8_copy) {τ0 : zST} (hq : zQ K none τ0) (F : Nat) (a0 : Nat) (a1 : Int32) (a2 : Int32) (t0 : Int32) (t1 : Nat) (ha0 : atCanonCoteModel (kZ K) a0) (ht1 : atCanonCoteModel (kZ K) t1) (σ : zST) (h : m_X8_copy_20 F a0 a1 a2 t0 t1 σ = some τ0) : Z K 0 0 20 [(0, .ref (eA (kZ K) a0)), (1, .int a1), (2, .int a2)] [.int t0, .ref (eA (kZ K) t1)] σ := by
  unfold m_X8_copy_20 at h
  refine Z_iconst hk dX8_copy_20 zc_iconst_1 ?_
  obtain ⟨x9, s10, h11, h⟩ := bd_ok h
  refine Z_callV 2 hk [.int t0, .int 1] (c_X8_goes hk.loc hk.inj F t1 t0 1 ht1 σ h11) gX8_copy_X8_goes rfl ⟨rfl, rfl⟩ (by decide +kernel) ⟨Nat.le_of_ble_eq_true rfl, Nat.le_of_ble_eq_true rfl⟩ ht1.cell.1 (ht1.cell.2 _) rfl rfl rfl (Nat.le_of_ble_eq_true rfl) ⟨Nat.zero_le _, Nat.zero_le _⟩ dX8_copy_21 ?_
  show Z K 0 0 24 [(0, .ref (eA (kZ K) a0)), (1, .int a1), (2, .int a2)] [.int x9] s10
  refine Z_if_eq hk (tgt := 97) dX8_copy_24 (by decide) (fun c12 => ?_) (fun c12 => ?_)
  · have h := if_yes h c12
    cases h
    exact Z_vret hk hq dX8_copy_97
  · have h := if_no h c12
    refine Z_aload_n hk 0 dX8_copy_27 rfl rfl ?_
    refine Z_get hk in_X8_copy_CanonCoteModel rfl ha0.cell.1 (ha0.cell.2 _) 0 (by decide) wd_X8_copy_1 rfl dX8_copy_28 ?_
    refine Z_iload_n hk 2 dX8_copy_31 rfl rfl ?_
    refine Z_aload_n hk 0 dX8_copy_32 rfl rfl ?_
    refine Z_get hk in_X8_copy_CanonCoteModel rfl ha0.cell.1 (ha0.cell.2 _) 0 (by decide) wd_X8_copy_1 rfl dX8_copy_33 ?_
    refine Z_iload_n hk 1 dX8_copy_36 rfl rfl ?_
    obtain ⟨i15, x13, e14, h⟩ := ldI_get h
    refine Z_iald hk (ha0.sizes) i15 dX8_copy_37 ?_
    refine Z_eqI e14 ?_
    obtain ⟨i18, s16, e17, h⟩ := stI_get h
    refine Z_iast hk (ha0.sizes) i18 dX8_copy_38 ?_
    refine Z_eqS e17 ?_
    refine Z_iconst hk dX8_copy_39 zc_iconst_0 ?_
    refine Z_istore_n hk (lv' := [(3, .int 0), (0, .ref (eA (kZ K) a0)), (1, .int a1), (2, .int a2)]) dX8_copy_40 rfl (by decide) rfl ?_
    refine Z_sub [1, 2, 3, 0] rfl ?_
    exact w_X8_copy_41 hk hq F F a0 a1 a2 0 ha0 s16 h
set_option maxRecDepth 100000 in
set_option maxHeartbeats 4000000 in
theorem w_X8_copy_19 {K : zK} (hk : zIs K RX8 cX8_copy 4 wsX8_copy none r_X8_copy) {τ0 : zST} (hq : zQ K none τ0) (F : Nat) (a0 : Nat) (a1 : Int32) (a2 : Int32) (t0 : Nat) (ha0 : atCanonCoteModel (kZ K) a0) (ht0 : atCanonCoteModel (kZ K) t0) (σ : zST) (h : m_X8_copy_19 F a0 a1 a2 t0 σ = some τ0) : Z K 0 0 19 [(0, .ref (eA (kZ K) a0)), (1, .int a1), (2, .int a2)] [.ref (eA (kZ K) t0)] σ := by
  unfold m_X8_copy_19 at h
  refine Z_iconst hk dX8_copy_19 zc_iconst_0 ?_
  refine Z_sub [0, 1, 2] rfl ?_
  exact w_X8_copy_20 hk hq F a0 a1 a2 0 t0 ha0 ht0 σ h
set_option maxRecDepth 100000 in
set_option maxHeartbeats 4000000 in
theorem w_X8_copy {K : zK} (hk : zIs K RX8 cX8_copy 4 wsX8_copy none r_X8_copy) {τ0 : zST} (hq : zQ K none τ0) (F : Nat) (a0 : Nat) (a1 : Int32) (a2 : Int32) (ha0 : atCanonCoteModel (kZ K) a0) (σ : zST) (h : m_X8_copy F a0 a1 a2 σ = some τ0) : Z K 0 0 0 [(0, .ref (eA (kZ K) a0)), (1, .int a1), (2, .int a2)] [] σ := by
  unfold m_X8_copy at h
  refine Z_aload_n hk 0 dX8_copy_0 rfl rfl ?_
  refine Z_iload_n hk 1 dX8_copy_1 rfl rfl ?_
  obtain ⟨x1, s2, h3, h⟩ := bd_ok h
  refine Z_callT 1 hk [.int a1] (c_X8_isGraph hk.loc hk.inj F a1 σ h3) gX8_copy_X8_isGraph rfl ⟨rfl, rfl⟩ (by decide +kernel) ⟨Nat.le_of_ble_eq_true rfl, Nat.le_of_ble_eq_true rfl⟩ rfl rfl (Nat.le_of_ble_eq_true rfl) ⟨Nat.zero_le _, Nat.zero_le _⟩ dX8_copy_2 ?_
  show Z K 0 0 5 [(0, .ref (eA (kZ K) a0)), (1, .int a1), (2, .int a2)] [.int x1, .ref (eA (kZ K) a0)] s2
  refine Z_if_eq hk (tgt := 19) dX8_copy_5 (by decide) (fun c4 => ?_) (fun c4 => ?_)
  · have h := if_yes h c4
    refine Z_sub [0, 1, 2] rfl ?_
    exact w_X8_copy_19 hk hq F a0 a1 a2 a0 ha0 ha0 s2 h
  · have h := if_no h c4
    refine Z_iload_n hk 2 dX8_copy_8 rfl rfl ?_
    obtain ⟨x5, s6, h7, h⟩ := bd_ok h
    refine Z_callT 1 hk [.int a2] (c_X8_isGraph hk.loc hk.inj F a2 s2 h7) gX8_copy_X8_isGraph rfl ⟨rfl, rfl⟩ (by decide +kernel) ⟨Nat.le_of_ble_eq_true rfl, Nat.le_of_ble_eq_true rfl⟩ rfl rfl (Nat.le_of_ble_eq_true rfl) ⟨Nat.zero_le _, Nat.zero_le _⟩ dX8_copy_9 ?_
    show Z K 0 0 12 [(0, .ref (eA (kZ K) a0)), (1, .int a1), (2, .int a2)] [.int x5, .ref (eA (kZ K) a0)] s6
    refine Z_if_eq hk (tgt := 19) dX8_copy_12 (by decide) (fun c8 => ?_) (fun c8 => ?_)
    · have h := if_yes h c8
      refine Z_sub [0, 1, 2] rfl ?_
      exact w_X8_copy_19 hk hq F a0 a1 a2 a0 ha0 ha0 s6 h
    · have h := if_no h c8
      refine Z_iconst hk dX8_copy_15 zc_iconst_1 ?_
      refine Z_goto hk (tgt := 20) dX8_copy_16 (by decide) ?_
      refine Z_sub [0, 1, 2] rfl ?_
      exact w_X8_copy_20 hk hq F a0 a1 a2 1 a0 ha0 ha0 s6 h
theorem c_X8_copy {l : Launch} {E : zE} (hL : eL E) (hJ : eJ E) (F : Nat) (a0 : Nat) (a1 : Int32) (a2 : Int32) (ha0 : atCanonCoteModel E a0) (σ : zST) {τ0 : zST} (h : m_X8_copy F a0 a1 a2 σ = some τ0) : Ct l yX8_copy wsX8_copy r_X8_copy E [.ref (eA E a0), .int a1, .int a2] σ none τ0 := by
  refine Ct_of (by decide) rfl hL hJ (Nat.le_of_ble_eq_true rfl) (fun K hE hl hk hq => ?_)
  subst hE
  exact w_X8_copy hk hq F a0 a1 a2 ha0 σ h
end

-- CanonCoteModel.complement (I)I
section
theorem dX8_complement_0 : decode cX8_complement 0 = .ok (.aload_n 0, 1) := by decide +kernel
theorem dX8_complement_1 : decode cX8_complement 1 = .ok (.iload_n 1, 1) := by decide +kernel
theorem dX8_complement_2 : decode cX8_complement 2 = .ok (.invokestatic 62, 3) := by decide +kernel
theorem dX8_complement_5 : decode cX8_complement 5 = .ok (.iconst 1, 1) := by decide +kernel
theorem dX8_complement_6 : decode cX8_complement 6 = .ok (.invokevirtual 73, 3) := by decide +kernel
theorem dX8_complement_9 : decode cX8_complement 9 = .ok (.ifCond .ne 5, 3) := by decide +kernel
theorem dX8_complement_12 : decode cX8_complement 12 = .ok (.iconst 0, 1) := by decide +kernel
theorem dX8_complement_13 : decode cX8_complement 13 = .ok (.ireturn, 1) := by decide +kernel
theorem dX8_complement_14 : decode cX8_complement 14 = .ok (.iconst 1, 1) := by decide +kernel
theorem dX8_complement_15 : decode cX8_complement 15 = .ok (.aload_n 0, 1) := by decide +kernel
theorem dX8_complement_16 : decode cX8_complement 16 = .ok (.getfield 7, 3) := by decide +kernel
theorem dX8_complement_19 : decode cX8_complement 19 = .ok (.iload_n 1, 1) := by decide +kernel
theorem dX8_complement_20 : decode cX8_complement 20 = .ok (.iaload, 1) := by decide +kernel
theorem dX8_complement_21 : decode cX8_complement 21 = .ok (.ishl, 1) := by decide +kernel
theorem dX8_complement_22 : decode cX8_complement 22 = .ok (.iconst 1, 1) := by decide +kernel
theorem dX8_complement_23 : decode cX8_complement 23 = .ok (.isub, 1) := by decide +kernel
theorem dX8_complement_24 : decode cX8_complement 24 = .ok (.istore_n 2, 1) := by decide +kernel
theorem dX8_complement_25 : decode cX8_complement 25 = .ok (.iconst 0, 1) := by decide +kernel
theorem dX8_complement_26 : decode cX8_complement 26 = .ok (.istore_n 3, 1) := by decide +kernel
theorem dX8_complement_27 : decode cX8_complement 27 = .ok (.iload_n 3, 1) := by decide +kernel
theorem dX8_complement_28 : decode cX8_complement 28 = .ok (.aload_n 0, 1) := by decide +kernel
theorem dX8_complement_29 : decode cX8_complement 29 = .ok (.getfield 7, 3) := by decide +kernel
theorem dX8_complement_32 : decode cX8_complement 32 = .ok (.iload_n 1, 1) := by decide +kernel
theorem dX8_complement_33 : decode cX8_complement 33 = .ok (.iaload, 1) := by decide +kernel
theorem dX8_complement_34 : decode cX8_complement 34 = .ok (.if_icmp .ge 41, 3) := by decide +kernel
theorem dX8_complement_37 : decode cX8_complement 37 = .ok (.aload_n 0, 1) := by decide +kernel
theorem dX8_complement_38 : decode cX8_complement 38 = .ok (.getfield 13, 3) := by decide +kernel
theorem dX8_complement_41 : decode cX8_complement 41 = .ok (.bipush 8, 2) := by decide +kernel
theorem dX8_complement_43 : decode cX8_complement 43 = .ok (.iload_n 1, 1) := by decide +kernel
theorem dX8_complement_44 : decode cX8_complement 44 = .ok (.imul, 1) := by decide +kernel
theorem dX8_complement_45 : decode cX8_complement 45 = .ok (.iload_n 3, 1) := by decide +kernel
theorem dX8_complement_46 : decode cX8_complement 46 = .ok (.iadd, 1) := by decide +kernel
theorem dX8_complement_47 : decode cX8_complement 47 = .ok (.iload_n 2, 1) := by decide +kernel
theorem dX8_complement_48 : decode cX8_complement 48 = .ok (.aload_n 0, 1) := by decide +kernel
theorem dX8_complement_49 : decode cX8_complement 49 = .ok (.getfield 13, 3) := by decide +kernel
theorem dX8_complement_52 : decode cX8_complement 52 = .ok (.bipush 8, 2) := by decide +kernel
theorem dX8_complement_54 : decode cX8_complement 54 = .ok (.iload_n 1, 1) := by decide +kernel
theorem dX8_complement_55 : decode cX8_complement 55 = .ok (.imul, 1) := by decide +kernel
theorem dX8_complement_56 : decode cX8_complement 56 = .ok (.iload_n 3, 1) := by decide +kernel
theorem dX8_complement_57 : decode cX8_complement 57 = .ok (.iadd, 1) := by decide +kernel
theorem dX8_complement_58 : decode cX8_complement 58 = .ok (.iaload, 1) := by decide +kernel
theorem dX8_complement_59 : decode cX8_complement 59 = .ok (.iconst (-1), 1) := by decide +kernel
theorem dX8_complement_60 : decode cX8_complement 60 = .ok (.ixor, 1) := by decide +kernel
theorem dX8_complement_61 : decode cX8_complement 61 = .ok (.iand, 1) := by decide +kernel
theorem dX8_complement_62 : decode cX8_complement 62 = .ok (.iconst 1, 1) := by decide +kernel
theorem dX8_complement_63 : decode cX8_complement 63 = .ok (.iload_n 3, 1) := by decide +kernel
theorem dX8_complement_64 : decode cX8_complement 64 = .ok (.ishl, 1) := by decide +kernel
theorem dX8_complement_65 : decode cX8_complement 65 = .ok (.iconst (-1), 1) := by decide +kernel
theorem dX8_complement_66 : decode cX8_complement 66 = .ok (.ixor, 1) := by decide +kernel
theorem dX8_complement_67 : decode cX8_complement 67 = .ok (.iand, 1) := by decide +kernel
theorem dX8_complement_68 : decode cX8_complement 68 = .ok (.iastore, 1) := by decide +kernel
theorem dX8_complement_69 : decode cX8_complement 69 = .ok (.iinc 3 1, 3) := by decide +kernel
theorem dX8_complement_72 : decode cX8_complement 72 = .ok (.goto (-45), 3) := by decide +kernel
theorem dX8_complement_75 : decode cX8_complement 75 = .ok (.aload_n 0, 1) := by decide +kernel
theorem dX8_complement_76 : decode cX8_complement 76 = .ok (.iload_n 1, 1) := by decide +kernel
theorem dX8_complement_77 : decode cX8_complement 77 = .ok (.invokevirtual 84, 3) := by decide +kernel
theorem dX8_complement_80 : decode cX8_complement 80 = .ok (.ireturn, 1) := by decide +kernel
set_option maxRecDepth 20000 in
theorem ggX8_complement_X8_isGraph : GoodIn wsX8_complement wsX8_isGraph := goodIn_r _ [6, 7, 8, 5, 9] (by decide +kernel) (by decide +kernel)
set_option maxRecDepth 20000 in
theorem gX8_complement_X8_isGraph : GoodIn wsX8_complement (va_wsS RX8 62 yX8_isGraph wsX8_isGraph) := goodIn_app (goodIn_of _ (by decide +kernel)) ggX8_complement_X8_isGraph
set_option maxRecDepth 20000 in
theorem ggX8_complement_X8_goes : GoodIn wsX8_complement wsX8_goes := goodIn_r _ [13, 14, 23, 24, 25, 26, 27, 28, 29, 30, 31, 32, 33, 34, 35, 36, 37, 38, 39] (by decide +kernel) (by decide +kernel)
set_option maxRecDepth 20000 in
theorem gX8_complement_X8_goes : GoodIn wsX8_complement (wsV RX8 73 RX8 yX8_goes wsX8_goes) := goodIn_app (goodIn_of _ (by decide +kernel)) ggX8_complement_X8_goes
set_option maxRecDepth 20000 in
theorem ggX8_complement_X8_countEdges : GoodIn wsX8_complement wsX8_countEdges := goodIn_r _ [18, 19, 20, 21, 5, 22, 2, 23, 24, 25, 26, 27, 28, 29, 30, 31, 32, 33, 34, 35, 36, 37, 38, 39] (by decide +kernel) (by decide +kernel)
set_option maxRecDepth 20000 in
theorem gX8_complement_X8_countEdges : GoodIn wsX8_complement (wsV RX8 84 RX8 yX8_countEdges wsX8_countEdges) := goodIn_app (goodIn_of _ (by decide +kernel)) ggX8_complement_X8_countEdges
theorem in_X8_complement_CanonCoteModel : ∀ w ∈ u_ws RX8 TX8 17, w ∈ wsX8_complement := by decide +kernel
theorem wd_X8_complement_1 : Cond.fieldLink RX8 7 (TX8 0).1 (TX8 0).2.1 (TX8 0).2.2.1 ∈ wsX8_complement := by decide +kernel
theorem wd_X8_complement_2 : Cond.fieldLink RX8 13 (TX8 1).1 (TX8 1).2.1 (TX8 1).2.2.1 ∈ wsX8_complement := by decide +kernel
def r_X8_complement : Room := { frames := 3, cells := 0, slots := 0, locals := 58 }
set_option maxRecDepth 100000 in
set_option maxHeartbeats 4000000 in
theorem w_X8_complement_27 {K : zK} (hk : zIs K RX8 cX8_complement 4 wsX8_complement (some .int) r_X8_complement) {r0 : Int32} {τ0 : zST} (hq : zQ K (some (.int r0)) τ0) (F : Nat) : ∀ (n : Nat) (a0 : Nat) (a1 : Int32) (a2 : Int32) (a3 : Int32) (ha0 : atCanonCoteModel (kZ K) a0) (σ : zST), m_X8_complement_27 F n a0 a1 a2 a3 σ = some (r0, τ0) → Z K 0 0 27 [(0, .ref (eA (kZ K) a0)), (1, .int a1), (2, .int a2), (3, .int a3)] [] σ := by
  intro n
  induction n with
  | zero => intro a0 a1 a2 a3 ha0 σ h; cases h
  | succ n ih =>
    intro a0 a1 a2 a3 ha0 σ h
    rw [m_X8_complement_27] at h
    refine Z_iload_n hk 3 dX8_complement_27 rfl rfl ?_
    refine Z_aload_n hk 0 dX8_complement_28 rfl rfl ?_
    refine Z_get hk in_X8_complement_CanonCoteModel rfl ha0.cell.1 (ha0.cell.2 _) 0 (by decide) wd_X8_complement_1 rfl dX8_complement_29 ?_
    refine Z_iload_n hk 1 dX8_complement_32 rfl rfl ?_
    obtain ⟨i15, x13, e14, h⟩ := ldI_get h
    refine Z_iald hk (ha0.sizes) i15 dX8_complement_33 ?_
    refine Z_eqI e14 ?_
    refine Z_icmp_ge hk (tgt := 75) dX8_complement_34 (by decide) (fun c16 => ?_) (fun c16 => ?_)
    · have h := if_yes h c16
      refine Z_aload_n hk 0 dX8_complement_75 rfl rfl ?_
      refine Z_iload_n hk 1 dX8_complement_76 rfl rfl ?_
      obtain ⟨x17, s18, h19, h⟩ := bd_ok h
      refine Z_callV 1 hk [.int a1] (c_X8_countEdges hk.loc hk.inj F a0 a1 ha0 σ h19) gX8_complement_X8_countEdges rfl ⟨rfl, rfl⟩ (by decide +kernel) ⟨Nat.le_of_ble_eq_true rfl, Nat.le_of_ble_eq_true rfl⟩ ha0.cell.1 (ha0.cell.2 _) rfl rfl rfl (Nat.le_of_ble_eq_true rfl) ⟨Nat.zero_le _, Nat.zero_le _⟩ dX8_complement_77 ?_
      show Z K 0 0 80 [(0, .ref (eA (kZ K) a0)), (1, .int a1), (2, .int a2), (3, .int a3)] [.int x17] s18
      cases h
      exact Z_iret hk hq dX8_complement_80
    · have h := if_no h c16
      refine Z_aload_n hk 0 dX8_complement_37 rfl rfl ?_
      refine Z_get hk in_X8_complement_CanonCoteModel rfl ha0.cell.1 (ha0.cell.2 _) 1 (by decide) wd_X8_complement_2 rfl dX8_complement_38 ?_
      refine Z_bipush hk dX8_complement_41 zc_bipush_8 ?_
      refine Z_iload_n hk 1 dX8_complement_43 rfl rfl ?_
      refine Z_imul hk dX8_complement_44 ?_
      refine Z_iload_n hk 3 dX8_complement_45 rfl rfl ?_
      refine Z_iadd hk dX8_complement_46 ?_
      refine Z_iload_n hk 2 dX8_complement_47 rfl rfl ?_
      refine Z_aload_n hk 0 dX8_complement_48 rfl rfl ?_
      refine Z_get hk in_X8_complement_CanonCoteModel rfl ha0.cell.1 (ha0.cell.2 _) 1 (by decide) wd_X8_complement_2 rfl dX8_complement_49 ?_
      refine Z_bipush hk dX8_complement_52 zc_bipush_8 ?_
      refine Z_iload_n hk 1 dX8_complement_54 rfl rfl ?_
      refine Z_imul hk dX8_complement_55 ?_
      refine Z_iload_n hk 3 dX8_complement_56 rfl rfl ?_
      refine Z_iadd hk dX8_complement_57 ?_
      obtain ⟨i22, x20, e21, h⟩ := ldI_get h
      refine Z_iald hk (ha0.sides) i22 dX8_complement_58 ?_
      refine Z_eqI e21 ?_
      refine Z_iconst hk dX8_complement_59 zc_iconst_m1 ?_
      refine Z_ixor hk dX8_complement_60 ?_
      refine Z_iand hk dX8_complement_61 ?_
      refine Z_iconst hk dX8_complement_62 zc_iconst_1 ?_
      refine Z_iload_n hk 3 dX8_complement_63 rfl rfl ?_
      refine Z_ishl hk dX8_complement_64 ?_
      refine Z_iconst hk dX8_complement_65 zc_iconst_m1 ?_
      refine Z_ixor hk dX8_complement_66 ?_
      refine Z_iand hk dX8_complement_67 ?_
      obtain ⟨i25, s23, e24, h⟩ := stI_get h
      refine Z_iast hk (ha0.sides) i25 dX8_complement_68 ?_
      refine Z_eqS e24 ?_
      obtain ⟨x26, e27, h⟩ := nm_get h
      refine Z_iinc hk 3 (v := x26) (lv' := [(3, .int x26), (0, .ref (eA (kZ K) a0)), (1, .int a1), (2, .int a2)]) dX8_complement_69 rfl (by rw [zc_iinc_1]; exact e27) (by decide) rfl ?_
      refine Z_goto hk (tgt := 27) dX8_complement_72 (by decide) ?_
      refine Z_sub [1, 2, 3, 0] rfl ?_
      exact ih a0 a1 a2 x26 ha0 s23 h
set_option maxRecDepth 100000 in
set_option maxHeartbeats 4000000 in
theorem w_X8_complement {K : zK} (hk : zIs K RX8 cX8_complement 4 wsX8_complement (some .int) r_X8_complement) {r0 : Int32} {τ0 : zST} (hq : zQ K (some (.int r0)) τ0) (F : Nat) (a0 : Nat) (a1 : Int32) (ha0 : atCanonCoteModel (kZ K) a0) (σ : zST) (h : m_X8_complement F a0 a1 σ = some (r0, τ0)) : Z K 0 0 0 [(0, .ref (eA (kZ K) a0)), (1, .int a1)] [] σ := by
  unfold m_X8_complement at h
  refine Z_aload_n hk 0 dX8_complement_0 rfl rfl ?_
  refine Z_iload_n hk 1 dX8_complement_1 rfl rfl ?_
  obtain ⟨x1, s2, h3, h⟩ := bd_ok h
  refine Z_callT 1 hk [.int a1] (c_X8_isGraph hk.loc hk.inj F a1 σ h3) gX8_complement_X8_isGraph rfl ⟨rfl, rfl⟩ (by decide +kernel) ⟨Nat.le_of_ble_eq_true rfl, Nat.le_of_ble_eq_true rfl⟩ rfl rfl (Nat.le_of_ble_eq_true rfl) ⟨Nat.zero_le _, Nat.zero_le _⟩ dX8_complement_2 ?_
  show Z K 0 0 5 [(0, .ref (eA (kZ K) a0)), (1, .int a1)] [.int x1, .ref (eA (kZ K) a0)] s2
  refine Z_iconst hk dX8_complement_5 zc_iconst_1 ?_
  obtain ⟨x4, s5, h6, h⟩ := bd_ok h
  refine Z_callV 2 hk [.int x1, .int 1] (c_X8_goes hk.loc hk.inj F a0 x1 1 ha0 s2 h6) gX8_complement_X8_goes rfl ⟨rfl, rfl⟩ (by decide +kernel) ⟨Nat.le_of_ble_eq_true rfl, Nat.le_of_ble_eq_true rfl⟩ ha0.cell.1 (ha0.cell.2 _) rfl rfl rfl (Nat.le_of_ble_eq_true rfl) ⟨Nat.zero_le _, Nat.zero_le _⟩ dX8_complement_6 ?_
  show Z K 0 0 9 [(0, .ref (eA (kZ K) a0)), (1, .int a1)] [.int x4] s5
  refine Z_if_ne hk (tgt := 14) dX8_complement_9 (by decide) (fun c7 => ?_) (fun c7 => ?_)
  · have h := if_yes h c7
    refine Z_iconst hk dX8_complement_12 zc_iconst_0 ?_
    cases h
    exact Z_iret hk hq dX8_complement_13
  · have h := if_no h c7
    refine Z_iconst hk dX8_complement_14 zc_iconst_1 ?_
    refine Z_aload_n hk 0 dX8_complement_15 rfl rfl ?_
    refine Z_get hk in_X8_complement_CanonCoteModel rfl ha0.cell.1 (ha0.cell.2 _) 0 (by decide) wd_X8_complement_1 rfl dX8_complement_16 ?_
    refine Z_iload_n hk 1 dX8_complement_19 rfl rfl ?_
    obtain ⟨i10, x8, e9, h⟩ := ldI_get h
    refine Z_iald hk (ha0.sizes) i10 dX8_complement_20 ?_
    refine Z_eqI e9 ?_
    refine Z_ishl hk dX8_complement_21 ?_
    refine Z_iconst hk dX8_complement_22 zc_iconst_1 ?_
    refine Z_isub hk dX8_complement_23 ?_
    obtain ⟨x11, e12, h⟩ := nm_get h
    refine Z_eqI e12 ?_
    refine Z_istore_n hk (lv' := [(2, .int x11), (0, .ref (eA (kZ K) a0)), (1, .int a1)]) dX8_complement_24 rfl (by decide) rfl ?_
    refine Z_iconst hk dX8_complement_25 zc_iconst_0 ?_
    refine Z_istore_n hk (lv' := [(3, .int 0), (2, .int x11), (0, .ref (eA (kZ K) a0)), (1, .int a1)]) dX8_complement_26 rfl (by decide) rfl ?_
    refine Z_sub [2, 3, 1, 0] rfl ?_
    exact w_X8_complement_27 hk hq F F a0 a1 x11 0 ha0 s5 h
theorem c_X8_complement {l : Launch} {E : zE} (hL : eL E) (hJ : eJ E) (F : Nat) (a0 : Nat) (a1 : Int32) (ha0 : atCanonCoteModel E a0) (σ : zST) {r0 : Int32} {τ0 : zST} (h : m_X8_complement F a0 a1 σ = some (r0, τ0)) : Ct l yX8_complement wsX8_complement r_X8_complement E [.ref (eA E a0), .int a1] σ (some (.int r0)) τ0 := by
  refine Ct_of (by decide) rfl hL hJ (Nat.le_of_ble_eq_true rfl) (fun K hE hl hk hq => ?_)
  subst hE
  exact w_X8_complement hk hq F a0 a1 ha0 σ h
end

-- CanonCoteModel.size (I)I
section
theorem dX8_size_0 : decode cX8_size 0 = .ok (.aload_n 0, 1) := by decide +kernel
theorem dX8_size_1 : decode cX8_size 1 = .ok (.iload_n 1, 1) := by decide +kernel
theorem dX8_size_2 : decode cX8_size 2 = .ok (.invokestatic 62, 3) := by decide +kernel
theorem dX8_size_5 : decode cX8_size 5 = .ok (.iconst 1, 1) := by decide +kernel
theorem dX8_size_6 : decode cX8_size 6 = .ok (.invokevirtual 73, 3) := by decide +kernel
theorem dX8_size_9 : decode cX8_size 9 = .ok (.ifCond .eq 12, 3) := by decide +kernel
theorem dX8_size_12 : decode cX8_size 12 = .ok (.aload_n 0, 1) := by decide +kernel
theorem dX8_size_13 : decode cX8_size 13 = .ok (.getfield 7, 3) := by decide +kernel
theorem dX8_size_16 : decode cX8_size 16 = .ok (.iload_n 1, 1) := by decide +kernel
theorem dX8_size_17 : decode cX8_size 17 = .ok (.iaload, 1) := by decide +kernel
theorem dX8_size_18 : decode cX8_size 18 = .ok (.goto 4, 3) := by decide +kernel
theorem dX8_size_21 : decode cX8_size 21 = .ok (.iconst 0, 1) := by decide +kernel
theorem dX8_size_22 : decode cX8_size 22 = .ok (.ireturn, 1) := by decide +kernel
set_option maxRecDepth 20000 in
theorem ggX8_size_X8_isGraph : GoodIn wsX8_size wsX8_isGraph := goodIn_r _ [5, 6, 7, 4, 8] (by decide +kernel) (by decide +kernel)
set_option maxRecDepth 20000 in
theorem gX8_size_X8_isGraph : GoodIn wsX8_size (va_wsS RX8 62 yX8_isGraph wsX8_isGraph) := goodIn_app (goodIn_of _ (by decide +kernel)) ggX8_size_X8_isGraph
set_option maxRecDepth 20000 in
theorem ggX8_size_X8_goes : GoodIn wsX8_size wsX8_goes := goodIn_r _ [12, 13, 14, 15, 16, 17, 18, 19, 20, 21, 22, 23, 24, 25, 26, 27, 28, 29, 30] (by decide +kernel) (by decide +kernel)
set_option maxRecDepth 20000 in
theorem gX8_size_X8_goes : GoodIn wsX8_size (wsV RX8 73 RX8 yX8_goes wsX8_goes) := goodIn_app (goodIn_of _ (by decide +kernel)) ggX8_size_X8_goes
theorem in_X8_size_CanonCoteModel : ∀ w ∈ u_ws RX8 TX8 17, w ∈ wsX8_size := by decide +kernel
theorem wd_X8_size_1 : Cond.fieldLink RX8 7 (TX8 0).1 (TX8 0).2.1 (TX8 0).2.2.1 ∈ wsX8_size := by decide +kernel
def r_X8_size : Room := { frames := 3, cells := 0, slots := 0, locals := 54 }
set_option maxRecDepth 100000 in
set_option maxHeartbeats 4000000 in
theorem w_X8_size {K : zK} (hk : zIs K RX8 cX8_size 2 wsX8_size (some .int) r_X8_size) {r0 : Int32} {τ0 : zST} (hq : zQ K (some (.int r0)) τ0) (F : Nat) (a0 : Nat) (a1 : Int32) (ha0 : atCanonCoteModel (kZ K) a0) (σ : zST) (h : m_X8_size F a0 a1 σ = some (r0, τ0)) : Z K 0 0 0 [(0, .ref (eA (kZ K) a0)), (1, .int a1)] [] σ := by
  unfold m_X8_size at h
  refine Z_aload_n hk 0 dX8_size_0 rfl rfl ?_
  refine Z_iload_n hk 1 dX8_size_1 rfl rfl ?_
  obtain ⟨x1, s2, h3, h⟩ := bd_ok h
  refine Z_callT 1 hk [.int a1] (c_X8_isGraph hk.loc hk.inj F a1 σ h3) gX8_size_X8_isGraph rfl ⟨rfl, rfl⟩ (by decide +kernel) ⟨Nat.le_of_ble_eq_true rfl, Nat.le_of_ble_eq_true rfl⟩ rfl rfl (Nat.le_of_ble_eq_true rfl) ⟨Nat.zero_le _, Nat.zero_le _⟩ dX8_size_2 ?_
  show Z K 0 0 5 [(0, .ref (eA (kZ K) a0)), (1, .int a1)] [.int x1, .ref (eA (kZ K) a0)] s2
  refine Z_iconst hk dX8_size_5 zc_iconst_1 ?_
  obtain ⟨x4, s5, h6, h⟩ := bd_ok h
  refine Z_callV 2 hk [.int x1, .int 1] (c_X8_goes hk.loc hk.inj F a0 x1 1 ha0 s2 h6) gX8_size_X8_goes rfl ⟨rfl, rfl⟩ (by decide +kernel) ⟨Nat.le_of_ble_eq_true rfl, Nat.le_of_ble_eq_true rfl⟩ ha0.cell.1 (ha0.cell.2 _) rfl rfl rfl (Nat.le_of_ble_eq_true rfl) ⟨Nat.zero_le _, Nat.zero_le _⟩ dX8_size_6 ?_
  show Z K 0 0 9 [(0, .ref (eA (kZ K) a0)), (1, .int a1)] [.int x4] s5
  refine Z_if_eq hk (tgt := 21) dX8_size_9 (by decide) (fun c7 => ?_) (fun c7 => ?_)
  · have h := if_yes h c7
    refine Z_iconst hk dX8_size_21 zc_iconst_0 ?_
    cases h
    exact Z_iret hk hq dX8_size_22
  · have h := if_no h c7
    refine Z_aload_n hk 0 dX8_size_12 rfl rfl ?_
    refine Z_get hk in_X8_size_CanonCoteModel rfl ha0.cell.1 (ha0.cell.2 _) 0 (by decide) wd_X8_size_1 rfl dX8_size_13 ?_
    refine Z_iload_n hk 1 dX8_size_16 rfl rfl ?_
    obtain ⟨i10, x8, e9, h⟩ := ldI_get h
    refine Z_iald hk (ha0.sizes) i10 dX8_size_17 ?_
    refine Z_eqI e9 ?_
    refine Z_goto hk (tgt := 22) dX8_size_18 (by decide) ?_
    cases h
    exact Z_iret hk hq dX8_size_22
theorem c_X8_size {l : Launch} {E : zE} (hL : eL E) (hJ : eJ E) (F : Nat) (a0 : Nat) (a1 : Int32) (ha0 : atCanonCoteModel E a0) (σ : zST) {r0 : Int32} {τ0 : zST} (h : m_X8_size F a0 a1 σ = some (r0, τ0)) : Ct l yX8_size wsX8_size r_X8_size E [.ref (eA E a0), .int a1] σ (some (.int r0)) τ0 := by
  refine Ct_of (by decide) rfl hL hJ (Nat.le_of_ble_eq_true rfl) (fun K hE hl hk hq => ?_)
  subst hE
  exact w_X8_size hk hq F a0 a1 ha0 σ h
end

-- CanonCoteModel.edges (I)I
section
theorem dX8_edges_0 : decode cX8_edges 0 = .ok (.aload_n 0, 1) := by decide +kernel
theorem dX8_edges_1 : decode cX8_edges 1 = .ok (.iload_n 1, 1) := by decide +kernel
theorem dX8_edges_2 : decode cX8_edges 2 = .ok (.invokestatic 62, 3) := by decide +kernel
theorem dX8_edges_5 : decode cX8_edges 5 = .ok (.iconst 1, 1) := by decide +kernel
theorem dX8_edges_6 : decode cX8_edges 6 = .ok (.invokevirtual 73, 3) := by decide +kernel
theorem dX8_edges_9 : decode cX8_edges 9 = .ok (.ifCond .eq 11, 3) := by decide +kernel
theorem dX8_edges_12 : decode cX8_edges 12 = .ok (.aload_n 0, 1) := by decide +kernel
theorem dX8_edges_13 : decode cX8_edges 13 = .ok (.iload_n 1, 1) := by decide +kernel
theorem dX8_edges_14 : decode cX8_edges 14 = .ok (.invokevirtual 84, 3) := by decide +kernel
theorem dX8_edges_17 : decode cX8_edges 17 = .ok (.goto 4, 3) := by decide +kernel
theorem dX8_edges_20 : decode cX8_edges 20 = .ok (.iconst 0, 1) := by decide +kernel
theorem dX8_edges_21 : decode cX8_edges 21 = .ok (.ireturn, 1) := by decide +kernel
set_option maxRecDepth 20000 in
theorem ggX8_edges_X8_isGraph : GoodIn wsX8_edges wsX8_isGraph := goodIn_r _ [4, 5, 6, 3, 7] (by decide +kernel) (by decide +kernel)
set_option maxRecDepth 20000 in
theorem gX8_edges_X8_isGraph : GoodIn wsX8_edges (va_wsS RX8 62 yX8_isGraph wsX8_isGraph) := goodIn_app (goodIn_of _ (by decide +kernel)) ggX8_edges_X8_isGraph
set_option maxRecDepth 20000 in
theorem ggX8_edges_X8_goes : GoodIn wsX8_edges wsX8_goes := goodIn_r _ [11, 12, 22, 23, 24, 25, 26, 27, 28, 29, 30, 31, 32, 33, 34, 35, 36, 37, 38] (by decide +kernel) (by decide +kernel)
set_option maxRecDepth 20000 in
theorem gX8_edges_X8_goes : GoodIn wsX8_edges (wsV RX8 73 RX8 yX8_goes wsX8_goes) := goodIn_app (goodIn_of _ (by decide +kernel)) ggX8_edges_X8_goes
set_option maxRecDepth 20000 in
theorem ggX8_edges_X8_countEdges : GoodIn wsX8_edges wsX8_countEdges := goodIn_r _ [16, 17, 18, 19, 3, 20, 21, 22, 23, 24, 25, 26, 27, 28, 29, 30, 31, 32, 33, 34, 35, 36, 37, 38] (by decide +kernel) (by decide +kernel)
set_option maxRecDepth 20000 in
theorem gX8_edges_X8_countEdges : GoodIn wsX8_edges (wsV RX8 84 RX8 yX8_countEdges wsX8_countEdges) := goodIn_app (goodIn_of _ (by decide +kernel)) ggX8_edges_X8_countEdges
def r_X8_edges : Room := { frames := 3, cells := 0, slots := 0, locals := 58 }
set_option maxRecDepth 100000 in
set_option maxHeartbeats 4000000 in
theorem w_X8_edges {K : zK} (hk : zIs K RX8 cX8_edges 2 wsX8_edges (some .int) r_X8_edges) {r0 : Int32} {τ0 : zST} (hq : zQ K (some (.int r0)) τ0) (F : Nat) (a0 : Nat) (a1 : Int32) (ha0 : atCanonCoteModel (kZ K) a0) (σ : zST) (h : m_X8_edges F a0 a1 σ = some (r0, τ0)) : Z K 0 0 0 [(0, .ref (eA (kZ K) a0)), (1, .int a1)] [] σ := by
  unfold m_X8_edges at h
  refine Z_aload_n hk 0 dX8_edges_0 rfl rfl ?_
  refine Z_iload_n hk 1 dX8_edges_1 rfl rfl ?_
  obtain ⟨x1, s2, h3, h⟩ := bd_ok h
  refine Z_callT 1 hk [.int a1] (c_X8_isGraph hk.loc hk.inj F a1 σ h3) gX8_edges_X8_isGraph rfl ⟨rfl, rfl⟩ (by decide +kernel) ⟨Nat.le_of_ble_eq_true rfl, Nat.le_of_ble_eq_true rfl⟩ rfl rfl (Nat.le_of_ble_eq_true rfl) ⟨Nat.zero_le _, Nat.zero_le _⟩ dX8_edges_2 ?_
  show Z K 0 0 5 [(0, .ref (eA (kZ K) a0)), (1, .int a1)] [.int x1, .ref (eA (kZ K) a0)] s2
  refine Z_iconst hk dX8_edges_5 zc_iconst_1 ?_
  obtain ⟨x4, s5, h6, h⟩ := bd_ok h
  refine Z_callV 2 hk [.int x1, .int 1] (c_X8_goes hk.loc hk.inj F a0 x1 1 ha0 s2 h6) gX8_edges_X8_goes rfl ⟨rfl, rfl⟩ (by decide +kernel) ⟨Nat.le_of_ble_eq_true rfl, Nat.le_of_ble_eq_true rfl⟩ ha0.cell.1 (ha0.cell.2 _) rfl rfl rfl (Nat.le_of_ble_eq_true rfl) ⟨Nat.zero_le _, Nat.zero_le _⟩ dX8_edges_6 ?_
  show Z K 0 0 9 [(0, .ref (eA (kZ K) a0)), (1, .int a1)] [.int x4] s5
  refine Z_if_eq hk (tgt := 20) dX8_edges_9 (by decide) (fun c7 => ?_) (fun c7 => ?_)
  · have h := if_yes h c7
    refine Z_iconst hk dX8_edges_20 zc_iconst_0 ?_
    cases h
    exact Z_iret hk hq dX8_edges_21
  · have h := if_no h c7
    refine Z_aload_n hk 0 dX8_edges_12 rfl rfl ?_
    refine Z_iload_n hk 1 dX8_edges_13 rfl rfl ?_
    obtain ⟨x8, s9, h10, h⟩ := bd_ok h
    refine Z_callV 1 hk [.int a1] (c_X8_countEdges hk.loc hk.inj F a0 a1 ha0 s5 h10) gX8_edges_X8_countEdges rfl ⟨rfl, rfl⟩ (by decide +kernel) ⟨Nat.le_of_ble_eq_true rfl, Nat.le_of_ble_eq_true rfl⟩ ha0.cell.1 (ha0.cell.2 _) rfl rfl rfl (Nat.le_of_ble_eq_true rfl) ⟨Nat.zero_le _, Nat.zero_le _⟩ dX8_edges_14 ?_
    show Z K 0 0 17 [(0, .ref (eA (kZ K) a0)), (1, .int a1)] [.int x8] s9
    refine Z_goto hk (tgt := 21) dX8_edges_17 (by decide) ?_
    cases h
    exact Z_iret hk hq dX8_edges_21
theorem c_X8_edges {l : Launch} {E : zE} (hL : eL E) (hJ : eJ E) (F : Nat) (a0 : Nat) (a1 : Int32) (ha0 : atCanonCoteModel E a0) (σ : zST) {r0 : Int32} {τ0 : zST} (h : m_X8_edges F a0 a1 σ = some (r0, τ0)) : Ct l yX8_edges wsX8_edges r_X8_edges E [.ref (eA E a0), .int a1] σ (some (.int r0)) τ0 := by
  refine Ct_of (by decide) rfl hL hJ (Nat.le_of_ble_eq_true rfl) (fun K hE hl hk hq => ?_)
  subst hE
  exact w_X8_edges hk hq F a0 a1 ha0 σ h
end

-- CanonCoteModel.neighbours (II)I
section
theorem dX8_neighbours_0 : decode cX8_neighbours 0 = .ok (.aload_n 0, 1) := by decide +kernel
theorem dX8_neighbours_1 : decode cX8_neighbours 1 = .ok (.aload_n 0, 1) := by decide +kernel
theorem dX8_neighbours_2 : decode cX8_neighbours 2 = .ok (.iload_n 1, 1) := by decide +kernel
theorem dX8_neighbours_3 : decode cX8_neighbours 3 = .ok (.iload_n 2, 1) := by decide +kernel
theorem dX8_neighbours_4 : decode cX8_neighbours 4 = .ok (.invokevirtual 66, 3) := by decide +kernel
theorem dX8_neighbours_7 : decode cX8_neighbours 7 = .ok (.iconst 1, 1) := by decide +kernel
theorem dX8_neighbours_8 : decode cX8_neighbours 8 = .ok (.invokevirtual 73, 3) := by decide +kernel
theorem dX8_neighbours_11 : decode cX8_neighbours 11 = .ok (.ifCond .eq 17, 3) := by decide +kernel
theorem dX8_neighbours_14 : decode cX8_neighbours 14 = .ok (.aload_n 0, 1) := by decide +kernel
theorem dX8_neighbours_15 : decode cX8_neighbours 15 = .ok (.getfield 13, 3) := by decide +kernel
theorem dX8_neighbours_18 : decode cX8_neighbours 18 = .ok (.bipush 8, 2) := by decide +kernel
theorem dX8_neighbours_20 : decode cX8_neighbours 20 = .ok (.iload_n 1, 1) := by decide +kernel
theorem dX8_neighbours_21 : decode cX8_neighbours 21 = .ok (.imul, 1) := by decide +kernel
theorem dX8_neighbours_22 : decode cX8_neighbours 22 = .ok (.iload_n 2, 1) := by decide +kernel
theorem dX8_neighbours_23 : decode cX8_neighbours 23 = .ok (.iadd, 1) := by decide +kernel
theorem dX8_neighbours_24 : decode cX8_neighbours 24 = .ok (.iaload, 1) := by decide +kernel
theorem dX8_neighbours_25 : decode cX8_neighbours 25 = .ok (.goto 4, 3) := by decide +kernel
theorem dX8_neighbours_28 : decode cX8_neighbours 28 = .ok (.iconst 0, 1) := by decide +kernel
theorem dX8_neighbours_29 : decode cX8_neighbours 29 = .ok (.ireturn, 1) := by decide +kernel
set_option maxRecDepth 20000 in
theorem ggX8_neighbours_X8_isVertex : GoodIn wsX8_neighbours wsX8_isVertex := goodIn_r _ [6, 7, 8, 9, 5, 10, 11, 12, 13, 19, 20, 21, 22, 23, 24, 25, 26, 27, 28, 29, 30, 31, 32, 33, 34, 35] (by decide +kernel) (by decide +kernel)
set_option maxRecDepth 20000 in
theorem gX8_neighbours_X8_isVertex : GoodIn wsX8_neighbours (wsV RX8 66 RX8 yX8_isVertex wsX8_isVertex) := goodIn_app (goodIn_of _ (by decide +kernel)) ggX8_neighbours_X8_isVertex
set_option maxRecDepth 20000 in
theorem ggX8_neighbours_X8_goes : GoodIn wsX8_neighbours wsX8_goes := goodIn_r _ [17, 18, 19, 20, 21, 22, 23, 24, 25, 26, 27, 28, 29, 30, 31, 32, 33, 34, 35] (by decide +kernel) (by decide +kernel)
set_option maxRecDepth 20000 in
theorem gX8_neighbours_X8_goes : GoodIn wsX8_neighbours (wsV RX8 73 RX8 yX8_goes wsX8_goes) := goodIn_app (goodIn_of _ (by decide +kernel)) ggX8_neighbours_X8_goes
theorem in_X8_neighbours_CanonCoteModel : ∀ w ∈ u_ws RX8 TX8 17, w ∈ wsX8_neighbours := by decide +kernel
theorem wd_X8_neighbours_1 : Cond.fieldLink RX8 13 (TX8 1).1 (TX8 1).2.1 (TX8 1).2.2.1 ∈ wsX8_neighbours := by decide +kernel
def r_X8_neighbours : Room := { frames := 4, cells := 0, slots := 0, locals := 76 }
set_option maxRecDepth 100000 in
set_option maxHeartbeats 4000000 in
theorem w_X8_neighbours {K : zK} (hk : zIs K RX8 cX8_neighbours 3 wsX8_neighbours (some .int) r_X8_neighbours) {r0 : Int32} {τ0 : zST} (hq : zQ K (some (.int r0)) τ0) (F : Nat) (a0 : Nat) (a1 : Int32) (a2 : Int32) (ha0 : atCanonCoteModel (kZ K) a0) (σ : zST) (h : m_X8_neighbours F a0 a1 a2 σ = some (r0, τ0)) : Z K 0 0 0 [(0, .ref (eA (kZ K) a0)), (1, .int a1), (2, .int a2)] [] σ := by
  unfold m_X8_neighbours at h
  refine Z_aload_n hk 0 dX8_neighbours_0 rfl rfl ?_
  refine Z_aload_n hk 0 dX8_neighbours_1 rfl rfl ?_
  refine Z_iload_n hk 1 dX8_neighbours_2 rfl rfl ?_
  refine Z_iload_n hk 2 dX8_neighbours_3 rfl rfl ?_
  obtain ⟨x1, s2, h3, h⟩ := bd_ok h
  refine Z_callV 2 hk [.int a1, .int a2] (c_X8_isVertex hk.loc hk.inj F a0 a1 a2 ha0 σ h3) gX8_neighbours_X8_isVertex rfl ⟨rfl, rfl⟩ (by decide +kernel) ⟨Nat.le_of_ble_eq_true rfl, Nat.le_of_ble_eq_true rfl⟩ ha0.cell.1 (ha0.cell.2 _) rfl rfl rfl (Nat.le_of_ble_eq_true rfl) ⟨Nat.zero_le _, Nat.zero_le _⟩ dX8_neighbours_4 ?_
  show Z K 0 0 7 [(0, .ref (eA (kZ K) a0)), (1, .int a1), (2, .int a2)] [.int x1, .ref (eA (kZ K) a0)] s2
  refine Z_iconst hk dX8_neighbours_7 zc_iconst_1 ?_
  obtain ⟨x4, s5, h6, h⟩ := bd_ok h
  refine Z_callV 2 hk [.int x1, .int 1] (c_X8_goes hk.loc hk.inj F a0 x1 1 ha0 s2 h6) gX8_neighbours_X8_goes rfl ⟨rfl, rfl⟩ (by decide +kernel) ⟨Nat.le_of_ble_eq_true rfl, Nat.le_of_ble_eq_true rfl⟩ ha0.cell.1 (ha0.cell.2 _) rfl rfl rfl (Nat.le_of_ble_eq_true rfl) ⟨Nat.zero_le _, Nat.zero_le _⟩ dX8_neighbours_8 ?_
  show Z K 0 0 11 [(0, .ref (eA (kZ K) a0)), (1, .int a1), (2, .int a2)] [.int x4] s5
  refine Z_if_eq hk (tgt := 28) dX8_neighbours_11 (by decide) (fun c7 => ?_) (fun c7 => ?_)
  · have h := if_yes h c7
    refine Z_iconst hk dX8_neighbours_28 zc_iconst_0 ?_
    cases h
    exact Z_iret hk hq dX8_neighbours_29
  · have h := if_no h c7
    refine Z_aload_n hk 0 dX8_neighbours_14 rfl rfl ?_
    refine Z_get hk in_X8_neighbours_CanonCoteModel rfl ha0.cell.1 (ha0.cell.2 _) 1 (by decide) wd_X8_neighbours_1 rfl dX8_neighbours_15 ?_
    refine Z_bipush hk dX8_neighbours_18 zc_bipush_8 ?_
    refine Z_iload_n hk 1 dX8_neighbours_20 rfl rfl ?_
    refine Z_imul hk dX8_neighbours_21 ?_
    refine Z_iload_n hk 2 dX8_neighbours_22 rfl rfl ?_
    refine Z_iadd hk dX8_neighbours_23 ?_
    obtain ⟨i10, x8, e9, h⟩ := ldI_get h
    refine Z_iald hk (ha0.sides) i10 dX8_neighbours_24 ?_
    refine Z_eqI e9 ?_
    refine Z_goto hk (tgt := 29) dX8_neighbours_25 (by decide) ?_
    cases h
    exact Z_iret hk hq dX8_neighbours_29
theorem c_X8_neighbours {l : Launch} {E : zE} (hL : eL E) (hJ : eJ E) (F : Nat) (a0 : Nat) (a1 : Int32) (a2 : Int32) (ha0 : atCanonCoteModel E a0) (σ : zST) {r0 : Int32} {τ0 : zST} (h : m_X8_neighbours F a0 a1 a2 σ = some (r0, τ0)) : Ct l yX8_neighbours wsX8_neighbours r_X8_neighbours E [.ref (eA E a0), .int a1, .int a2] σ (some (.int r0)) τ0 := by
  refine Ct_of (by decide) rfl hL hJ (Nat.le_of_ble_eq_true rfl) (fun K hE hl hk hq => ?_)
  subst hE
  exact w_X8_neighbours hk hq F a0 a1 a2 ha0 σ h
end

-- CanonCoteModel.colour (II)I
section
theorem dX8_colour_0 : decode cX8_colour 0 = .ok (.aload_n 0, 1) := by decide +kernel
theorem dX8_colour_1 : decode cX8_colour 1 = .ok (.aload_n 0, 1) := by decide +kernel
theorem dX8_colour_2 : decode cX8_colour 2 = .ok (.iload_n 1, 1) := by decide +kernel
theorem dX8_colour_3 : decode cX8_colour 3 = .ok (.iload_n 2, 1) := by decide +kernel
theorem dX8_colour_4 : decode cX8_colour 4 = .ok (.invokevirtual 66, 3) := by decide +kernel
theorem dX8_colour_7 : decode cX8_colour 7 = .ok (.iconst 1, 1) := by decide +kernel
theorem dX8_colour_8 : decode cX8_colour 8 = .ok (.invokevirtual 73, 3) := by decide +kernel
theorem dX8_colour_11 : decode cX8_colour 11 = .ok (.ifCond .eq 17, 3) := by decide +kernel
theorem dX8_colour_14 : decode cX8_colour 14 = .ok (.aload_n 0, 1) := by decide +kernel
theorem dX8_colour_15 : decode cX8_colour 15 = .ok (.getfield 16, 3) := by decide +kernel
theorem dX8_colour_18 : decode cX8_colour 18 = .ok (.bipush 8, 2) := by decide +kernel
theorem dX8_colour_20 : decode cX8_colour 20 = .ok (.iload_n 1, 1) := by decide +kernel
theorem dX8_colour_21 : decode cX8_colour 21 = .ok (.imul, 1) := by decide +kernel
theorem dX8_colour_22 : decode cX8_colour 22 = .ok (.iload_n 2, 1) := by decide +kernel
theorem dX8_colour_23 : decode cX8_colour 23 = .ok (.iadd, 1) := by decide +kernel
theorem dX8_colour_24 : decode cX8_colour 24 = .ok (.iaload, 1) := by decide +kernel
theorem dX8_colour_25 : decode cX8_colour 25 = .ok (.goto 4, 3) := by decide +kernel
theorem dX8_colour_28 : decode cX8_colour 28 = .ok (.iconst 0, 1) := by decide +kernel
theorem dX8_colour_29 : decode cX8_colour 29 = .ok (.ireturn, 1) := by decide +kernel
set_option maxRecDepth 20000 in
theorem ggX8_colour_X8_isVertex : GoodIn wsX8_colour wsX8_isVertex := goodIn_r _ [6, 7, 8, 9, 5, 10, 11, 12, 13, 19, 20, 21, 22, 23, 24, 25, 26, 27, 28, 29, 30, 31, 32, 33, 34, 35] (by decide +kernel) (by decide +kernel)
set_option maxRecDepth 20000 in
theorem gX8_colour_X8_isVertex : GoodIn wsX8_colour (wsV RX8 66 RX8 yX8_isVertex wsX8_isVertex) := goodIn_app (goodIn_of _ (by decide +kernel)) ggX8_colour_X8_isVertex
set_option maxRecDepth 20000 in
theorem ggX8_colour_X8_goes : GoodIn wsX8_colour wsX8_goes := goodIn_r _ [17, 18, 19, 20, 21, 22, 23, 24, 25, 26, 27, 28, 29, 30, 31, 32, 33, 34, 35] (by decide +kernel) (by decide +kernel)
set_option maxRecDepth 20000 in
theorem gX8_colour_X8_goes : GoodIn wsX8_colour (wsV RX8 73 RX8 yX8_goes wsX8_goes) := goodIn_app (goodIn_of _ (by decide +kernel)) ggX8_colour_X8_goes
theorem in_X8_colour_CanonCoteModel : ∀ w ∈ u_ws RX8 TX8 17, w ∈ wsX8_colour := by decide +kernel
theorem wd_X8_colour_1 : Cond.fieldLink RX8 16 (TX8 2).1 (TX8 2).2.1 (TX8 2).2.2.1 ∈ wsX8_colour := by decide +kernel
def r_X8_colour : Room := { frames := 4, cells := 0, slots := 0, locals := 76 }
set_option maxRecDepth 100000 in
set_option maxHeartbeats 4000000 in
theorem w_X8_colour {K : zK} (hk : zIs K RX8 cX8_colour 3 wsX8_colour (some .int) r_X8_colour) {r0 : Int32} {τ0 : zST} (hq : zQ K (some (.int r0)) τ0) (F : Nat) (a0 : Nat) (a1 : Int32) (a2 : Int32) (ha0 : atCanonCoteModel (kZ K) a0) (σ : zST) (h : m_X8_colour F a0 a1 a2 σ = some (r0, τ0)) : Z K 0 0 0 [(0, .ref (eA (kZ K) a0)), (1, .int a1), (2, .int a2)] [] σ := by
  unfold m_X8_colour at h
  refine Z_aload_n hk 0 dX8_colour_0 rfl rfl ?_
  refine Z_aload_n hk 0 dX8_colour_1 rfl rfl ?_
  refine Z_iload_n hk 1 dX8_colour_2 rfl rfl ?_
  refine Z_iload_n hk 2 dX8_colour_3 rfl rfl ?_
  obtain ⟨x1, s2, h3, h⟩ := bd_ok h
  refine Z_callV 2 hk [.int a1, .int a2] (c_X8_isVertex hk.loc hk.inj F a0 a1 a2 ha0 σ h3) gX8_colour_X8_isVertex rfl ⟨rfl, rfl⟩ (by decide +kernel) ⟨Nat.le_of_ble_eq_true rfl, Nat.le_of_ble_eq_true rfl⟩ ha0.cell.1 (ha0.cell.2 _) rfl rfl rfl (Nat.le_of_ble_eq_true rfl) ⟨Nat.zero_le _, Nat.zero_le _⟩ dX8_colour_4 ?_
  show Z K 0 0 7 [(0, .ref (eA (kZ K) a0)), (1, .int a1), (2, .int a2)] [.int x1, .ref (eA (kZ K) a0)] s2
  refine Z_iconst hk dX8_colour_7 zc_iconst_1 ?_
  obtain ⟨x4, s5, h6, h⟩ := bd_ok h
  refine Z_callV 2 hk [.int x1, .int 1] (c_X8_goes hk.loc hk.inj F a0 x1 1 ha0 s2 h6) gX8_colour_X8_goes rfl ⟨rfl, rfl⟩ (by decide +kernel) ⟨Nat.le_of_ble_eq_true rfl, Nat.le_of_ble_eq_true rfl⟩ ha0.cell.1 (ha0.cell.2 _) rfl rfl rfl (Nat.le_of_ble_eq_true rfl) ⟨Nat.zero_le _, Nat.zero_le _⟩ dX8_colour_8 ?_
  show Z K 0 0 11 [(0, .ref (eA (kZ K) a0)), (1, .int a1), (2, .int a2)] [.int x4] s5
  refine Z_if_eq hk (tgt := 28) dX8_colour_11 (by decide) (fun c7 => ?_) (fun c7 => ?_)
  · have h := if_yes h c7
    refine Z_iconst hk dX8_colour_28 zc_iconst_0 ?_
    cases h
    exact Z_iret hk hq dX8_colour_29
  · have h := if_no h c7
    refine Z_aload_n hk 0 dX8_colour_14 rfl rfl ?_
    refine Z_get hk in_X8_colour_CanonCoteModel rfl ha0.cell.1 (ha0.cell.2 _) 2 (by decide) wd_X8_colour_1 rfl dX8_colour_15 ?_
    refine Z_bipush hk dX8_colour_18 zc_bipush_8 ?_
    refine Z_iload_n hk 1 dX8_colour_20 rfl rfl ?_
    refine Z_imul hk dX8_colour_21 ?_
    refine Z_iload_n hk 2 dX8_colour_22 rfl rfl ?_
    refine Z_iadd hk dX8_colour_23 ?_
    obtain ⟨i10, x8, e9, h⟩ := ldI_get h
    refine Z_iald hk (ha0.colours) i10 dX8_colour_24 ?_
    refine Z_eqI e9 ?_
    refine Z_goto hk (tgt := 29) dX8_colour_25 (by decide) ?_
    cases h
    exact Z_iret hk hq dX8_colour_29
theorem c_X8_colour {l : Launch} {E : zE} (hL : eL E) (hJ : eJ E) (F : Nat) (a0 : Nat) (a1 : Int32) (a2 : Int32) (ha0 : atCanonCoteModel E a0) (σ : zST) {r0 : Int32} {τ0 : zST} (h : m_X8_colour F a0 a1 a2 σ = some (r0, τ0)) : Ct l yX8_colour wsX8_colour r_X8_colour E [.ref (eA E a0), .int a1, .int a2] σ (some (.int r0)) τ0 := by
  refine Ct_of (by decide) rfl hL hJ (Nat.le_of_ble_eq_true rfl) (fun K hE hl hk hq => ?_)
  subst hE
  exact w_X8_colour hk hq F a0 a1 a2 ha0 σ h
end

-- CanonCoteModel.bits (I)I
section
theorem dX8_bits_0 : decode cX8_bits 0 = .ok (.iconst 0, 1) := by decide +kernel
theorem dX8_bits_1 : decode cX8_bits 1 = .ok (.istore_n 1, 1) := by decide +kernel
theorem dX8_bits_2 : decode cX8_bits 2 = .ok (.iconst 0, 1) := by decide +kernel
theorem dX8_bits_3 : decode cX8_bits 3 = .ok (.istore_n 2, 1) := by decide +kernel
theorem dX8_bits_4 : decode cX8_bits 4 = .ok (.iload_n 2, 1) := by decide +kernel
theorem dX8_bits_5 : decode cX8_bits 5 = .ok (.bipush 8, 2) := by decide +kernel
theorem dX8_bits_7 : decode cX8_bits 7 = .ok (.if_icmp .ge 17, 3) := by decide +kernel
theorem dX8_bits_10 : decode cX8_bits 10 = .ok (.iload_n 1, 1) := by decide +kernel
theorem dX8_bits_11 : decode cX8_bits 11 = .ok (.iload_n 0, 1) := by decide +kernel
theorem dX8_bits_12 : decode cX8_bits 12 = .ok (.iload_n 2, 1) := by decide +kernel
theorem dX8_bits_13 : decode cX8_bits 13 = .ok (.ishr, 1) := by decide +kernel
theorem dX8_bits_14 : decode cX8_bits 14 = .ok (.iconst 1, 1) := by decide +kernel
theorem dX8_bits_15 : decode cX8_bits 15 = .ok (.iand, 1) := by decide +kernel
theorem dX8_bits_16 : decode cX8_bits 16 = .ok (.iadd, 1) := by decide +kernel
theorem dX8_bits_17 : decode cX8_bits 17 = .ok (.istore_n 1, 1) := by decide +kernel
theorem dX8_bits_18 : decode cX8_bits 18 = .ok (.iinc 2 1, 3) := by decide +kernel
theorem dX8_bits_21 : decode cX8_bits 21 = .ok (.goto (-17), 3) := by decide +kernel
theorem dX8_bits_24 : decode cX8_bits 24 = .ok (.iload_n 1, 1) := by decide +kernel
theorem dX8_bits_25 : decode cX8_bits 25 = .ok (.ireturn, 1) := by decide +kernel
def r_X8_bits : Room := { frames := 1, cells := 0, slots := 0, locals := 12 }
set_option maxRecDepth 100000 in
set_option maxHeartbeats 4000000 in
theorem w_X8_bits_4 {K : zK} (hk : zIs K RX8 cX8_bits 3 wsX8_bits (some .int) r_X8_bits) {r0 : Int32} {τ0 : zST} (hq : zQ K (some (.int r0)) τ0) (F : Nat) : ∀ (n : Nat) (a0 : Int32) (a1 : Int32) (a2 : Int32) (σ : zST), m_X8_bits_4 F n a0 a1 a2 σ = some (r0, τ0) → Z K 0 0 4 [(0, .int a0), (1, .int a1), (2, .int a2)] [] σ := by
  intro n
  induction n with
  | zero => intro a0 a1 a2 σ h; cases h
  | succ n ih =>
    intro a0 a1 a2 σ h
    rw [m_X8_bits_4] at h
    refine Z_iload_n hk 2 dX8_bits_4 rfl rfl ?_
    refine Z_bipush hk dX8_bits_5 zc_bipush_8 ?_
    refine Z_icmp_ge hk (tgt := 24) dX8_bits_7 (by decide) (fun c1 => ?_) (fun c1 => ?_)
    · have h := if_yes h c1
      refine Z_iload_n hk 1 dX8_bits_24 rfl rfl ?_
      cases h
      exact Z_iret hk hq dX8_bits_25
    · have h := if_no h c1
      refine Z_iload_n hk 1 dX8_bits_10 rfl rfl ?_
      refine Z_iload_n hk 0 dX8_bits_11 rfl rfl ?_
      refine Z_iload_n hk 2 dX8_bits_12 rfl rfl ?_
      refine Z_ishr hk dX8_bits_13 ?_
      refine Z_iconst hk dX8_bits_14 zc_iconst_1 ?_
      refine Z_iand hk dX8_bits_15 ?_
      refine Z_iadd hk dX8_bits_16 ?_
      obtain ⟨x2, e3, h⟩ := nm_get h
      refine Z_eqI e3 ?_
      refine Z_istore_n hk (lv' := [(1, .int x2), (0, .int a0), (2, .int a2)]) dX8_bits_17 rfl (by decide) rfl ?_
      obtain ⟨x4, e5, h⟩ := nm_get h
      refine Z_iinc hk 2 (v := x4) (lv' := [(2, .int x4), (1, .int x2), (0, .int a0)]) dX8_bits_18 rfl (by rw [zc_iinc_1]; exact e5) (by decide) rfl ?_
      refine Z_goto hk (tgt := 4) dX8_bits_21 (by decide) ?_
      refine Z_sub [2, 1, 0] rfl ?_
      exact ih a0 x2 x4 σ h
set_option maxRecDepth 100000 in
set_option maxHeartbeats 4000000 in
theorem w_X8_bits {K : zK} (hk : zIs K RX8 cX8_bits 3 wsX8_bits (some .int) r_X8_bits) {r0 : Int32} {τ0 : zST} (hq : zQ K (some (.int r0)) τ0) (F : Nat) (a0 : Int32) (σ : zST) (h : m_X8_bits F a0 σ = some (r0, τ0)) : Z K 0 0 0 [(0, .int a0)] [] σ := by
  unfold m_X8_bits at h
  refine Z_iconst hk dX8_bits_0 zc_iconst_0 ?_
  refine Z_istore_n hk (lv' := [(1, .int 0), (0, .int a0)]) dX8_bits_1 rfl (by decide) rfl ?_
  refine Z_iconst hk dX8_bits_2 zc_iconst_0 ?_
  refine Z_istore_n hk (lv' := [(2, .int 0), (1, .int 0), (0, .int a0)]) dX8_bits_3 rfl (by decide) rfl ?_
  refine Z_sub [2, 1, 0] rfl ?_
  exact w_X8_bits_4 hk hq F F a0 0 0 σ h
theorem c_X8_bits {l : Launch} {E : zE} (hL : eL E) (hJ : eJ E) (F : Nat) (a0 : Int32) (σ : zST) {r0 : Int32} {τ0 : zST} (h : m_X8_bits F a0 σ = some (r0, τ0)) : Ct l yX8_bits wsX8_bits r_X8_bits E [.int a0] σ (some (.int r0)) τ0 := by
  refine Ct_of (by decide) rfl hL hJ (Nat.le_of_ble_eq_true rfl) (fun K hE hl hk hq => ?_)
  subst hE
  exact w_X8_bits hk hq F a0 σ h
end

-- CanonCoteModel.neighboursIn (III)I
section
theorem dX8_neighboursIn_0 : decode cX8_neighboursIn 0 = .ok (.iconst 0, 1) := by decide +kernel
theorem dX8_neighboursIn_1 : decode cX8_neighboursIn 1 = .ok (.istore 4, 2) := by decide +kernel
theorem dX8_neighboursIn_3 : decode cX8_neighboursIn 3 = .ok (.iconst 0, 1) := by decide +kernel
theorem dX8_neighboursIn_4 : decode cX8_neighboursIn 4 = .ok (.istore 5, 2) := by decide +kernel
theorem dX8_neighboursIn_6 : decode cX8_neighboursIn 6 = .ok (.iload 5, 2) := by decide +kernel
theorem dX8_neighboursIn_8 : decode cX8_neighboursIn 8 = .ok (.aload_n 0, 1) := by decide +kernel
theorem dX8_neighboursIn_9 : decode cX8_neighboursIn 9 = .ok (.getfield 7, 3) := by decide +kernel
theorem dX8_neighboursIn_12 : decode cX8_neighboursIn 12 = .ok (.iload_n 1, 1) := by decide +kernel
theorem dX8_neighboursIn_13 : decode cX8_neighboursIn 13 = .ok (.iaload, 1) := by decide +kernel
theorem dX8_neighboursIn_14 : decode cX8_neighboursIn 14 = .ok (.if_icmp .ge 33, 3) := by decide +kernel
theorem dX8_neighboursIn_17 : decode cX8_neighboursIn 17 = .ok (.iload 4, 2) := by decide +kernel
theorem dX8_neighboursIn_19 : decode cX8_neighboursIn 19 = .ok (.aload_n 0, 1) := by decide +kernel
theorem dX8_neighboursIn_20 : decode cX8_neighboursIn 20 = .ok (.getfield 28, 3) := by decide +kernel
theorem dX8_neighboursIn_23 : decode cX8_neighboursIn 23 = .ok (.iload 5, 2) := by decide +kernel
theorem dX8_neighboursIn_25 : decode cX8_neighboursIn 25 = .ok (.iaload, 1) := by decide +kernel
theorem dX8_neighboursIn_26 : decode cX8_neighboursIn 26 = .ok (.iload_n 3, 1) := by decide +kernel
theorem dX8_neighboursIn_27 : decode cX8_neighboursIn 27 = .ok (.if_icmp .ne 10, 3) := by decide +kernel
theorem dX8_neighboursIn_30 : decode cX8_neighboursIn 30 = .ok (.iconst 1, 1) := by decide +kernel
theorem dX8_neighboursIn_31 : decode cX8_neighboursIn 31 = .ok (.iload 5, 2) := by decide +kernel
theorem dX8_neighboursIn_33 : decode cX8_neighboursIn 33 = .ok (.ishl, 1) := by decide +kernel
theorem dX8_neighboursIn_34 : decode cX8_neighboursIn 34 = .ok (.goto 4, 3) := by decide +kernel
theorem dX8_neighboursIn_37 : decode cX8_neighboursIn 37 = .ok (.iconst 0, 1) := by decide +kernel
theorem dX8_neighboursIn_38 : decode cX8_neighboursIn 38 = .ok (.ior, 1) := by decide +kernel
theorem dX8_neighboursIn_39 : decode cX8_neighboursIn 39 = .ok (.istore 4, 2) := by decide +kernel
theorem dX8_neighboursIn_41 : decode cX8_neighboursIn 41 = .ok (.iinc 5 1, 3) := by decide +kernel
theorem dX8_neighboursIn_44 : decode cX8_neighboursIn 44 = .ok (.goto (-38), 3) := by decide +kernel
theorem dX8_neighboursIn_47 : decode cX8_neighboursIn 47 = .ok (.iload 4, 2) := by decide +kernel
theorem dX8_neighboursIn_49 : decode cX8_neighboursIn 49 = .ok (.aload_n 0, 1) := by decide +kernel
theorem dX8_neighboursIn_50 : decode cX8_neighboursIn 50 = .ok (.getfield 13, 3) := by decide +kernel
theorem dX8_neighboursIn_53 : decode cX8_neighboursIn 53 = .ok (.bipush 8, 2) := by decide +kernel
theorem dX8_neighboursIn_55 : decode cX8_neighboursIn 55 = .ok (.iload_n 1, 1) := by decide +kernel
theorem dX8_neighboursIn_56 : decode cX8_neighboursIn 56 = .ok (.imul, 1) := by decide +kernel
theorem dX8_neighboursIn_57 : decode cX8_neighboursIn 57 = .ok (.iload_n 2, 1) := by decide +kernel
theorem dX8_neighboursIn_58 : decode cX8_neighboursIn 58 = .ok (.iadd, 1) := by decide +kernel
theorem dX8_neighboursIn_59 : decode cX8_neighboursIn 59 = .ok (.iaload, 1) := by decide +kernel
theorem dX8_neighboursIn_60 : decode cX8_neighboursIn 60 = .ok (.iand, 1) := by decide +kernel
theorem dX8_neighboursIn_61 : decode cX8_neighboursIn 61 = .ok (.invokestatic 88, 3) := by decide +kernel
theorem dX8_neighboursIn_64 : decode cX8_neighboursIn 64 = .ok (.ireturn, 1) := by decide +kernel
set_option maxRecDepth 20000 in
theorem ggX8_neighboursIn_X8_bits : GoodIn wsX8_neighboursIn wsX8_bits := goodIn_r _ [7] (by decide +kernel) (by decide +kernel)
set_option maxRecDepth 20000 in
theorem gX8_neighboursIn_X8_bits : GoodIn wsX8_neighboursIn (va_wsS RX8 88 yX8_bits wsX8_bits) := goodIn_app (goodIn_of _ (by decide +kernel)) ggX8_neighboursIn_X8_bits
theorem in_X8_neighboursIn_CanonCoteModel : ∀ w ∈ u_ws RX8 TX8 17, w ∈ wsX8_neighboursIn := by decide +kernel
theorem wd_X8_neighboursIn_1 : Cond.fieldLink RX8 7 (TX8 0).1 (TX8 0).2.1 (TX8 0).2.2.1 ∈ wsX8_neighboursIn := by decide +kernel
theorem wd_X8_neighboursIn_2 : Cond.fieldLink RX8 13 (TX8 1).1 (TX8 1).2.1 (TX8 1).2.2.1 ∈ wsX8_neighboursIn := by decide +kernel
theorem wd_X8_neighboursIn_3 : Cond.fieldLink RX8 28 (TX8 6).1 (TX8 6).2.1 (TX8 6).2.2.1 ∈ wsX8_neighboursIn := by decide +kernel
def r_X8_neighboursIn : Room := { frames := 2, cells := 0, slots := 0, locals := 34 }
set_option maxRecDepth 100000 in
set_option maxHeartbeats 4000000 in
theorem w_X8_neighboursIn_38 {K : zK} (hk : zIs K RX8 cX8_neighboursIn 6 wsX8_neighboursIn (some .int) r_X8_neighboursIn) {r0 : Int32} {τ0 : zST} (hq : zQ K (some (.int r0)) τ0) (F : Nat) (k6 : Nat → Int32 → Int32 → Int32 → Int32 → Int32 → zST → Option (Int32 × zST)) (hk6 : ∀ (a0 : Nat) (a1 : Int32) (a2 : Int32) (a3 : Int32) (a4 : Int32) (a5 : Int32) (ha0 : atCanonCoteModel (kZ K) a0) (σ : zST), k6 a0 a1 a2 a3 a4 a5 σ = some (r0, τ0) → Z K 0 0 6 [(0, .ref (eA (kZ K) a0)), (1, .int a1), (2, .int a2), (3, .int a3), (4, .int a4), (5, .int a5)] [] σ) (a0 : Nat) (a1 : Int32) (a2 : Int32) (a3 : Int32) (a5 : Int32) (t0 : Int32) (t1 : Int32) (ha0 : atCanonCoteModel (kZ K) a0) (σ : zST) (h : m_X8_neighboursIn_38 F k6 a0 a1 a2 a3 a5 t0 t1 σ = some (r0, τ0)) : Z K 0 0 38 [(0, .ref (eA (kZ K) a0)), (1, .int a1), (2, .int a2), (3, .int a3), (5, .int a5)] [.int t0, .int t1] σ := by
  unfold m_X8_neighboursIn_38 at h
  refine Z_ior hk dX8_neighboursIn_38 ?_
  obtain ⟨x15, e16, h⟩ := nm_get h
  refine Z_eqI e16 ?_
  refine Z_istore hk (lv' := [(4, .int x15), (0, .ref (eA (kZ K) a0)), (1, .int a1), (2, .int a2), (3, .int a3), (5, .int a5)]) dX8_neighboursIn_39 (by decide) rfl ?_
  obtain ⟨x17, e18, h⟩ := nm_get h
  refine Z_iinc hk 5 (v := x17) (lv' := [(5, .int x17), (4, .int x15), (0, .ref (eA (kZ K) a0)), (1, .int a1), (2, .int a2), (3, .int a3)]) dX8_neighboursIn_41 rfl (by rw [zc_iinc_1]; exact e18) (by decide) rfl ?_
  refine Z_goto hk (tgt := 6) dX8_neighboursIn_44 (by decide) ?_
  refine Z_sub [2, 3, 4, 5, 1, 0] rfl ?_
  exact hk6 a0 a1 a2 a3 x15 x17 ha0 σ h
set_option maxRecDepth 100000 in
set_option maxHeartbeats 4000000 in
theorem w_X8_neighboursIn_6 {K : zK} (hk : zIs K RX8 cX8_neighboursIn 6 wsX8_neighboursIn (some .int) r_X8_neighboursIn) {r0 : Int32} {τ0 : zST} (hq : zQ K (some (.int r0)) τ0) (F : Nat) : ∀ (n : Nat) (a0 : Nat) (a1 : Int32) (a2 : Int32) (a3 : Int32) (a4 : Int32) (a5 : Int32) (ha0 : atCanonCoteModel (kZ K) a0) (σ : zST), m_X8_neighboursIn_6 F n a0 a1 a2 a3 a4 a5 σ = some (r0, τ0) → Z K 0 0 6 [(0, .ref (eA (kZ K) a0)), (1, .int a1), (2, .int a2), (3, .int a3), (4, .int a4), (5, .int a5)] [] σ := by
  intro n
  induction n with
  | zero => intro a0 a1 a2 a3 a4 a5 ha0 σ h; cases h
  | succ n ih =>
    intro a0 a1 a2 a3 a4 a5 ha0 σ h
    rw [m_X8_neighboursIn_6] at h
    refine Z_iload hk 5 dX8_neighboursIn_6 rfl ?_
    refine Z_aload_n hk 0 dX8_neighboursIn_8 rfl rfl ?_
    refine Z_get hk in_X8_neighboursIn_CanonCoteModel rfl ha0.cell.1 (ha0.cell.2 _) 0 (by decide) wd_X8_neighboursIn_1 rfl dX8_neighboursIn_9 ?_
    refine Z_iload_n hk 1 dX8_neighboursIn_12 rfl rfl ?_
    obtain ⟨i3, x1, e2, h⟩ := ldI_get h
    refine Z_iald hk (ha0.sizes) i3 dX8_neighboursIn_13 ?_
    refine Z_eqI e2 ?_
    refine Z_icmp_ge hk (tgt := 47) dX8_neighboursIn_14 (by decide) (fun c4 => ?_) (fun c4 => ?_)
    · have h := if_yes h c4
      refine Z_iload hk 4 dX8_neighboursIn_47 rfl ?_
      refine Z_aload_n hk 0 dX8_neighboursIn_49 rfl rfl ?_
      refine Z_get hk in_X8_neighboursIn_CanonCoteModel rfl ha0.cell.1 (ha0.cell.2 _) 1 (by decide) wd_X8_neighboursIn_2 rfl dX8_neighboursIn_50 ?_
      refine Z_bipush hk dX8_neighboursIn_53 zc_bipush_8 ?_
      refine Z_iload_n hk 1 dX8_neighboursIn_55 rfl rfl ?_
      refine Z_imul hk dX8_neighboursIn_56 ?_
      refine Z_iload_n hk 2 dX8_neighboursIn_57 rfl rfl ?_
      refine Z_iadd hk dX8_neighboursIn_58 ?_
      obtain ⟨i7, x5, e6, h⟩ := ldI_get h
      refine Z_iald hk (ha0.sides) i7 dX8_neighboursIn_59 ?_
      refine Z_eqI e6 ?_
      refine Z_iand hk dX8_neighboursIn_60 ?_
      obtain ⟨x8, s9, h10, h⟩ := bd_ok h
      refine Z_callT 1 hk [.int (a4 &&& x5)] (c_X8_bits hk.loc hk.inj F (a4 &&& x5) σ h10) gX8_neighboursIn_X8_bits rfl ⟨rfl, rfl⟩ (by decide +kernel) ⟨Nat.le_of_ble_eq_true rfl, Nat.le_of_ble_eq_true rfl⟩ rfl rfl (Nat.le_of_ble_eq_true rfl) ⟨Nat.zero_le _, Nat.zero_le _⟩ dX8_neighboursIn_61 ?_
      show Z K 0 0 64 [(0, .ref (eA (kZ K) a0)), (1, .int a1), (2, .int a2), (3, .int a3), (4, .int a4), (5, .int a5)] [.int x8] s9
      cases h
      exact Z_iret hk hq dX8_neighboursIn_64
    · have h := if_no h c4
      refine Z_iload hk 4 dX8_neighboursIn_17 rfl ?_
      refine Z_aload_n hk 0 dX8_neighboursIn_19 rfl rfl ?_
      refine Z_get hk in_X8_neighboursIn_CanonCoteModel rfl ha0.cell.1 (ha0.cell.2 _) 6 (by decide) wd_X8_neighboursIn_3 rfl dX8_neighboursIn_20 ?_
      refine Z_iload hk 5 dX8_neighboursIn_23 rfl ?_
      obtain ⟨i13, x11, e12, h⟩ := ldI_get h
      refine Z_iald hk (ha0.old) i13 dX8_neighboursIn_25 ?_
      refine Z_eqI e12 ?_
      refine Z_iload_n hk 3 dX8_neighboursIn_26 rfl rfl ?_
      refine Z_icmp_ne hk (tgt := 37) dX8_neighboursIn_27 (by decide) (fun c14 => ?_) (fun c14 => ?_)
      · have h := if_yes h c14
        refine Z_iconst hk dX8_neighboursIn_30 zc_iconst_1 ?_
        refine Z_iload hk 5 dX8_neighboursIn_31 rfl ?_
        refine Z_ishl hk dX8_neighboursIn_33 ?_
        refine Z_goto hk (tgt := 38) dX8_neighboursIn_34 (by decide) ?_
        refine Z_sub [0, 1, 2, 3, 5] rfl ?_
        exact w_X8_neighboursIn_38 hk hq F (m_X8_neighboursIn_6 F n) ih a0 a1 a2 a3 a5 (jshl 1 a5) a4 ha0 σ h
      · have h := if_no h c14
        refine Z_iconst hk dX8_neighboursIn_37 zc_iconst_0 ?_
        refine Z_sub [0, 1, 2, 3, 5] rfl ?_
        exact w_X8_neighboursIn_38 hk hq F (m_X8_neighboursIn_6 F n) ih a0 a1 a2 a3 a5 0 a4 ha0 σ h
set_option maxRecDepth 100000 in
set_option maxHeartbeats 4000000 in
theorem w_X8_neighboursIn {K : zK} (hk : zIs K RX8 cX8_neighboursIn 6 wsX8_neighboursIn (some .int) r_X8_neighboursIn) {r0 : Int32} {τ0 : zST} (hq : zQ K (some (.int r0)) τ0) (F : Nat) (a0 : Nat) (a1 : Int32) (a2 : Int32) (a3 : Int32) (ha0 : atCanonCoteModel (kZ K) a0) (σ : zST) (h : m_X8_neighboursIn F a0 a1 a2 a3 σ = some (r0, τ0)) : Z K 0 0 0 [(0, .ref (eA (kZ K) a0)), (1, .int a1), (2, .int a2), (3, .int a3)] [] σ := by
  unfold m_X8_neighboursIn at h
  refine Z_iconst hk dX8_neighboursIn_0 zc_iconst_0 ?_
  refine Z_istore hk (lv' := [(4, .int 0), (0, .ref (eA (kZ K) a0)), (1, .int a1), (2, .int a2), (3, .int a3)]) dX8_neighboursIn_1 (by decide) rfl ?_
  refine Z_iconst hk dX8_neighboursIn_3 zc_iconst_0 ?_
  refine Z_istore hk (lv' := [(5, .int 0), (4, .int 0), (0, .ref (eA (kZ K) a0)), (1, .int a1), (2, .int a2), (3, .int a3)]) dX8_neighboursIn_4 (by decide) rfl ?_
  refine Z_sub [2, 3, 4, 5, 1, 0] rfl ?_
  exact w_X8_neighboursIn_6 hk hq F F a0 a1 a2 a3 0 0 ha0 σ h
theorem c_X8_neighboursIn {l : Launch} {E : zE} (hL : eL E) (hJ : eJ E) (F : Nat) (a0 : Nat) (a1 : Int32) (a2 : Int32) (a3 : Int32) (ha0 : atCanonCoteModel E a0) (σ : zST) {r0 : Int32} {τ0 : zST} (h : m_X8_neighboursIn F a0 a1 a2 a3 σ = some (r0, τ0)) : Ct l yX8_neighboursIn wsX8_neighboursIn r_X8_neighboursIn E [.ref (eA E a0), .int a1, .int a2, .int a3] σ (some (.int r0)) τ0 := by
  refine Ct_of (by decide) rfl hL hJ (Nat.le_of_ble_eq_true rfl) (fun K hE hl hk hq => ?_)
  subst hE
  exact w_X8_neighboursIn hk hq F a0 a1 a2 a3 ha0 σ h
end

-- CanonCoteModel.compares (IIIZ)I
section
theorem dX8_compares_0 : decode cX8_compares 0 = .ok (.iload 4, 2) := by decide +kernel
theorem dX8_compares_2 : decode cX8_compares 2 = .ok (.ifCond .eq 27, 3) := by decide +kernel
theorem dX8_compares_5 : decode cX8_compares 5 = .ok (.aload_n 0, 1) := by decide +kernel
theorem dX8_compares_6 : decode cX8_compares 6 = .ok (.getfield 16, 3) := by decide +kernel
theorem dX8_compares_9 : decode cX8_compares 9 = .ok (.bipush 8, 2) := by decide +kernel
theorem dX8_compares_11 : decode cX8_compares 11 = .ok (.iload_n 1, 1) := by decide +kernel
theorem dX8_compares_12 : decode cX8_compares 12 = .ok (.imul, 1) := by decide +kernel
theorem dX8_compares_13 : decode cX8_compares 13 = .ok (.iload_n 2, 1) := by decide +kernel
theorem dX8_compares_14 : decode cX8_compares 14 = .ok (.iadd, 1) := by decide +kernel
theorem dX8_compares_15 : decode cX8_compares 15 = .ok (.iaload, 1) := by decide +kernel
theorem dX8_compares_16 : decode cX8_compares 16 = .ok (.aload_n 0, 1) := by decide +kernel
theorem dX8_compares_17 : decode cX8_compares 17 = .ok (.getfield 16, 3) := by decide +kernel
theorem dX8_compares_20 : decode cX8_compares 20 = .ok (.bipush 8, 2) := by decide +kernel
theorem dX8_compares_22 : decode cX8_compares 22 = .ok (.iload_n 1, 1) := by decide +kernel
theorem dX8_compares_23 : decode cX8_compares 23 = .ok (.imul, 1) := by decide +kernel
theorem dX8_compares_24 : decode cX8_compares 24 = .ok (.iload_n 3, 1) := by decide +kernel
theorem dX8_compares_25 : decode cX8_compares 25 = .ok (.iadd, 1) := by decide +kernel
theorem dX8_compares_26 : decode cX8_compares 26 = .ok (.iaload, 1) := by decide +kernel
theorem dX8_compares_27 : decode cX8_compares 27 = .ok (.isub, 1) := by decide +kernel
theorem dX8_compares_28 : decode cX8_compares 28 = .ok (.ireturn, 1) := by decide +kernel
theorem dX8_compares_29 : decode cX8_compares 29 = .ok (.aload_n 0, 1) := by decide +kernel
theorem dX8_compares_30 : decode cX8_compares 30 = .ok (.getfield 28, 3) := by decide +kernel
theorem dX8_compares_33 : decode cX8_compares 33 = .ok (.iload_n 2, 1) := by decide +kernel
theorem dX8_compares_34 : decode cX8_compares 34 = .ok (.iaload, 1) := by decide +kernel
theorem dX8_compares_35 : decode cX8_compares 35 = .ok (.aload_n 0, 1) := by decide +kernel
theorem dX8_compares_36 : decode cX8_compares 36 = .ok (.getfield 28, 3) := by decide +kernel
theorem dX8_compares_39 : decode cX8_compares 39 = .ok (.iload_n 3, 1) := by decide +kernel
theorem dX8_compares_40 : decode cX8_compares 40 = .ok (.iaload, 1) := by decide +kernel
theorem dX8_compares_41 : decode cX8_compares 41 = .ok (.isub, 1) := by decide +kernel
theorem dX8_compares_42 : decode cX8_compares 42 = .ok (.istore 5, 2) := by decide +kernel
theorem dX8_compares_44 : decode cX8_compares 44 = .ok (.iconst 0, 1) := by decide +kernel
theorem dX8_compares_45 : decode cX8_compares 45 = .ok (.istore 6, 2) := by decide +kernel
theorem dX8_compares_47 : decode cX8_compares 47 = .ok (.iload 6, 2) := by decide +kernel
theorem dX8_compares_49 : decode cX8_compares 49 = .ok (.aload_n 0, 1) := by decide +kernel
theorem dX8_compares_50 : decode cX8_compares 50 = .ok (.getfield 7, 3) := by decide +kernel
theorem dX8_compares_53 : decode cX8_compares 53 = .ok (.iload_n 1, 1) := by decide +kernel
theorem dX8_compares_54 : decode cX8_compares 54 = .ok (.iaload, 1) := by decide +kernel
theorem dX8_compares_55 : decode cX8_compares 55 = .ok (.if_icmp .ge 33, 3) := by decide +kernel
theorem dX8_compares_58 : decode cX8_compares 58 = .ok (.iload 5, 2) := by decide +kernel
theorem dX8_compares_60 : decode cX8_compares 60 = .ok (.ifCond .ne 28, 3) := by decide +kernel
theorem dX8_compares_63 : decode cX8_compares 63 = .ok (.aload_n 0, 1) := by decide +kernel
theorem dX8_compares_64 : decode cX8_compares 64 = .ok (.iload_n 1, 1) := by decide +kernel
theorem dX8_compares_65 : decode cX8_compares 65 = .ok (.iload_n 2, 1) := by decide +kernel
theorem dX8_compares_66 : decode cX8_compares 66 = .ok (.iload 6, 2) := by decide +kernel
theorem dX8_compares_68 : decode cX8_compares 68 = .ok (.invokevirtual 91, 3) := by decide +kernel
theorem dX8_compares_71 : decode cX8_compares 71 = .ok (.aload_n 0, 1) := by decide +kernel
theorem dX8_compares_72 : decode cX8_compares 72 = .ok (.iload_n 1, 1) := by decide +kernel
theorem dX8_compares_73 : decode cX8_compares 73 = .ok (.iload_n 3, 1) := by decide +kernel
theorem dX8_compares_74 : decode cX8_compares 74 = .ok (.iload 6, 2) := by decide +kernel
theorem dX8_compares_76 : decode cX8_compares 76 = .ok (.invokevirtual 91, 3) := by decide +kernel
theorem dX8_compares_79 : decode cX8_compares 79 = .ok (.isub, 1) := by decide +kernel
theorem dX8_compares_80 : decode cX8_compares 80 = .ok (.istore 5, 2) := by decide +kernel
theorem dX8_compares_82 : decode cX8_compares 82 = .ok (.iinc 6 1, 3) := by decide +kernel
theorem dX8_compares_85 : decode cX8_compares 85 = .ok (.goto (-38), 3) := by decide +kernel
theorem dX8_compares_88 : decode cX8_compares 88 = .ok (.iload 5, 2) := by decide +kernel
theorem dX8_compares_90 : decode cX8_compares 90 = .ok (.ireturn, 1) := by decide +kernel
set_option maxRecDepth 20000 in
theorem ggX8_compares_X8_neighboursIn : GoodIn wsX8_compares wsX8_neighboursIn := goodIn_r _ [8, 3, 2, 9, 10, 11, 7, 12, 13, 14, 15, 16, 17, 18, 19, 20, 21, 22, 23, 24, 25, 26, 27, 28, 29] (by decide +kernel) (by decide +kernel)
set_option maxRecDepth 20000 in
theorem gX8_compares_X8_neighboursIn : GoodIn wsX8_compares (wsV RX8 91 RX8 yX8_neighboursIn wsX8_neighboursIn) := goodIn_app (goodIn_of _ (by decide +kernel)) ggX8_compares_X8_neighboursIn
theorem in_X8_compares_CanonCoteModel : ∀ w ∈ u_ws RX8 TX8 17, w ∈ wsX8_compares := by decide +kernel
theorem wd_X8_compares_1 : Cond.fieldLink RX8 28 (TX8 6).1 (TX8 6).2.1 (TX8 6).2.2.1 ∈ wsX8_compares := by decide +kernel
theorem wd_X8_compares_2 : Cond.fieldLink RX8 16 (TX8 2).1 (TX8 2).2.1 (TX8 2).2.2.1 ∈ wsX8_compares := by decide +kernel
theorem wd_X8_compares_3 : Cond.fieldLink RX8 7 (TX8 0).1 (TX8 0).2.1 (TX8 0).2.2.1 ∈ wsX8_compares := by decide +kernel
def r_X8_compares : Room := { frames := 3, cells := 0, slots := 0, locals := 59 }
set_option maxRecDepth 100000 in
set_option maxHeartbeats 4000000 in
theorem w_X8_compares_88 {K : zK} (hk : zIs K RX8 cX8_compares 7 wsX8_compares (some .int) r_X8_compares) {r0 : Int32} {τ0 : zST} (hq : zQ K (some (.int r0)) τ0) (F : Nat) (a5 : Int32) (σ : zST) (h : m_X8_compares_88 F a5 σ = some (r0, τ0)) : Z K 0 0 88 [(5, .int a5)] [] σ := by
  unfold m_X8_compares_88 at h
  refine Z_iload hk 0 dX8_compares_88 rfl ?_
  cases h
  exact Z_iret hk hq dX8_compares_90
set_option maxRecDepth 100000 in
set_option maxHeartbeats 4000000 in
theorem w_X8_compares_47 {K : zK} (hk : zIs K RX8 cX8_compares 7 wsX8_compares (some .int) r_X8_compares) {r0 : Int32} {τ0 : zST} (hq : zQ K (some (.int r0)) τ0) (F : Nat) : ∀ (n : Nat) (a0 : Nat) (a1 : Int32) (a2 : Int32) (a3 : Int32) (a5 : Int32) (a6 : Int32) (ha0 : atCanonCoteModel (kZ K) a0) (σ : zST), m_X8_compares_47 F n a0 a1 a2 a3 a5 a6 σ = some (r0, τ0) → Z K 0 0 47 [(0, .ref (eA (kZ K) a0)), (1, .int a1), (2, .int a2), (3, .int a3), (5, .int a5), (6, .int a6)] [] σ := by
  intro n
  induction n with
  | zero => intro a0 a1 a2 a3 a5 a6 ha0 σ h; cases h
  | succ n ih =>
    intro a0 a1 a2 a3 a5 a6 ha0 σ h
    rw [m_X8_compares_47] at h
    refine Z_iload hk 5 dX8_compares_47 rfl ?_
    refine Z_aload_n hk 0 dX8_compares_49 rfl rfl ?_
    refine Z_get hk in_X8_compares_CanonCoteModel rfl ha0.cell.1 (ha0.cell.2 _) 0 (by decide) wd_X8_compares_3 rfl dX8_compares_50 ?_
    refine Z_iload_n hk 1 dX8_compares_53 rfl rfl ?_
    obtain ⟨i18, x16, e17, h⟩ := ldI_get h
    refine Z_iald hk (ha0.sizes) i18 dX8_compares_54 ?_
    refine Z_eqI e17 ?_
    refine Z_icmp_ge hk (tgt := 88) dX8_compares_55 (by decide) (fun c19 => ?_) (fun c19 => ?_)
    · have h := if_yes h c19
      refine Z_sub [4] rfl ?_
      exact w_X8_compares_88 hk hq F a5 σ h
    · have h := if_no h c19
      refine Z_iload hk 4 dX8_compares_58 rfl ?_
      refine Z_if_ne hk (tgt := 88) dX8_compares_60 (by decide) (fun c20 => ?_) (fun c20 => ?_)
      · have h := if_yes h c20
        refine Z_aload_n hk 0 dX8_compares_63 rfl rfl ?_
        refine Z_iload_n hk 1 dX8_compares_64 rfl rfl ?_
        refine Z_iload_n hk 2 dX8_compares_65 rfl rfl ?_
        refine Z_iload hk 5 dX8_compares_66 rfl ?_
        obtain ⟨x21, s22, h23, h⟩ := bd_ok h
        refine Z_callV 3 hk [.int a1, .int a2, .int a6] (c_X8_neighboursIn hk.loc hk.inj F a0 a1 a2 a6 ha0 σ h23) gX8_compares_X8_neighboursIn rfl ⟨rfl, rfl⟩ (by decide +kernel) ⟨Nat.le_of_ble_eq_true rfl, Nat.le_of_ble_eq_true rfl⟩ ha0.cell.1 (ha0.cell.2 _) rfl rfl rfl (Nat.le_of_ble_eq_true rfl) ⟨Nat.zero_le _, Nat.zero_le _⟩ dX8_compares_68 ?_
        show Z K 0 0 71 [(0, .ref (eA (kZ K) a0)), (1, .int a1), (2, .int a2), (3, .int a3), (5, .int a5), (6, .int a6)] [.int x21] s22
        refine Z_aload_n hk 0 dX8_compares_71 rfl rfl ?_
        refine Z_iload_n hk 1 dX8_compares_72 rfl rfl ?_
        refine Z_iload_n hk 3 dX8_compares_73 rfl rfl ?_
        refine Z_iload hk 5 dX8_compares_74 rfl ?_
        obtain ⟨x24, s25, h26, h⟩ := bd_ok h
        refine Z_callV 3 hk [.int a1, .int a3, .int a6] (c_X8_neighboursIn hk.loc hk.inj F a0 a1 a3 a6 ha0 s22 h26) gX8_compares_X8_neighboursIn rfl ⟨rfl, rfl⟩ (by decide +kernel) ⟨Nat.le_of_ble_eq_true rfl, Nat.le_of_ble_eq_true rfl⟩ ha0.cell.1 (ha0.cell.2 _) rfl rfl rfl (Nat.le_of_ble_eq_true rfl) ⟨Nat.zero_le _, Nat.zero_le _⟩ dX8_compares_76 ?_
        show Z K 0 0 79 [(0, .ref (eA (kZ K) a0)), (1, .int a1), (2, .int a2), (3, .int a3), (5, .int a5), (6, .int a6)] [.int x24, .int x21] s25
        refine Z_isub hk dX8_compares_79 ?_
        obtain ⟨x27, e28, h⟩ := nm_get h
        refine Z_eqI e28 ?_
        refine Z_istore hk (lv' := [(5, .int x27), (0, .ref (eA (kZ K) a0)), (1, .int a1), (2, .int a2), (3, .int a3), (6, .int a6)]) dX8_compares_80 (by decide) rfl ?_
        obtain ⟨x29, e30, h⟩ := nm_get h
        refine Z_iinc hk 5 (v := x29) (lv' := [(6, .int x29), (5, .int x27), (0, .ref (eA (kZ K) a0)), (1, .int a1), (2, .int a2), (3, .int a3)]) dX8_compares_82 rfl (by rw [zc_iinc_1]; exact e30) (by decide) rfl ?_
        refine Z_goto hk (tgt := 47) dX8_compares_85 (by decide) ?_
        refine Z_sub [2, 3, 4, 5, 1, 0] rfl ?_
        exact ih a0 a1 a2 a3 x27 x29 ha0 s25 h
      · have h := if_no h c20
        refine Z_sub [4] rfl ?_
        exact w_X8_compares_88 hk hq F a5 σ h
set_option maxRecDepth 100000 in
set_option maxHeartbeats 4000000 in
theorem w_X8_compares {K : zK} (hk : zIs K RX8 cX8_compares 7 wsX8_compares (some .int) r_X8_compares) {r0 : Int32} {τ0 : zST} (hq : zQ K (some (.int r0)) τ0) (F : Nat) (a0 : Nat) (a1 : Int32) (a2 : Int32) (a3 : Int32) (a4 : Int32) (ha0 : atCanonCoteModel (kZ K) a0) (σ : zST) (h : m_X8_compares F a0 a1 a2 a3 a4 σ = some (r0, τ0)) : Z K 0 0 0 [(0, .ref (eA (kZ K) a0)), (1, .int a1), (2, .int a2), (3, .int a3), (4, .int a4)] [] σ := by
  unfold m_X8_compares at h
  refine Z_iload hk 4 dX8_compares_0 rfl ?_
  refine Z_if_eq hk (tgt := 29) dX8_compares_2 (by decide) (fun c1 => ?_) (fun c1 => ?_)
  · have h := if_yes h c1
    refine Z_aload_n hk 0 dX8_compares_29 rfl rfl ?_
    refine Z_get hk in_X8_compares_CanonCoteModel rfl ha0.cell.1 (ha0.cell.2 _) 6 (by decide) wd_X8_compares_1 rfl dX8_compares_30 ?_
    refine Z_iload_n hk 2 dX8_compares_33 rfl rfl ?_
    obtain ⟨i4, x2, e3, h⟩ := ldI_get h
    refine Z_iald hk (ha0.old) i4 dX8_compares_34 ?_
    refine Z_eqI e3 ?_
    refine Z_aload_n hk 0 dX8_compares_35 rfl rfl ?_
    refine Z_get hk in_X8_compares_CanonCoteModel rfl ha0.cell.1 (ha0.cell.2 _) 6 (by decide) wd_X8_compares_1 rfl dX8_compares_36 ?_
    refine Z_iload_n hk 3 dX8_compares_39 rfl rfl ?_
    obtain ⟨i7, x5, e6, h⟩ := ldI_get h
    refine Z_iald hk (ha0.old) i7 dX8_compares_40 ?_
    refine Z_eqI e6 ?_
    refine Z_isub hk dX8_compares_41 ?_
    obtain ⟨x8, e9, h⟩ := nm_get h
    refine Z_eqI e9 ?_
    refine Z_istore hk (lv' := [(5, .int x8), (0, .ref (eA (kZ K) a0)), (1, .int a1), (2, .int a2), (3, .int a3), (4, .int a4)]) dX8_compares_42 (by decide) rfl ?_
    refine Z_iconst hk dX8_compares_44 zc_iconst_0 ?_
    refine Z_istore hk (lv' := [(6, .int 0), (5, .int x8), (0, .ref (eA (kZ K) a0)), (1, .int a1), (2, .int a2), (3, .int a3), (4, .int a4)]) dX8_compares_45 (by decide) rfl ?_
    refine Z_sub [2, 3, 4, 5, 1, 0] rfl ?_
    exact w_X8_compares_47 hk hq F F a0 a1 a2 a3 x8 0 ha0 σ h
  · have h := if_no h c1
    refine Z_aload_n hk 0 dX8_compares_5 rfl rfl ?_
    refine Z_get hk in_X8_compares_CanonCoteModel rfl ha0.cell.1 (ha0.cell.2 _) 2 (by decide) wd_X8_compares_2 rfl dX8_compares_6 ?_
    refine Z_bipush hk dX8_compares_9 zc_bipush_8 ?_
    refine Z_iload_n hk 1 dX8_compares_11 rfl rfl ?_
    refine Z_imul hk dX8_compares_12 ?_
    refine Z_iload_n hk 2 dX8_compares_13 rfl rfl ?_
    refine Z_iadd hk dX8_compares_14 ?_
    obtain ⟨i12, x10, e11, h⟩ := ldI_get h
    refine Z_iald hk (ha0.colours) i12 dX8_compares_15 ?_
    refine Z_eqI e11 ?_
    refine Z_aload_n hk 0 dX8_compares_16 rfl rfl ?_
    refine Z_get hk in_X8_compares_CanonCoteModel rfl ha0.cell.1 (ha0.cell.2 _) 2 (by decide) wd_X8_compares_2 rfl dX8_compares_17 ?_
    refine Z_bipush hk dX8_compares_20 zc_bipush_8 ?_
    refine Z_iload_n hk 1 dX8_compares_22 rfl rfl ?_
    refine Z_imul hk dX8_compares_23 ?_
    refine Z_iload_n hk 3 dX8_compares_24 rfl rfl ?_
    refine Z_iadd hk dX8_compares_25 ?_
    obtain ⟨i15, x13, e14, h⟩ := ldI_get h
    refine Z_iald hk (ha0.colours) i15 dX8_compares_26 ?_
    refine Z_eqI e14 ?_
    refine Z_isub hk dX8_compares_27 ?_
    cases h
    exact Z_iret hk hq dX8_compares_28
theorem c_X8_compares {l : Launch} {E : zE} (hL : eL E) (hJ : eJ E) (F : Nat) (a0 : Nat) (a1 : Int32) (a2 : Int32) (a3 : Int32) (a4 : Int32) (ha0 : atCanonCoteModel E a0) (σ : zST) {r0 : Int32} {τ0 : zST} (h : m_X8_compares F a0 a1 a2 a3 a4 σ = some (r0, τ0)) : Ct l yX8_compares wsX8_compares r_X8_compares E [.ref (eA E a0), .int a1, .int a2, .int a3, .int a4] σ (some (.int r0)) τ0 := by
  refine Ct_of (by decide) rfl hL hJ (Nat.le_of_ble_eq_true rfl) (fun K hE hl hk hq => ?_)
  subst hE
  exact w_X8_compares hk hq F a0 a1 a2 a3 a4 ha0 σ h
end

-- CanonCoteModel.sorts (IZ)I
section
theorem dX8_sorts_0 : decode cX8_sorts 0 = .ok (.iconst 0, 1) := by decide +kernel
theorem dX8_sorts_1 : decode cX8_sorts 1 = .ok (.istore_n 3, 1) := by decide +kernel
theorem dX8_sorts_2 : decode cX8_sorts 2 = .ok (.iconst 0, 1) := by decide +kernel
theorem dX8_sorts_3 : decode cX8_sorts 3 = .ok (.istore 4, 2) := by decide +kernel
theorem dX8_sorts_5 : decode cX8_sorts 5 = .ok (.iload 4, 2) := by decide +kernel
theorem dX8_sorts_7 : decode cX8_sorts 7 = .ok (.aload_n 0, 1) := by decide +kernel
theorem dX8_sorts_8 : decode cX8_sorts 8 = .ok (.getfield 7, 3) := by decide +kernel
theorem dX8_sorts_11 : decode cX8_sorts 11 = .ok (.iload_n 1, 1) := by decide +kernel
theorem dX8_sorts_12 : decode cX8_sorts 12 = .ok (.iaload, 1) := by decide +kernel
theorem dX8_sorts_13 : decode cX8_sorts 13 = .ok (.if_icmp .ge 130, 3) := by decide +kernel
theorem dX8_sorts_16 : decode cX8_sorts 16 = .ok (.iconst 0, 1) := by decide +kernel
theorem dX8_sorts_17 : decode cX8_sorts 17 = .ok (.istore 5, 2) := by decide +kernel
theorem dX8_sorts_19 : decode cX8_sorts 19 = .ok (.iconst 0, 1) := by decide +kernel
theorem dX8_sorts_20 : decode cX8_sorts 20 = .ok (.istore 6, 2) := by decide +kernel
theorem dX8_sorts_22 : decode cX8_sorts 22 = .ok (.iload 6, 2) := by decide +kernel
theorem dX8_sorts_24 : decode cX8_sorts 24 = .ok (.aload_n 0, 1) := by decide +kernel
theorem dX8_sorts_25 : decode cX8_sorts 25 = .ok (.getfield 7, 3) := by decide +kernel
theorem dX8_sorts_28 : decode cX8_sorts 28 = .ok (.iload_n 1, 1) := by decide +kernel
theorem dX8_sorts_29 : decode cX8_sorts 29 = .ok (.iaload, 1) := by decide +kernel
theorem dX8_sorts_30 : decode cX8_sorts 30 = .ok (.if_icmp .ge 85, 3) := by decide +kernel
theorem dX8_sorts_33 : decode cX8_sorts 33 = .ok (.aload_n 0, 1) := by decide +kernel
theorem dX8_sorts_34 : decode cX8_sorts 34 = .ok (.iload_n 1, 1) := by decide +kernel
theorem dX8_sorts_35 : decode cX8_sorts 35 = .ok (.iload 6, 2) := by decide +kernel
theorem dX8_sorts_37 : decode cX8_sorts 37 = .ok (.iload 4, 2) := by decide +kernel
theorem dX8_sorts_39 : decode cX8_sorts 39 = .ok (.iload_n 2, 1) := by decide +kernel
theorem dX8_sorts_40 : decode cX8_sorts 40 = .ok (.invokevirtual 94, 3) := by decide +kernel
theorem dX8_sorts_43 : decode cX8_sorts 43 = .ok (.ifCond .ge 7, 3) := by decide +kernel
theorem dX8_sorts_46 : decode cX8_sorts 46 = .ok (.iconst 1, 1) := by decide +kernel
theorem dX8_sorts_47 : decode cX8_sorts 47 = .ok (.goto 4, 3) := by decide +kernel
theorem dX8_sorts_50 : decode cX8_sorts 50 = .ok (.iconst 0, 1) := by decide +kernel
theorem dX8_sorts_51 : decode cX8_sorts 51 = .ok (.istore 7, 2) := by decide +kernel
theorem dX8_sorts_53 : decode cX8_sorts 53 = .ok (.iconst 0, 1) := by decide +kernel
theorem dX8_sorts_54 : decode cX8_sorts 54 = .ok (.istore 8, 2) := by decide +kernel
theorem dX8_sorts_56 : decode cX8_sorts 56 = .ok (.iload 8, 2) := by decide +kernel
theorem dX8_sorts_58 : decode cX8_sorts 58 = .ok (.iload 6, 2) := by decide +kernel
theorem dX8_sorts_60 : decode cX8_sorts 60 = .ok (.if_icmp .ge 34, 3) := by decide +kernel
theorem dX8_sorts_63 : decode cX8_sorts 63 = .ok (.iload 7, 2) := by decide +kernel
theorem dX8_sorts_65 : decode cX8_sorts 65 = .ok (.ifCond .eq 29, 3) := by decide +kernel
theorem dX8_sorts_68 : decode cX8_sorts 68 = .ok (.aload_n 0, 1) := by decide +kernel
theorem dX8_sorts_69 : decode cX8_sorts 69 = .ok (.iload_n 1, 1) := by decide +kernel
theorem dX8_sorts_70 : decode cX8_sorts 70 = .ok (.iload 8, 2) := by decide +kernel
theorem dX8_sorts_72 : decode cX8_sorts 72 = .ok (.iload 6, 2) := by decide +kernel
theorem dX8_sorts_74 : decode cX8_sorts 74 = .ok (.iload_n 2, 1) := by decide +kernel
theorem dX8_sorts_75 : decode cX8_sorts 75 = .ok (.invokevirtual 94, 3) := by decide +kernel
theorem dX8_sorts_78 : decode cX8_sorts 78 = .ok (.ifCond .eq 7, 3) := by decide +kernel
theorem dX8_sorts_81 : decode cX8_sorts 81 = .ok (.iconst 1, 1) := by decide +kernel
theorem dX8_sorts_82 : decode cX8_sorts 82 = .ok (.goto 4, 3) := by decide +kernel
theorem dX8_sorts_85 : decode cX8_sorts 85 = .ok (.iconst 0, 1) := by decide +kernel
theorem dX8_sorts_86 : decode cX8_sorts 86 = .ok (.istore 7, 2) := by decide +kernel
theorem dX8_sorts_88 : decode cX8_sorts 88 = .ok (.iinc 8 1, 3) := by decide +kernel
theorem dX8_sorts_91 : decode cX8_sorts 91 = .ok (.goto (-35), 3) := by decide +kernel
theorem dX8_sorts_94 : decode cX8_sorts 94 = .ok (.iload 5, 2) := by decide +kernel
theorem dX8_sorts_96 : decode cX8_sorts 96 = .ok (.iload 7, 2) := by decide +kernel
theorem dX8_sorts_98 : decode cX8_sorts 98 = .ok (.ifCond .eq 7, 3) := by decide +kernel
theorem dX8_sorts_101 : decode cX8_sorts 101 = .ok (.iconst 1, 1) := by decide +kernel
theorem dX8_sorts_102 : decode cX8_sorts 102 = .ok (.goto 4, 3) := by decide +kernel
theorem dX8_sorts_105 : decode cX8_sorts 105 = .ok (.iconst 0, 1) := by decide +kernel
theorem dX8_sorts_106 : decode cX8_sorts 106 = .ok (.iadd, 1) := by decide +kernel
theorem dX8_sorts_107 : decode cX8_sorts 107 = .ok (.istore 5, 2) := by decide +kernel
theorem dX8_sorts_109 : decode cX8_sorts 109 = .ok (.iinc 6 1, 3) := by decide +kernel
theorem dX8_sorts_112 : decode cX8_sorts 112 = .ok (.goto (-90), 3) := by decide +kernel
theorem dX8_sorts_115 : decode cX8_sorts 115 = .ok (.aload_n 0, 1) := by decide +kernel
theorem dX8_sorts_116 : decode cX8_sorts 116 = .ok (.getfield 31, 3) := by decide +kernel
theorem dX8_sorts_119 : decode cX8_sorts 119 = .ok (.iload 4, 2) := by decide +kernel
theorem dX8_sorts_121 : decode cX8_sorts 121 = .ok (.iload 5, 2) := by decide +kernel
theorem dX8_sorts_123 : decode cX8_sorts 123 = .ok (.iastore, 1) := by decide +kernel
theorem dX8_sorts_124 : decode cX8_sorts 124 = .ok (.iload 5, 2) := by decide +kernel
theorem dX8_sorts_126 : decode cX8_sorts 126 = .ok (.iload_n 3, 1) := by decide +kernel
theorem dX8_sorts_127 : decode cX8_sorts 127 = .ok (.if_icmp .le 8, 3) := by decide +kernel
theorem dX8_sorts_130 : decode cX8_sorts 130 = .ok (.iload 5, 2) := by decide +kernel
theorem dX8_sorts_132 : decode cX8_sorts 132 = .ok (.goto 4, 3) := by decide +kernel
theorem dX8_sorts_135 : decode cX8_sorts 135 = .ok (.iload_n 3, 1) := by decide +kernel
theorem dX8_sorts_136 : decode cX8_sorts 136 = .ok (.istore_n 3, 1) := by decide +kernel
theorem dX8_sorts_137 : decode cX8_sorts 137 = .ok (.iinc 4 1, 3) := by decide +kernel
theorem dX8_sorts_140 : decode cX8_sorts 140 = .ok (.goto (-135), 3) := by decide +kernel
theorem dX8_sorts_143 : decode cX8_sorts 143 = .ok (.iconst 0, 1) := by decide +kernel
theorem dX8_sorts_144 : decode cX8_sorts 144 = .ok (.istore 4, 2) := by decide +kernel
theorem dX8_sorts_146 : decode cX8_sorts 146 = .ok (.iload 4, 2) := by decide +kernel
theorem dX8_sorts_148 : decode cX8_sorts 148 = .ok (.aload_n 0, 1) := by decide +kernel
theorem dX8_sorts_149 : decode cX8_sorts 149 = .ok (.getfield 7, 3) := by decide +kernel
theorem dX8_sorts_152 : decode cX8_sorts 152 = .ok (.iload_n 1, 1) := by decide +kernel
theorem dX8_sorts_153 : decode cX8_sorts 153 = .ok (.iaload, 1) := by decide +kernel
theorem dX8_sorts_154 : decode cX8_sorts 154 = .ok (.if_icmp .ge 23, 3) := by decide +kernel
theorem dX8_sorts_157 : decode cX8_sorts 157 = .ok (.aload_n 0, 1) := by decide +kernel
theorem dX8_sorts_158 : decode cX8_sorts 158 = .ok (.getfield 28, 3) := by decide +kernel
theorem dX8_sorts_161 : decode cX8_sorts 161 = .ok (.iload 4, 2) := by decide +kernel
theorem dX8_sorts_163 : decode cX8_sorts 163 = .ok (.aload_n 0, 1) := by decide +kernel
theorem dX8_sorts_164 : decode cX8_sorts 164 = .ok (.getfield 31, 3) := by decide +kernel
theorem dX8_sorts_167 : decode cX8_sorts 167 = .ok (.iload 4, 2) := by decide +kernel
theorem dX8_sorts_169 : decode cX8_sorts 169 = .ok (.iaload, 1) := by decide +kernel
theorem dX8_sorts_170 : decode cX8_sorts 170 = .ok (.iastore, 1) := by decide +kernel
theorem dX8_sorts_171 : decode cX8_sorts 171 = .ok (.iinc 4 1, 3) := by decide +kernel
theorem dX8_sorts_174 : decode cX8_sorts 174 = .ok (.goto (-28), 3) := by decide +kernel
theorem dX8_sorts_177 : decode cX8_sorts 177 = .ok (.iload_n 3, 1) := by decide +kernel
theorem dX8_sorts_178 : decode cX8_sorts 178 = .ok (.iconst 1, 1) := by decide +kernel
theorem dX8_sorts_179 : decode cX8_sorts 179 = .ok (.iadd, 1) := by decide +kernel
theorem dX8_sorts_180 : decode cX8_sorts 180 = .ok (.ireturn, 1) := by decide +kernel
set_option maxRecDepth 20000 in
theorem ggX8_sorts_X8_compares : GoodIn wsX8_sorts wsX8_compares := goodIn_r _ [8, 9, 3, 1, 10, 11, 12, 7, 13, 14, 15, 16, 17, 18, 19, 20, 21, 22, 23, 24, 25, 26, 27, 28, 29, 30, 31, 32, 33, 34] (by decide +kernel) (by decide +kernel)
set_option maxRecDepth 20000 in
theorem gX8_sorts_X8_compares : GoodIn wsX8_sorts (wsV RX8 94 RX8 yX8_compares wsX8_compares) := goodIn_app (goodIn_of _ (by decide +kernel)) ggX8_sorts_X8_compares
theorem in_X8_sorts_CanonCoteModel : ∀ w ∈ u_ws RX8 TX8 17, w ∈ wsX8_sorts := by decide +kernel
theorem wd_X8_sorts_1 : Cond.fieldLink RX8 7 (TX8 0).1 (TX8 0).2.1 (TX8 0).2.2.1 ∈ wsX8_sorts := by decide +kernel
theorem wd_X8_sorts_2 : Cond.fieldLink RX8 28 (TX8 6).1 (TX8 6).2.1 (TX8 6).2.2.1 ∈ wsX8_sorts := by decide +kernel
theorem wd_X8_sorts_3 : Cond.fieldLink RX8 31 (TX8 7).1 (TX8 7).2.1 (TX8 7).2.2.1 ∈ wsX8_sorts := by decide +kernel
def r_X8_sorts : Room := { frames := 4, cells := 0, slots := 0, locals := 85 }
set_option maxRecDepth 100000 in
set_option maxHeartbeats 4000000 in
theorem w_X8_sorts_86 {K : zK} (hk : zIs K RX8 cX8_sorts 9 wsX8_sorts (some .int) r_X8_sorts) {r0 : Int32} {τ0 : zST} (hq : zQ K (some (.int r0)) τ0) (F : Nat) (k5 : Nat → Int32 → Int32 → Int32 → Int32 → zST → Option (Int32 × zST)) (hk5 : ∀ (a0 : Nat) (a1 : Int32) (a2 : Int32) (a3 : Int32) (a4 : Int32) (ha0 : atCanonCoteModel (kZ K) a0) (σ : zST), k5 a0 a1 a2 a3 a4 σ = some (r0, τ0) → Z K 0 0 5 [(0, .ref (eA (kZ K) a0)), (1, .int a1), (2, .int a2), (3, .int a3), (4, .int a4)] [] σ) (k22 : Nat → Int32 → Int32 → Int32 → Int32 → Int32 → Int32 → zST → Option (Int32 × zST)) (hk22 : ∀ (a0 : Nat) (a1 : Int32) (a2 : Int32) (a3 : Int32) (a4 : Int32) (a5 : Int32) (a6 : Int32) (ha0 : atCanonCoteModel (kZ K) a0) (σ : zST), k22 a0 a1 a2 a3 a4 a5 a6 σ = some (r0, τ0) → Z K 0 0 22 [(0, .ref (eA (kZ K) a0)), (1, .int a1), (2, .int a2), (3, .int a3), (4, .int a4), (5, .int a5), (6, .int a6)] [] σ) (k56 : Nat → Int32 → Int32 → Int32 → Int32 → Int32 → Int32 → Int32 → Int32 → zST → Option (Int32 × zST)) (hk56 : ∀ (a0 : Nat) (a1 : Int32) (a2 : Int32) (a3 : Int32) (a4 : Int32) (a5 : Int32) (a6 : Int32) (a7 : Int32) (a8 : Int32) (ha0 : atCanonCoteModel (kZ K) a0) (σ : zST), k56 a0 a1 a2 a3 a4 a5 a6 a7 a8 σ = some (r0, τ0) → Z K 0 0 56 [(0, .ref (eA (kZ K) a0)), (1, .int a1), (2, .int a2), (3, .int a3), (4, .int a4), (5, .int a5), (6, .int a6), (7, .int a7), (8, .int a8)] [] σ) (a0 : Nat) (a1 : Int32) (a2 : Int32) (a3 : Int32) (a4 : Int32) (a5 : Int32) (a6 : Int32) (a8 : Int32) (t0 : Int32) (ha0 : atCanonCoteModel (kZ K) a0) (σ : zST) (h : m_X8_sorts_86 F k5 k22 k56 a0 a1 a2 a3 a4 a5 a6 a8 t0 σ = some (r0, τ0)) : Z K 0 0 86 [(0, .ref (eA (kZ K) a0)), (1, .int a1), (2, .int a2), (3, .int a3), (4, .int a4), (5, .int a5), (6, .int a6), (8, .int a8)] [.int t0] σ := by
  unfold m_X8_sorts_86 at h
  refine Z_istore hk (lv' := [(7, .int t0), (0, .ref (eA (kZ K) a0)), (1, .int a1), (2, .int a2), (3, .int a3), (4, .int a4), (5, .int a5), (6, .int a6), (8, .int a8)]) dX8_sorts_86 (by decide) rfl ?_
  obtain ⟨x38, e39, h⟩ := nm_get h
  refine Z_iinc hk 8 (v := x38) (lv' := [(8, .int x38), (7, .int t0), (0, .ref (eA (kZ K) a0)), (1, .int a1), (2, .int a2), (3, .int a3), (4, .int a4), (5, .int a5), (6, .int a6)]) dX8_sorts_88 rfl (by rw [zc_iinc_1]; exact e39) (by decide) rfl ?_
  refine Z_goto hk (tgt := 56) dX8_sorts_91 (by decide) ?_
  refine Z_sub [2, 3, 4, 5, 6, 7, 8, 1, 0] rfl ?_
  exact hk56 a0 a1 a2 a3 a4 a5 a6 t0 x38 ha0 σ h
set_option maxRecDepth 100000 in
set_option maxHeartbeats 4000000 in
theorem w_X8_sorts_106 {K : zK} (hk : zIs K RX8 cX8_sorts 9 wsX8_sorts (some .int) r_X8_sorts) {r0 : Int32} {τ0 : zST} (hq : zQ K (some (.int r0)) τ0) (F : Nat) (k5 : Nat → Int32 → Int32 → Int32 → Int32 → zST → Option (Int32 × zST)) (hk5 : ∀ (a0 : Nat) (a1 : Int32) (a2 : Int32) (a3 : Int32) (a4 : Int32) (ha0 : atCanonCoteModel (kZ K) a0) (σ : zST), k5 a0 a1 a2 a3 a4 σ = some (r0, τ0) → Z K 0 0 5 [(0, .ref (eA (kZ K) a0)), (1, .int a1), (2, .int a2), (3, .int a3), (4, .int a4)] [] σ) (k22 : Nat → Int32 → Int32 → Int32 → Int32 → Int32 → Int32 → zST → Option (Int32 × zST)) (hk22 : ∀ (a0 : Nat) (a1 : Int32) (a2 : Int32) (a3 : Int32) (a4 : Int32) (a5 : Int32) (a6 : Int32) (ha0 : atCanonCoteModel (kZ K) a0) (σ : zST), k22 a0 a1 a2 a3 a4 a5 a6 σ = some (r0, τ0) → Z K 0 0 22 [(0, .ref (eA (kZ K) a0)), (1, .int a1), (2, .int a2), (3, .int a3), (4, .int a4), (5, .int a5), (6, .int a6)] [] σ) (a0 : Nat) (a1 : Int32) (a2 : Int32) (a3 : Int32) (a4 : Int32) (a6 : Int32) (t0 : Int32) (t1 : Int32) (ha0 : atCanonCoteModel (kZ K) a0) (σ : zST) (h : m_X8_sorts_106 F k5 k22 a0 a1 a2 a3 a4 a6 t0 t1 σ = some (r0, τ0)) : Z K 0 0 106 [(0, .ref (eA (kZ K) a0)), (1, .int a1), (2, .int a2), (3, .int a3), (4, .int a4), (6, .int a6)] [.int t0, .int t1] σ := by
  unfold m_X8_sorts_106 at h
  refine Z_iadd hk dX8_sorts_106 ?_
  obtain ⟨x40, e41, h⟩ := nm_get h
  refine Z_eqI e41 ?_
  refine Z_istore hk (lv' := [(5, .int x40), (0, .ref (eA (kZ K) a0)), (1, .int a1), (2, .int a2), (3, .int a3), (4, .int a4), (6, .int a6)]) dX8_sorts_107 (by decide) rfl ?_
  obtain ⟨x42, e43, h⟩ := nm_get h
  refine Z_iinc hk 6 (v := x42) (lv' := [(6, .int x42), (5, .int x40), (0, .ref (eA (kZ K) a0)), (1, .int a1), (2, .int a2), (3, .int a3), (4, .int a4)]) dX8_sorts_109 rfl (by rw [zc_iinc_1]; exact e43) (by decide) rfl ?_
  refine Z_goto hk (tgt := 22) dX8_sorts_112 (by decide) ?_
  refine Z_sub [2, 3, 4, 5, 6, 1, 0] rfl ?_
  exact hk22 a0 a1 a2 a3 a4 x40 x42 ha0 σ h
set_option maxRecDepth 100000 in
set_option maxHeartbeats 4000000 in
theorem w_X8_sorts_94 {K : zK} (hk : zIs K RX8 cX8_sorts 9 wsX8_sorts (some .int) r_X8_sorts) {r0 : Int32} {τ0 : zST} (hq : zQ K (some (.int r0)) τ0) (F : Nat) (k5 : Nat → Int32 → Int32 → Int32 → Int32 → zST → Option (Int32 × zST)) (hk5 : ∀ (a0 : Nat) (a1 : Int32) (a2 : Int32) (a3 : Int32) (a4 : Int32) (ha0 : atCanonCoteModel (kZ K) a0) (σ : zST), k5 a0 a1 a2 a3 a4 σ = some (r0, τ0) → Z K 0 0 5 [(0, .ref (eA (kZ K) a0)), (1, .int a1), (2, .int a2), (3, .int a3), (4, .int a4)] [] σ) (k22 : Nat → Int32 → Int32 → Int32 → Int32 → Int32 → Int32 → zST → Option (Int32 × zST)) (hk22 : ∀ (a0 : Nat) (a1 : Int32) (a2 : Int32) (a3 : Int32) (a4 : Int32) (a5 : Int32) (a6 : Int32) (ha0 : atCanonCoteModel (kZ K) a0) (σ : zST), k22 a0 a1 a2 a3 a4 a5 a6 σ = some (r0, τ0) → Z K 0 0 22 [(0, .ref (eA (kZ K) a0)), (1, .int a1), (2, .int a2), (3, .int a3), (4, .int a4), (5, .int a5), (6, .int a6)] [] σ) (a0 : Nat) (a1 : Int32) (a2 : Int32) (a3 : Int32) (a4 : Int32) (a5 : Int32) (a6 : Int32) (a7 : Int32) (ha0 : atCanonCoteModel (kZ K) a0) (σ : zST) (h : m_X8_sorts_94 F k5 k22 a0 a1 a2 a3 a4 a5 a6 a7 σ = some (r0, τ0)) : Z K 0 0 94 [(0, .ref (eA (kZ K) a0)), (1, .int a1), (2, .int a2), (3, .int a3), (4, .int a4), (5, .int a5), (6, .int a6), (7, .int a7)] [] σ := by
  unfold m_X8_sorts_94 at h
  refine Z_iload hk 5 dX8_sorts_94 rfl ?_
  refine Z_iload hk 7 dX8_sorts_96 rfl ?_
  refine Z_if_eq hk (tgt := 105) dX8_sorts_98 (by decide) (fun c37 => ?_) (fun c37 => ?_)
  · have h := if_yes h c37
    refine Z_iconst hk dX8_sorts_105 zc_iconst_0 ?_
    refine Z_sub [0, 1, 2, 3, 4, 6] rfl ?_
    exact w_X8_sorts_106 hk hq F k5 hk5 k22 hk22 a0 a1 a2 a3 a4 a6 0 a5 ha0 σ h
  · have h := if_no h c37
    refine Z_iconst hk dX8_sorts_101 zc_iconst_1 ?_
    refine Z_goto hk (tgt := 106) dX8_sorts_102 (by decide) ?_
    refine Z_sub [0, 1, 2, 3, 4, 6] rfl ?_
    exact w_X8_sorts_106 hk hq F k5 hk5 k22 hk22 a0 a1 a2 a3 a4 a6 1 a5 ha0 σ h
set_option maxRecDepth 100000 in
set_option maxHeartbeats 4000000 in
theorem w_X8_sorts_56 {K : zK} (hk : zIs K RX8 cX8_sorts 9 wsX8_sorts (some .int) r_X8_sorts) {r0 : Int32} {τ0 : zST} (hq : zQ K (some (.int r0)) τ0) (F : Nat) (k5 : Nat → Int32 → Int32 → Int32 → Int32 → zST → Option (Int32 × zST)) (hk5 : ∀ (a0 : Nat) (a1 : Int32) (a2 : Int32) (a3 : Int32) (a4 : Int32) (ha0 : atCanonCoteModel (kZ K) a0) (σ : zST), k5 a0 a1 a2 a3 a4 σ = some (r0, τ0) → Z K 0 0 5 [(0, .ref (eA (kZ K) a0)), (1, .int a1), (2, .int a2), (3, .int a3), (4, .int a4)] [] σ) (k22 : Nat → Int32 → Int32 → Int32 → Int32 → Int32 → Int32 → zST → Option (Int32 × zST)) (hk22 : ∀ (a0 : Nat) (a1 : Int32) (a2 : Int32) (a3 : Int32) (a4 : Int32) (a5 : Int32) (a6 : Int32) (ha0 : atCanonCoteModel (kZ K) a0) (σ : zST), k22 a0 a1 a2 a3 a4 a5 a6 σ = some (r0, τ0) → Z K 0 0 22 [(0, .ref (eA (kZ K) a0)), (1, .int a1), (2, .int a2), (3, .int a3), (4, .int a4), (5, .int a5), (6, .int a6)] [] σ) : ∀ (n : Nat) (a0 : Nat) (a1 : Int32) (a2 : Int32) (a3 : Int32) (a4 : Int32) (a5 : Int32) (a6 : Int32) (a7 : Int32) (a8 : Int32) (ha0 : atCanonCoteModel (kZ K) a0) (σ : zST), m_X8_sorts_56 F k5 k22 n a0 a1 a2 a3 a4 a5 a6 a7 a8 σ = some (r0, τ0) → Z K 0 0 56 [(0, .ref (eA (kZ K) a0)), (1, .int a1), (2, .int a2), (3, .int a3), (4, .int a4), (5, .int a5), (6, .int a6), (7, .int a7), (8, .int a8)] [] σ := by
  intro n
  induction n with
  | zero => intro a0 a1 a2 a3 a4 a5 a6 a7 a8 ha0 σ h; cases h
  | succ n ih =>
    intro a0 a1 a2 a3 a4 a5 a6 a7 a8 ha0 σ h
    rw [m_X8_sorts_56] at h
    refine Z_iload hk 8 dX8_sorts_56 rfl ?_
    refine Z_iload hk 6 dX8_sorts_58 rfl ?_
    refine Z_icmp_ge hk (tgt := 94) dX8_sorts_60 (by decide) (fun c31 => ?_) (fun c31 => ?_)
    · have h := if_yes h c31
      refine Z_sub [0, 1, 2, 3, 4, 5, 6, 7] rfl ?_
      exact w_X8_sorts_94 hk hq F k5 hk5 k22 hk22 a0 a1 a2 a3 a4 a5 a6 a7 ha0 σ h
    · have h := if_no h c31
      refine Z_iload hk 7 dX8_sorts_63 rfl ?_
      refine Z_if_eq hk (tgt := 94) dX8_sorts_65 (by decide) (fun c32 => ?_) (fun c32 => ?_)
      · have h := if_yes h c32
        refine Z_sub [0, 1, 2, 3, 4, 5, 6, 7] rfl ?_
        exact w_X8_sorts_94 hk hq F k5 hk5 k22 hk22 a0 a1 a2 a3 a4 a5 a6 a7 ha0 σ h
      · have h := if_no h c32
        refine Z_aload_n hk 0 dX8_sorts_68 rfl rfl ?_
        refine Z_iload_n hk 1 dX8_sorts_69 rfl rfl ?_
        refine Z_iload hk 8 dX8_sorts_70 rfl ?_
        refine Z_iload hk 6 dX8_sorts_72 rfl ?_
        refine Z_iload_n hk 2 dX8_sorts_74 rfl rfl ?_
        obtain ⟨x33, s34, h35, h⟩ := bd_ok h
        refine Z_callV 4 hk [.int a1, .int a8, .int a6, .int a2] (c_X8_compares hk.loc hk.inj F a0 a1 a8 a6 a2 ha0 σ h35) gX8_sorts_X8_compares rfl ⟨rfl, rfl⟩ (by decide +kernel) ⟨Nat.le_of_ble_eq_true rfl, Nat.le_of_ble_eq_true rfl⟩ ha0.cell.1 (ha0.cell.2 _) rfl rfl rfl (Nat.le_of_ble_eq_true rfl) ⟨Nat.zero_le _, Nat.zero_le _⟩ dX8_sorts_75 ?_
        show Z K 0 0 78 [(0, .ref (eA (kZ K) a0)), (1, .int a1), (2, .int a2), (3, .int a3), (4, .int a4), (5, .int a5), (6, .int a6), (7, .int a7), (8, .int a8)] [.int x33] s34
        refine Z_if_eq hk (tgt := 85) dX8_sorts_78 (by decide) (fun c36 => ?_) (fun c36 => ?_)
        · have h := if_yes h c36
          refine Z_iconst hk dX8_sorts_85 zc_iconst_0 ?_
          refine Z_sub [0, 1, 2, 3, 4, 5, 6, 8] rfl ?_
          exact w_X8_sorts_86 hk hq F k5 hk5 k22 hk22 (m_X8_sorts_56 F k5 k22 n) ih a0 a1 a2 a3 a4 a5 a6 a8 0 ha0 s34 h
        · have h := if_no h c36
          refine Z_iconst hk dX8_sorts_81 zc_iconst_1 ?_
          refine Z_goto hk (tgt := 86) dX8_sorts_82 (by decide) ?_
          refine Z_sub [0, 1, 2, 3, 4, 5, 6, 8] rfl ?_
          exact w_X8_sorts_86 hk hq F k5 hk5 k22 hk22 (m_X8_sorts_56 F k5 k22 n) ih a0 a1 a2 a3 a4 a5 a6 a8 1 ha0 s34 h
set_option maxRecDepth 100000 in
set_option maxHeartbeats 4000000 in
theorem w_X8_sorts_51 {K : zK} (hk : zIs K RX8 cX8_sorts 9 wsX8_sorts (some .int) r_X8_sorts) {r0 : Int32} {τ0 : zST} (hq : zQ K (some (.int r0)) τ0) (F : Nat) (k5 : Nat → Int32 → Int32 → Int32 → Int32 → zST → Option (Int32 × zST)) (hk5 : ∀ (a0 : Nat) (a1 : Int32) (a2 : Int32) (a3 : Int32) (a4 : Int32) (ha0 : atCanonCoteModel (kZ K) a0) (σ : zST), k5 a0 a1 a2 a3 a4 σ = some (r0, τ0) → Z K 0 0 5 [(0, .ref (eA (kZ K) a0)), (1, .int a1), (2, .int a2), (3, .int a3), (4, .int a4)] [] σ) (k22 : Nat → Int32 → Int32 → Int32 → Int32 → Int32 → Int32 → zST → Option (Int32 × zST)) (hk22 : ∀ (a0 : Nat) (a1 : Int32) (a2 : Int32) (a3 : Int32) (a4 : Int32) (a5 : Int32) (a6 : Int32) (ha0 : atCanonCoteModel (kZ K) a0) (σ : zST), k22 a0 a1 a2 a3 a4 a5 a6 σ = some (r0, τ0) → Z K 0 0 22 [(0, .ref (eA (kZ K) a0)), (1, .int a1), (2, .int a2), (3, .int a3), (4, .int a4), (5, .int a5), (6, .int a6)] [] σ) (a0 : Nat) (a1 : Int32) (a2 : Int32) (a3 : Int32) (a4 : Int32) (a5 : Int32) (a6 : Int32) (t0 : Int32) (ha0 : atCanonCoteModel (kZ K) a0) (σ : zST) (h : m_X8_sorts_51 F k5 k22 a0 a1 a2 a3 a4 a5 a6 t0 σ = some (r0, τ0)) : Z K 0 0 51 [(0, .ref (eA (kZ K) a0)), (1, .int a1), (2, .int a2), (3, .int a3), (4, .int a4), (5, .int a5), (6, .int a6)] [.int t0] σ := by
  unfold m_X8_sorts_51 at h
  refine Z_istore hk (lv' := [(7, .int t0), (0, .ref (eA (kZ K) a0)), (1, .int a1), (2, .int a2), (3, .int a3), (4, .int a4), (5, .int a5), (6, .int a6)]) dX8_sorts_51 (by decide) rfl ?_
  refine Z_iconst hk dX8_sorts_53 zc_iconst_0 ?_
  refine Z_istore hk (lv' := [(8, .int 0), (7, .int t0), (0, .ref (eA (kZ K) a0)), (1, .int a1), (2, .int a2), (3, .int a3), (4, .int a4), (5, .int a5), (6, .int a6)]) dX8_sorts_54 (by decide) rfl ?_
  refine Z_sub [2, 3, 4, 5, 6, 7, 8, 1, 0] rfl ?_
  exact w_X8_sorts_56 hk hq F k5 hk5 k22 hk22 F a0 a1 a2 a3 a4 a5 a6 t0 0 ha0 σ h
set_option maxRecDepth 100000 in
set_option maxHeartbeats 4000000 in
theorem w_X8_sorts_136 {K : zK} (hk : zIs K RX8 cX8_sorts 9 wsX8_sorts (some .int) r_X8_sorts) {r0 : Int32} {τ0 : zST} (hq : zQ K (some (.int r0)) τ0) (F : Nat) (k5 : Nat → Int32 → Int32 → Int32 → Int32 → zST → Option (Int32 × zST)) (hk5 : ∀ (a0 : Nat) (a1 : Int32) (a2 : Int32) (a3 : Int32) (a4 : Int32) (ha0 : atCanonCoteModel (kZ K) a0) (σ : zST), k5 a0 a1 a2 a3 a4 σ = some (r0, τ0) → Z K 0 0 5 [(0, .ref (eA (kZ K) a0)), (1, .int a1), (2, .int a2), (3, .int a3), (4, .int a4)] [] σ) (a0 : Nat) (a1 : Int32) (a2 : Int32) (a4 : Int32) (t0 : Int32) (ha0 : atCanonCoteModel (kZ K) a0) (σ : zST) (h : m_X8_sorts_136 F k5 a0 a1 a2 a4 t0 σ = some (r0, τ0)) : Z K 0 0 136 [(0, .ref (eA (kZ K) a0)), (1, .int a1), (2, .int a2), (4, .int a4)] [.int t0] σ := by
  unfold m_X8_sorts_136 at h
  refine Z_istore_n hk (lv' := [(3, .int t0), (0, .ref (eA (kZ K) a0)), (1, .int a1), (2, .int a2), (4, .int a4)]) dX8_sorts_136 rfl (by decide) rfl ?_
  obtain ⟨x29, e30, h⟩ := nm_get h
  refine Z_iinc hk 4 (v := x29) (lv' := [(4, .int x29), (3, .int t0), (0, .ref (eA (kZ K) a0)), (1, .int a1), (2, .int a2)]) dX8_sorts_137 rfl (by rw [zc_iinc_1]; exact e30) (by decide) rfl ?_
  refine Z_goto hk (tgt := 5) dX8_sorts_140 (by decide) ?_
  refine Z_sub [2, 3, 4, 1, 0] rfl ?_
  exact hk5 a0 a1 a2 t0 x29 ha0 σ h
set_option maxRecDepth 100000 in
set_option maxHeartbeats 4000000 in
theorem w_X8_sorts_22 {K : zK} (hk : zIs K RX8 cX8_sorts 9 wsX8_sorts (some .int) r_X8_sorts) {r0 : Int32} {τ0 : zST} (hq : zQ K (some (.int r0)) τ0) (F : Nat) (k5 : Nat → Int32 → Int32 → Int32 → Int32 → zST → Option (Int32 × zST)) (hk5 : ∀ (a0 : Nat) (a1 : Int32) (a2 : Int32) (a3 : Int32) (a4 : Int32) (ha0 : atCanonCoteModel (kZ K) a0) (σ : zST), k5 a0 a1 a2 a3 a4 σ = some (r0, τ0) → Z K 0 0 5 [(0, .ref (eA (kZ K) a0)), (1, .int a1), (2, .int a2), (3, .int a3), (4, .int a4)] [] σ) : ∀ (n : Nat) (a0 : Nat) (a1 : Int32) (a2 : Int32) (a3 : Int32) (a4 : Int32) (a5 : Int32) (a6 : Int32) (ha0 : atCanonCoteModel (kZ K) a0) (σ : zST), m_X8_sorts_22 F k5 n a0 a1 a2 a3 a4 a5 a6 σ = some (r0, τ0) → Z K 0 0 22 [(0, .ref (eA (kZ K) a0)), (1, .int a1), (2, .int a2), (3, .int a3), (4, .int a4), (5, .int a5), (6, .int a6)] [] σ := by
  intro n
  induction n with
  | zero => intro a0 a1 a2 a3 a4 a5 a6 ha0 σ h; cases h
  | succ n ih =>
    intro a0 a1 a2 a3 a4 a5 a6 ha0 σ h
    rw [m_X8_sorts_22] at h
    refine Z_iload hk 6 dX8_sorts_22 rfl ?_
    refine Z_aload_n hk 0 dX8_sorts_24 rfl rfl ?_
    refine Z_get hk in_X8_sorts_CanonCoteModel rfl ha0.cell.1 (ha0.cell.2 _) 0 (by decide) wd_X8_sorts_1 rfl dX8_sorts_25 ?_
    refine Z_iload_n hk 1 dX8_sorts_28 rfl rfl ?_
    obtain ⟨i19, x17, e18, h⟩ := ldI_get h
    refine Z_iald hk (ha0.sizes) i19 dX8_sorts_29 ?_
    refine Z_eqI e18 ?_
    refine Z_icmp_ge hk (tgt := 115) dX8_sorts_30 (by decide) (fun c20 => ?_) (fun c20 => ?_)
    · have h := if_yes h c20
      refine Z_aload_n hk 0 dX8_sorts_115 rfl rfl ?_
      refine Z_get hk in_X8_sorts_CanonCoteModel rfl ha0.cell.1 (ha0.cell.2 _) 7 (by decide) wd_X8_sorts_3 rfl dX8_sorts_116 ?_
      refine Z_iload hk 4 dX8_sorts_119 rfl ?_
      refine Z_iload hk 5 dX8_sorts_121 rfl ?_
      obtain ⟨i23, s21, e22, h⟩ := stI_get h
      refine Z_iast hk (ha0.anew) i23 dX8_sorts_123 ?_
      refine Z_eqS e22 ?_
      refine Z_iload hk 5 dX8_sorts_124 rfl ?_
      refine Z_iload_n hk 3 dX8_sorts_126 rfl rfl ?_
      refine Z_icmp_le hk (tgt := 135) dX8_sorts_127 (by decide) (fun c24 => ?_) (fun c24 => ?_)
      · have h := if_yes h c24
        refine Z_iload_n hk 3 dX8_sorts_135 rfl rfl ?_
        refine Z_sub [0, 1, 2, 4] rfl ?_
        exact w_X8_sorts_136 hk hq F k5 hk5 a0 a1 a2 a4 a3 ha0 s21 h
      · have h := if_no h c24
        refine Z_iload hk 5 dX8_sorts_130 rfl ?_
        refine Z_goto hk (tgt := 136) dX8_sorts_132 (by decide) ?_
        refine Z_sub [0, 1, 2, 4] rfl ?_
        exact w_X8_sorts_136 hk hq F k5 hk5 a0 a1 a2 a4 a5 ha0 s21 h
    · have h := if_no h c20
      refine Z_aload_n hk 0 dX8_sorts_33 rfl rfl ?_
      refine Z_iload_n hk 1 dX8_sorts_34 rfl rfl ?_
      refine Z_iload hk 6 dX8_sorts_35 rfl ?_
      refine Z_iload hk 4 dX8_sorts_37 rfl ?_
      refine Z_iload_n hk 2 dX8_sorts_39 rfl rfl ?_
      obtain ⟨x25, s26, h27, h⟩ := bd_ok h
      refine Z_callV 4 hk [.int a1, .int a6, .int a4, .int a2] (c_X8_compares hk.loc hk.inj F a0 a1 a6 a4 a2 ha0 σ h27) gX8_sorts_X8_compares rfl ⟨rfl, rfl⟩ (by decide +kernel) ⟨Nat.le_of_ble_eq_true rfl, Nat.le_of_ble_eq_true rfl⟩ ha0.cell.1 (ha0.cell.2 _) rfl rfl rfl (Nat.le_of_ble_eq_true rfl) ⟨Nat.zero_le _, Nat.zero_le _⟩ dX8_sorts_40 ?_
      show Z K 0 0 43 [(0, .ref (eA (kZ K) a0)), (1, .int a1), (2, .int a2), (3, .int a3), (4, .int a4), (5, .int a5), (6, .int a6)] [.int x25] s26
      refine Z_if_ge hk (tgt := 50) dX8_sorts_43 (by decide) (fun c28 => ?_) (fun c28 => ?_)
      · have h := if_yes h c28
        refine Z_iconst hk dX8_sorts_50 zc_iconst_0 ?_
        refine Z_sub [0, 1, 2, 3, 4, 5, 6] rfl ?_
        exact w_X8_sorts_51 hk hq F k5 hk5 (m_X8_sorts_22 F k5 n) ih a0 a1 a2 a3 a4 a5 a6 0 ha0 s26 h
      · have h := if_no h c28
        refine Z_iconst hk dX8_sorts_46 zc_iconst_1 ?_
        refine Z_goto hk (tgt := 51) dX8_sorts_47 (by decide) ?_
        refine Z_sub [0, 1, 2, 3, 4, 5, 6] rfl ?_
        exact w_X8_sorts_51 hk hq F k5 hk5 (m_X8_sorts_22 F k5 n) ih a0 a1 a2 a3 a4 a5 a6 1 ha0 s26 h
set_option maxRecDepth 100000 in
set_option maxHeartbeats 4000000 in
theorem w_X8_sorts_146 {K : zK} (hk : zIs K RX8 cX8_sorts 9 wsX8_sorts (some .int) r_X8_sorts) {r0 : Int32} {τ0 : zST} (hq : zQ K (some (.int r0)) τ0) (F : Nat) : ∀ (n : Nat) (a0 : Nat) (a1 : Int32) (a3 : Int32) (a4 : Int32) (ha0 : atCanonCoteModel (kZ K) a0) (σ : zST), m_X8_sorts_146 F n a0 a1 a3 a4 σ = some (r0, τ0) → Z K 0 0 146 [(0, .ref (eA (kZ K) a0)), (1, .int a1), (3, .int a3), (4, .int a4)] [] σ := by
  intro n
  induction n with
  | zero => intro a0 a1 a3 a4 ha0 σ h; cases h
  | succ n ih =>
    intro a0 a1 a3 a4 ha0 σ h
    rw [m_X8_sorts_146] at h
    refine Z_iload hk 3 dX8_sorts_146 rfl ?_
    refine Z_aload_n hk 0 dX8_sorts_148 rfl rfl ?_
    refine Z_get hk in_X8_sorts_CanonCoteModel rfl ha0.cell.1 (ha0.cell.2 _) 0 (by decide) wd_X8_sorts_1 rfl dX8_sorts_149 ?_
    refine Z_iload_n hk 1 dX8_sorts_152 rfl rfl ?_
    obtain ⟨i7, x5, e6, h⟩ := ldI_get h
    refine Z_iald hk (ha0.sizes) i7 dX8_sorts_153 ?_
    refine Z_eqI e6 ?_
    refine Z_icmp_ge hk (tgt := 177) dX8_sorts_154 (by decide) (fun c8 => ?_) (fun c8 => ?_)
    · have h := if_yes h c8
      refine Z_iload_n hk 2 dX8_sorts_177 rfl rfl ?_
      refine Z_iconst hk dX8_sorts_178 zc_iconst_1 ?_
      refine Z_iadd hk dX8_sorts_179 ?_
      cases h
      exact Z_iret hk hq dX8_sorts_180
    · have h := if_no h c8
      refine Z_aload_n hk 0 dX8_sorts_157 rfl rfl ?_
      refine Z_get hk in_X8_sorts_CanonCoteModel rfl ha0.cell.1 (ha0.cell.2 _) 6 (by decide) wd_X8_sorts_2 rfl dX8_sorts_158 ?_
      refine Z_iload hk 3 dX8_sorts_161 rfl ?_
      refine Z_aload_n hk 0 dX8_sorts_163 rfl rfl ?_
      refine Z_get hk in_X8_sorts_CanonCoteModel rfl ha0.cell.1 (ha0.cell.2 _) 7 (by decide) wd_X8_sorts_3 rfl dX8_sorts_164 ?_
      refine Z_iload hk 3 dX8_sorts_167 rfl ?_
      obtain ⟨i11, x9, e10, h⟩ := ldI_get h
      refine Z_iald hk (ha0.anew) i11 dX8_sorts_169 ?_
      refine Z_eqI e10 ?_
      obtain ⟨i14, s12, e13, h⟩ := stI_get h
      refine Z_iast hk (ha0.old) i14 dX8_sorts_170 ?_
      refine Z_eqS e13 ?_
      obtain ⟨x15, e16, h⟩ := nm_get h
      refine Z_iinc hk 3 (v := x15) (lv' := [(4, .int x15), (0, .ref (eA (kZ K) a0)), (1, .int a1), (3, .int a3)]) dX8_sorts_171 rfl (by rw [zc_iinc_1]; exact e16) (by decide) rfl ?_
      refine Z_goto hk (tgt := 146) dX8_sorts_174 (by decide) ?_
      refine Z_sub [1, 2, 3, 0] rfl ?_
      exact ih a0 a1 a3 x15 ha0 s12 h
set_option maxRecDepth 100000 in
set_option maxHeartbeats 4000000 in
theorem w_X8_sorts_5 {K : zK} (hk : zIs K RX8 cX8_sorts 9 wsX8_sorts (some .int) r_X8_sorts) {r0 : Int32} {τ0 : zST} (hq : zQ K (some (.int r0)) τ0) (F : Nat) : ∀ (n : Nat) (a0 : Nat) (a1 : Int32) (a2 : Int32) (a3 : Int32) (a4 : Int32) (ha0 : atCanonCoteModel (kZ K) a0) (σ : zST), m_X8_sorts_5 F n a0 a1 a2 a3 a4 σ = some (r0, τ0) → Z K 0 0 5 [(0, .ref (eA (kZ K) a0)), (1, .int a1), (2, .int a2), (3, .int a3), (4, .int a4)] [] σ := by
  intro n
  induction n with
  | zero => intro a0 a1 a2 a3 a4 ha0 σ h; cases h
  | succ n ih =>
    intro a0 a1 a2 a3 a4 ha0 σ h
    rw [m_X8_sorts_5] at h
    refine Z_iload hk 4 dX8_sorts_5 rfl ?_
    refine Z_aload_n hk 0 dX8_sorts_7 rfl rfl ?_
    refine Z_get hk in_X8_sorts_CanonCoteModel rfl ha0.cell.1 (ha0.cell.2 _) 0 (by decide) wd_X8_sorts_1 rfl dX8_sorts_8 ?_
    refine Z_iload_n hk 1 dX8_sorts_11 rfl rfl ?_
    obtain ⟨i3, x1, e2, h⟩ := ldI_get h
    refine Z_iald hk (ha0.sizes) i3 dX8_sorts_12 ?_
    refine Z_eqI e2 ?_
    refine Z_icmp_ge hk (tgt := 143) dX8_sorts_13 (by decide) (fun c4 => ?_) (fun c4 => ?_)
    · have h := if_yes h c4
      refine Z_iconst hk dX8_sorts_143 zc_iconst_0 ?_
      refine Z_istore hk (lv' := [(4, .int 0), (0, .ref (eA (kZ K) a0)), (1, .int a1), (2, .int a2), (3, .int a3)]) dX8_sorts_144 (by decide) rfl ?_
      refine Z_sub [1, 2, 4, 0] rfl ?_
      exact w_X8_sorts_146 hk hq F F a0 a1 a3 0 ha0 σ h
    · have h := if_no h c4
      refine Z_iconst hk dX8_sorts_16 zc_iconst_0 ?_
      refine Z_istore hk (lv' := [(5, .int 0), (0, .ref (eA (kZ K) a0)), (1, .int a1), (2, .int a2), (3, .int a3), (4, .int a4)]) dX8_sorts_17 (by decide) rfl ?_
      refine Z_iconst hk dX8_sorts_19 zc_iconst_0 ?_
      refine Z_istore hk (lv' := [(6, .int 0), (5, .int 0), (0, .ref (eA (kZ K) a0)), (1, .int a1), (2, .int a2), (3, .int a3), (4, .int a4)]) dX8_sorts_20 (by decide) rfl ?_
      refine Z_sub [2, 3, 4, 5, 6, 1, 0] rfl ?_
      exact w_X8_sorts_22 hk hq F (m_X8_sorts_5 F n) ih F a0 a1 a2 a3 a4 0 0 ha0 σ h
set_option maxRecDepth 100000 in
set_option maxHeartbeats 4000000 in
theorem w_X8_sorts {K : zK} (hk : zIs K RX8 cX8_sorts 9 wsX8_sorts (some .int) r_X8_sorts) {r0 : Int32} {τ0 : zST} (hq : zQ K (some (.int r0)) τ0) (F : Nat) (a0 : Nat) (a1 : Int32) (a2 : Int32) (ha0 : atCanonCoteModel (kZ K) a0) (σ : zST) (h : m_X8_sorts F a0 a1 a2 σ = some (r0, τ0)) : Z K 0 0 0 [(0, .ref (eA (kZ K) a0)), (1, .int a1), (2, .int a2)] [] σ := by
  unfold m_X8_sorts at h
  refine Z_iconst hk dX8_sorts_0 zc_iconst_0 ?_
  refine Z_istore_n hk (lv' := [(3, .int 0), (0, .ref (eA (kZ K) a0)), (1, .int a1), (2, .int a2)]) dX8_sorts_1 rfl (by decide) rfl ?_
  refine Z_iconst hk dX8_sorts_2 zc_iconst_0 ?_
  refine Z_istore hk (lv' := [(4, .int 0), (3, .int 0), (0, .ref (eA (kZ K) a0)), (1, .int a1), (2, .int a2)]) dX8_sorts_3 (by decide) rfl ?_
  refine Z_sub [2, 3, 4, 1, 0] rfl ?_
  exact w_X8_sorts_5 hk hq F F a0 a1 a2 0 0 ha0 σ h
theorem c_X8_sorts {l : Launch} {E : zE} (hL : eL E) (hJ : eJ E) (F : Nat) (a0 : Nat) (a1 : Int32) (a2 : Int32) (ha0 : atCanonCoteModel E a0) (σ : zST) {r0 : Int32} {τ0 : zST} (h : m_X8_sorts F a0 a1 a2 σ = some (r0, τ0)) : Ct l yX8_sorts wsX8_sorts r_X8_sorts E [.ref (eA E a0), .int a1, .int a2] σ (some (.int r0)) τ0 := by
  refine Ct_of (by decide) rfl hL hJ (Nat.le_of_ble_eq_true rfl) (fun K hE hl hk hq => ?_)
  subst hE
  exact w_X8_sorts hk hq F a0 a1 a2 ha0 σ h
end

-- CanonCoteModel.refines (I)I
section
theorem dX8_refines_0 : decode cX8_refines 0 = .ok (.iconst 0, 1) := by decide +kernel
theorem dX8_refines_1 : decode cX8_refines 1 = .ok (.istore_n 2, 1) := by decide +kernel
theorem dX8_refines_2 : decode cX8_refines 2 = .ok (.aload_n 0, 1) := by decide +kernel
theorem dX8_refines_3 : decode cX8_refines 3 = .ok (.iload_n 1, 1) := by decide +kernel
theorem dX8_refines_4 : decode cX8_refines 4 = .ok (.iconst 1, 1) := by decide +kernel
theorem dX8_refines_5 : decode cX8_refines 5 = .ok (.invokevirtual 98, 3) := by decide +kernel
theorem dX8_refines_8 : decode cX8_refines 8 = .ok (.istore_n 3, 1) := by decide +kernel
theorem dX8_refines_9 : decode cX8_refines 9 = .ok (.aload_n 0, 1) := by decide +kernel
theorem dX8_refines_10 : decode cX8_refines 10 = .ok (.iconst 0, 1) := by decide +kernel
theorem dX8_refines_11 : decode cX8_refines 11 = .ok (.putfield 102, 3) := by decide +kernel
theorem dX8_refines_14 : decode cX8_refines 14 = .ok (.iload_n 3, 1) := by decide +kernel
theorem dX8_refines_15 : decode cX8_refines 15 = .ok (.iload_n 2, 1) := by decide +kernel
theorem dX8_refines_16 : decode cX8_refines 16 = .ok (.if_icmp .le 25, 3) := by decide +kernel
theorem dX8_refines_19 : decode cX8_refines 19 = .ok (.iload_n 3, 1) := by decide +kernel
theorem dX8_refines_20 : decode cX8_refines 20 = .ok (.istore_n 2, 1) := by decide +kernel
theorem dX8_refines_21 : decode cX8_refines 21 = .ok (.aload_n 0, 1) := by decide +kernel
theorem dX8_refines_22 : decode cX8_refines 22 = .ok (.iload_n 1, 1) := by decide +kernel
theorem dX8_refines_23 : decode cX8_refines 23 = .ok (.iconst 0, 1) := by decide +kernel
theorem dX8_refines_24 : decode cX8_refines 24 = .ok (.invokevirtual 98, 3) := by decide +kernel
theorem dX8_refines_27 : decode cX8_refines 27 = .ok (.istore_n 3, 1) := by decide +kernel
theorem dX8_refines_28 : decode cX8_refines 28 = .ok (.aload_n 0, 1) := by decide +kernel
theorem dX8_refines_29 : decode cX8_refines 29 = .ok (.dup, 1) := by decide +kernel
theorem dX8_refines_30 : decode cX8_refines 30 = .ok (.getfield 102, 3) := by decide +kernel
theorem dX8_refines_33 : decode cX8_refines 33 = .ok (.iconst 1, 1) := by decide +kernel
theorem dX8_refines_34 : decode cX8_refines 34 = .ok (.iadd, 1) := by decide +kernel
theorem dX8_refines_35 : decode cX8_refines 35 = .ok (.putfield 102, 3) := by decide +kernel
theorem dX8_refines_38 : decode cX8_refines 38 = .ok (.goto (-24), 3) := by decide +kernel
theorem dX8_refines_41 : decode cX8_refines 41 = .ok (.iload_n 3, 1) := by decide +kernel
theorem dX8_refines_42 : decode cX8_refines 42 = .ok (.ireturn, 1) := by decide +kernel
set_option maxRecDepth 20000 in
theorem ggX8_refines_X8_sorts : GoodIn wsX8_refines wsX8_sorts := goodIn_r _ [6, 7, 8, 9, 10, 11, 12, 5, 13, 14, 15, 16, 17, 18, 19, 20, 21, 22, 23, 24, 25, 26, 27, 28, 29, 30, 31, 32, 33, 34, 35, 36, 37, 38, 39] (by decide +kernel) (by decide +kernel)
set_option maxRecDepth 20000 in
theorem gX8_refines_X8_sorts : GoodIn wsX8_refines (wsV RX8 98 RX8 yX8_sorts wsX8_sorts) := goodIn_app (goodIn_of _ (by decide +kernel)) ggX8_refines_X8_sorts
theorem in_X8_refines_CanonCoteModel : ∀ w ∈ u_ws RX8 TX8 17, w ∈ wsX8_refines := by decide +kernel
theorem wd_X8_refines_1 : Cond.fieldLink RX8 102 (TX8 9).1 (TX8 9).2.1 (TX8 9).2.2.1 ∈ wsX8_refines := by decide +kernel
def r_X8_refines : Room := { frames := 5, cells := 0, slots := 0, locals := 113 }
set_option maxRecDepth 100000 in
set_option maxHeartbeats 4000000 in
theorem w_X8_refines_14 {K : zK} (hk : zIs K RX8 cX8_refines 4 wsX8_refines (some .int) r_X8_refines) {r0 : Int32} {τ0 : zST} (hq : zQ K (some (.int r0)) τ0) (F : Nat) : ∀ (n : Nat) (a0 : Nat) (a1 : Int32) (a2 : Int32) (a3 : Int32) (ha0 : atCanonCoteModel (kZ K) a0) (σ : zST), m_X8_refines_14 F n a0 a1 a2 a3 σ = some (r0, τ0) → Z K 0 0 14 [(0, .ref (eA (kZ K) a0)), (1, .int a1), (2, .int a2), (3, .int a3)] [] σ := by
  intro n
  induction n with
  | zero => intro a0 a1 a2 a3 ha0 σ h; cases h
  | succ n ih =>
    intro a0 a1 a2 a3 ha0 σ h
    rw [m_X8_refines_14] at h
    refine Z_iload_n hk 3 dX8_refines_14 rfl rfl ?_
    refine Z_iload_n hk 2 dX8_refines_15 rfl rfl ?_
    refine Z_icmp_le hk (tgt := 41) dX8_refines_16 (by decide) (fun c6 => ?_) (fun c6 => ?_)
    · have h := if_yes h c6
      refine Z_iload_n hk 3 dX8_refines_41 rfl rfl ?_
      cases h
      exact Z_iret hk hq dX8_refines_42
    · have h := if_no h c6
      refine Z_iload_n hk 3 dX8_refines_19 rfl rfl ?_
      refine Z_istore_n hk (lv' := [(2, .int a3), (0, .ref (eA (kZ K) a0)), (1, .int a1), (3, .int a3)]) dX8_refines_20 rfl (by decide) rfl ?_
      refine Z_aload_n hk 1 dX8_refines_21 rfl rfl ?_
      refine Z_iload_n hk 2 dX8_refines_22 rfl rfl ?_
      refine Z_iconst hk dX8_refines_23 zc_iconst_0 ?_
      obtain ⟨x7, s8, h9, h⟩ := bd_ok h
      refine Z_callV 2 hk [.int a1, .int 0] (c_X8_sorts hk.loc hk.inj F a0 a1 0 ha0 σ h9) gX8_refines_X8_sorts rfl ⟨rfl, rfl⟩ (by decide +kernel) ⟨Nat.le_of_ble_eq_true rfl, Nat.le_of_ble_eq_true rfl⟩ ha0.cell.1 (ha0.cell.2 _) rfl rfl rfl (Nat.le_of_ble_eq_true rfl) ⟨Nat.zero_le _, Nat.zero_le _⟩ dX8_refines_24 ?_
      show Z K 0 0 27 [(2, .int a3), (0, .ref (eA (kZ K) a0)), (1, .int a1), (3, .int a3)] [.int x7] s8
      refine Z_istore_n hk (lv' := [(3, .int x7), (2, .int a3), (0, .ref (eA (kZ K) a0)), (1, .int a1)]) dX8_refines_27 rfl (by decide) rfl ?_
      refine Z_aload_n hk 2 dX8_refines_28 rfl rfl ?_
      refine Z_dup hk dX8_refines_29 rfl ?_
      refine Z_get hk in_X8_refines_CanonCoteModel rfl ha0.cell.1 (ha0.cell.2 _) 9 (by decide) wd_X8_refines_1 rfl dX8_refines_30 ?_
      refine Z_iconst hk dX8_refines_33 zc_iconst_1 ?_
      refine Z_iadd hk dX8_refines_34 ?_
      obtain ⟨s10, e11, h⟩ := nm_get h
      refine Z_put hk in_X8_refines_CanonCoteModel tyX8 tok_TX8 tnm_TX8 rfl ha0.cell.1 (ha0.cell.2 _) 9 (by decide) wd_X8_refines_1 rfl (by decide) (Nat.le_of_ble_eq_true rfl) (ha0.put_rounds _ _) dX8_refines_35 ?_
      refine Z_eqS e11 ?_
      refine Z_goto hk (tgt := 14) dX8_refines_38 (by decide) ?_
      refine Z_sub [2, 3, 1, 0] rfl ?_
      exact ih a0 a1 a3 x7 ha0 s10 h
set_option maxRecDepth 100000 in
set_option maxHeartbeats 4000000 in
theorem w_X8_refines {K : zK} (hk : zIs K RX8 cX8_refines 4 wsX8_refines (some .int) r_X8_refines) {r0 : Int32} {τ0 : zST} (hq : zQ K (some (.int r0)) τ0) (F : Nat) (a0 : Nat) (a1 : Int32) (ha0 : atCanonCoteModel (kZ K) a0) (σ : zST) (h : m_X8_refines F a0 a1 σ = some (r0, τ0)) : Z K 0 0 0 [(0, .ref (eA (kZ K) a0)), (1, .int a1)] [] σ := by
  unfold m_X8_refines at h
  refine Z_iconst hk dX8_refines_0 zc_iconst_0 ?_
  refine Z_istore_n hk (lv' := [(2, .int 0), (0, .ref (eA (kZ K) a0)), (1, .int a1)]) dX8_refines_1 rfl (by decide) rfl ?_
  refine Z_aload_n hk 1 dX8_refines_2 rfl rfl ?_
  refine Z_iload_n hk 2 dX8_refines_3 rfl rfl ?_
  refine Z_iconst hk dX8_refines_4 zc_iconst_1 ?_
  obtain ⟨x1, s2, h3, h⟩ := bd_ok h
  refine Z_callV 2 hk [.int a1, .int 1] (c_X8_sorts hk.loc hk.inj F a0 a1 1 ha0 σ h3) gX8_refines_X8_sorts rfl ⟨rfl, rfl⟩ (by decide +kernel) ⟨Nat.le_of_ble_eq_true rfl, Nat.le_of_ble_eq_true rfl⟩ ha0.cell.1 (ha0.cell.2 _) rfl rfl rfl (Nat.le_of_ble_eq_true rfl) ⟨Nat.zero_le _, Nat.zero_le _⟩ dX8_refines_5 ?_
  show Z K 0 0 8 [(2, .int 0), (0, .ref (eA (kZ K) a0)), (1, .int a1)] [.int x1] s2
  refine Z_istore_n hk (lv' := [(3, .int x1), (2, .int 0), (0, .ref (eA (kZ K) a0)), (1, .int a1)]) dX8_refines_8 rfl (by decide) rfl ?_
  refine Z_aload_n hk 2 dX8_refines_9 rfl rfl ?_
  refine Z_iconst hk dX8_refines_10 zc_iconst_0 ?_
  obtain ⟨s4, e5, h⟩ := nm_get h
  refine Z_put hk in_X8_refines_CanonCoteModel tyX8 tok_TX8 tnm_TX8 rfl ha0.cell.1 (ha0.cell.2 _) 9 (by decide) wd_X8_refines_1 rfl (by decide) (Nat.le_of_ble_eq_true rfl) (ha0.put_rounds _ _) dX8_refines_11 ?_
  refine Z_eqS e5 ?_
  refine Z_sub [2, 3, 1, 0] rfl ?_
  exact w_X8_refines_14 hk hq F F a0 a1 0 x1 ha0 s4 h
theorem c_X8_refines {l : Launch} {E : zE} (hL : eL E) (hJ : eJ E) (F : Nat) (a0 : Nat) (a1 : Int32) (ha0 : atCanonCoteModel E a0) (σ : zST) {r0 : Int32} {τ0 : zST} (h : m_X8_refines F a0 a1 σ = some (r0, τ0)) : Ct l yX8_refines wsX8_refines r_X8_refines E [.ref (eA E a0), .int a1] σ (some (.int r0)) τ0 := by
  refine Ct_of (by decide) rfl hL hJ (Nat.le_of_ble_eq_true rfl) (fun K hE hl hk hq => ?_)
  subst hE
  exact w_X8_refines hk hq F a0 a1 ha0 σ h
end

-- CanonCoteModel.classes (I)I
section
theorem dX8_classes_0 : decode cX8_classes 0 = .ok (.aload_n 0, 1) := by decide +kernel
theorem dX8_classes_1 : decode cX8_classes 1 = .ok (.iload_n 1, 1) := by decide +kernel
theorem dX8_classes_2 : decode cX8_classes 2 = .ok (.invokestatic 62, 3) := by decide +kernel
theorem dX8_classes_5 : decode cX8_classes 5 = .ok (.iconst 1, 1) := by decide +kernel
theorem dX8_classes_6 : decode cX8_classes 6 = .ok (.invokevirtual 73, 3) := by decide +kernel
theorem dX8_classes_9 : decode cX8_classes 9 = .ok (.ifCond .eq 11, 3) := by decide +kernel
theorem dX8_classes_12 : decode cX8_classes 12 = .ok (.aload_n 0, 1) := by decide +kernel
theorem dX8_classes_13 : decode cX8_classes 13 = .ok (.iload_n 1, 1) := by decide +kernel
theorem dX8_classes_14 : decode cX8_classes 14 = .ok (.invokevirtual 105, 3) := by decide +kernel
theorem dX8_classes_17 : decode cX8_classes 17 = .ok (.goto 4, 3) := by decide +kernel
theorem dX8_classes_20 : decode cX8_classes 20 = .ok (.iconst 0, 1) := by decide +kernel
theorem dX8_classes_21 : decode cX8_classes 21 = .ok (.ireturn, 1) := by decide +kernel
set_option maxRecDepth 20000 in
theorem ggX8_classes_X8_isGraph : GoodIn wsX8_classes wsX8_isGraph := goodIn_r _ [4, 5, 6, 3, 7] (by decide +kernel) (by decide +kernel)
set_option maxRecDepth 20000 in
theorem gX8_classes_X8_isGraph : GoodIn wsX8_classes (va_wsS RX8 62 yX8_isGraph wsX8_isGraph) := goodIn_app (goodIn_of _ (by decide +kernel)) ggX8_classes_X8_isGraph
set_option maxRecDepth 20000 in
theorem ggX8_classes_X8_goes : GoodIn wsX8_classes wsX8_goes := goodIn_r _ [11, 12, 38, 39, 40, 41, 42, 43, 44, 45, 46, 47, 48, 49, 50, 51, 52, 53, 54] (by decide +kernel) (by decide +kernel)
set_option maxRecDepth 20000 in
theorem gX8_classes_X8_goes : GoodIn wsX8_classes (wsV RX8 73 RX8 yX8_goes wsX8_goes) := goodIn_app (goodIn_of _ (by decide +kernel)) ggX8_classes_X8_goes
set_option maxRecDepth 20000 in
theorem ggX8_classes_X8_refines : GoodIn wsX8_classes wsX8_refines := goodIn_r _ [16, 17, 18, 19, 20, 3, 21, 22, 23, 24, 25, 26, 27, 28, 29, 30, 31, 32, 33, 34, 35, 36, 37, 38, 39, 40, 41, 42, 43, 44, 45, 46, 47, 48, 49, 50, 51, 52, 53, 54] (by decide +kernel) (by decide +kernel)
set_option maxRecDepth 20000 in
theorem gX8_classes_X8_refines : GoodIn wsX8_classes (wsV RX8 105 RX8 yX8_refines wsX8_refines) := goodIn_app (goodIn_of _ (by decide +kernel)) ggX8_classes_X8_refines
def r_X8_classes : Room := { frames := 6, cells := 0, slots := 0, locals := 136 }
set_option maxRecDepth 100000 in
set_option maxHeartbeats 4000000 in
theorem w_X8_classes {K : zK} (hk : zIs K RX8 cX8_classes 2 wsX8_classes (some .int) r_X8_classes) {r0 : Int32} {τ0 : zST} (hq : zQ K (some (.int r0)) τ0) (F : Nat) (a0 : Nat) (a1 : Int32) (ha0 : atCanonCoteModel (kZ K) a0) (σ : zST) (h : m_X8_classes F a0 a1 σ = some (r0, τ0)) : Z K 0 0 0 [(0, .ref (eA (kZ K) a0)), (1, .int a1)] [] σ := by
  unfold m_X8_classes at h
  refine Z_aload_n hk 0 dX8_classes_0 rfl rfl ?_
  refine Z_iload_n hk 1 dX8_classes_1 rfl rfl ?_
  obtain ⟨x1, s2, h3, h⟩ := bd_ok h
  refine Z_callT 1 hk [.int a1] (c_X8_isGraph hk.loc hk.inj F a1 σ h3) gX8_classes_X8_isGraph rfl ⟨rfl, rfl⟩ (by decide +kernel) ⟨Nat.le_of_ble_eq_true rfl, Nat.le_of_ble_eq_true rfl⟩ rfl rfl (Nat.le_of_ble_eq_true rfl) ⟨Nat.zero_le _, Nat.zero_le _⟩ dX8_classes_2 ?_
  show Z K 0 0 5 [(0, .ref (eA (kZ K) a0)), (1, .int a1)] [.int x1, .ref (eA (kZ K) a0)] s2
  refine Z_iconst hk dX8_classes_5 zc_iconst_1 ?_
  obtain ⟨x4, s5, h6, h⟩ := bd_ok h
  refine Z_callV 2 hk [.int x1, .int 1] (c_X8_goes hk.loc hk.inj F a0 x1 1 ha0 s2 h6) gX8_classes_X8_goes rfl ⟨rfl, rfl⟩ (by decide +kernel) ⟨Nat.le_of_ble_eq_true rfl, Nat.le_of_ble_eq_true rfl⟩ ha0.cell.1 (ha0.cell.2 _) rfl rfl rfl (Nat.le_of_ble_eq_true rfl) ⟨Nat.zero_le _, Nat.zero_le _⟩ dX8_classes_6 ?_
  show Z K 0 0 9 [(0, .ref (eA (kZ K) a0)), (1, .int a1)] [.int x4] s5
  refine Z_if_eq hk (tgt := 20) dX8_classes_9 (by decide) (fun c7 => ?_) (fun c7 => ?_)
  · have h := if_yes h c7
    refine Z_iconst hk dX8_classes_20 zc_iconst_0 ?_
    cases h
    exact Z_iret hk hq dX8_classes_21
  · have h := if_no h c7
    refine Z_aload_n hk 0 dX8_classes_12 rfl rfl ?_
    refine Z_iload_n hk 1 dX8_classes_13 rfl rfl ?_
    obtain ⟨x8, s9, h10, h⟩ := bd_ok h
    refine Z_callV 1 hk [.int a1] (c_X8_refines hk.loc hk.inj F a0 a1 ha0 s5 h10) gX8_classes_X8_refines rfl ⟨rfl, rfl⟩ (by decide +kernel) ⟨Nat.le_of_ble_eq_true rfl, Nat.le_of_ble_eq_true rfl⟩ ha0.cell.1 (ha0.cell.2 _) rfl rfl rfl (Nat.le_of_ble_eq_true rfl) ⟨Nat.zero_le _, Nat.zero_le _⟩ dX8_classes_14 ?_
    show Z K 0 0 17 [(0, .ref (eA (kZ K) a0)), (1, .int a1)] [.int x8] s9
    refine Z_goto hk (tgt := 21) dX8_classes_17 (by decide) ?_
    cases h
    exact Z_iret hk hq dX8_classes_21
theorem c_X8_classes {l : Launch} {E : zE} (hL : eL E) (hJ : eJ E) (F : Nat) (a0 : Nat) (a1 : Int32) (ha0 : atCanonCoteModel E a0) (σ : zST) {r0 : Int32} {τ0 : zST} (h : m_X8_classes F a0 a1 σ = some (r0, τ0)) : Ct l yX8_classes wsX8_classes r_X8_classes E [.ref (eA E a0), .int a1] σ (some (.int r0)) τ0 := by
  refine Ct_of (by decide) rfl hL hJ (Nat.le_of_ble_eq_true rfl) (fun K hE hl hk hq => ?_)
  subst hE
  exact w_X8_classes hk hq F a0 a1 ha0 σ h
end

-- CanonCoteModel.classOf (II)I
section
theorem dX8_classOf_0 : decode cX8_classOf 0 = .ok (.aload_n 0, 1) := by decide +kernel
theorem dX8_classOf_1 : decode cX8_classOf 1 = .ok (.aload_n 0, 1) := by decide +kernel
theorem dX8_classOf_2 : decode cX8_classOf 2 = .ok (.iload_n 1, 1) := by decide +kernel
theorem dX8_classOf_3 : decode cX8_classOf 3 = .ok (.iload_n 2, 1) := by decide +kernel
theorem dX8_classOf_4 : decode cX8_classOf 4 = .ok (.invokevirtual 66, 3) := by decide +kernel
theorem dX8_classOf_7 : decode cX8_classOf 7 = .ok (.iconst 1, 1) := by decide +kernel
theorem dX8_classOf_8 : decode cX8_classOf 8 = .ok (.invokevirtual 73, 3) := by decide +kernel
theorem dX8_classOf_11 : decode cX8_classOf 11 = .ok (.ifCond .ne 5, 3) := by decide +kernel
theorem dX8_classOf_14 : decode cX8_classOf 14 = .ok (.iconst 0, 1) := by decide +kernel
theorem dX8_classOf_15 : decode cX8_classOf 15 = .ok (.ireturn, 1) := by decide +kernel
theorem dX8_classOf_16 : decode cX8_classOf 16 = .ok (.aload_n 0, 1) := by decide +kernel
theorem dX8_classOf_17 : decode cX8_classOf 17 = .ok (.iload_n 1, 1) := by decide +kernel
theorem dX8_classOf_18 : decode cX8_classOf 18 = .ok (.invokevirtual 105, 3) := by decide +kernel
theorem dX8_classOf_21 : decode cX8_classOf 21 = .ok (.pop, 1) := by decide +kernel
theorem dX8_classOf_22 : decode cX8_classOf 22 = .ok (.aload_n 0, 1) := by decide +kernel
theorem dX8_classOf_23 : decode cX8_classOf 23 = .ok (.getfield 28, 3) := by decide +kernel
theorem dX8_classOf_26 : decode cX8_classOf 26 = .ok (.iload_n 2, 1) := by decide +kernel
theorem dX8_classOf_27 : decode cX8_classOf 27 = .ok (.iaload, 1) := by decide +kernel
theorem dX8_classOf_28 : decode cX8_classOf 28 = .ok (.ireturn, 1) := by decide +kernel
set_option maxRecDepth 20000 in
theorem ggX8_classOf_X8_isVertex : GoodIn wsX8_classOf wsX8_isVertex := goodIn_r _ [6, 7, 8, 9, 5, 10, 11, 12, 13, 42, 43, 44, 45, 46, 47, 48, 49, 50, 51, 52, 53, 54, 55, 56, 57, 58] (by decide +kernel) (by decide +kernel)
set_option maxRecDepth 20000 in
theorem gX8_classOf_X8_isVertex : GoodIn wsX8_classOf (wsV RX8 66 RX8 yX8_isVertex wsX8_isVertex) := goodIn_app (goodIn_of _ (by decide +kernel)) ggX8_classOf_X8_isVertex
set_option maxRecDepth 20000 in
theorem ggX8_classOf_X8_goes : GoodIn wsX8_classOf wsX8_goes := goodIn_r _ [17, 18, 42, 43, 44, 45, 46, 47, 48, 49, 50, 51, 52, 53, 54, 55, 56, 57, 58] (by decide +kernel) (by decide +kernel)
set_option maxRecDepth 20000 in
theorem gX8_classOf_X8_goes : GoodIn wsX8_classOf (wsV RX8 73 RX8 yX8_goes wsX8_goes) := goodIn_app (goodIn_of _ (by decide +kernel)) ggX8_classOf_X8_goes
set_option maxRecDepth 20000 in
theorem ggX8_classOf_X8_refines : GoodIn wsX8_classOf wsX8_refines := goodIn_r _ [22, 23, 24, 25, 26, 5, 27, 7, 28, 1, 29, 30, 31, 32, 33, 34, 35, 36, 37, 38, 39, 40, 41, 42, 43, 44, 45, 46, 47, 48, 49, 50, 51, 52, 53, 54, 55, 56, 57, 58] (by decide +kernel) (by decide +kernel)
set_option maxRecDepth 20000 in
theorem gX8_classOf_X8_refines : GoodIn wsX8_classOf (wsV RX8 105 RX8 yX8_refines wsX8_refines) := goodIn_app (goodIn_of _ (by decide +kernel)) ggX8_classOf_X8_refines
theorem in_X8_classOf_CanonCoteModel : ∀ w ∈ u_ws RX8 TX8 17, w ∈ wsX8_classOf := by decide +kernel
theorem wd_X8_classOf_1 : Cond.fieldLink RX8 28 (TX8 6).1 (TX8 6).2.1 (TX8 6).2.2.1 ∈ wsX8_classOf := by decide +kernel
def r_X8_classOf : Room := { frames := 6, cells := 0, slots := 0, locals := 136 }
set_option maxRecDepth 100000 in
set_option maxHeartbeats 4000000 in
theorem w_X8_classOf {K : zK} (hk : zIs K RX8 cX8_classOf 3 wsX8_classOf (some .int) r_X8_classOf) {r0 : Int32} {τ0 : zST} (hq : zQ K (some (.int r0)) τ0) (F : Nat) (a0 : Nat) (a1 : Int32) (a2 : Int32) (ha0 : atCanonCoteModel (kZ K) a0) (σ : zST) (h : m_X8_classOf F a0 a1 a2 σ = some (r0, τ0)) : Z K 0 0 0 [(0, .ref (eA (kZ K) a0)), (1, .int a1), (2, .int a2)] [] σ := by
  unfold m_X8_classOf at h
  refine Z_aload_n hk 0 dX8_classOf_0 rfl rfl ?_
  refine Z_aload_n hk 0 dX8_classOf_1 rfl rfl ?_
  refine Z_iload_n hk 1 dX8_classOf_2 rfl rfl ?_
  refine Z_iload_n hk 2 dX8_classOf_3 rfl rfl ?_
  obtain ⟨x1, s2, h3, h⟩ := bd_ok h
  refine Z_callV 2 hk [.int a1, .int a2] (c_X8_isVertex hk.loc hk.inj F a0 a1 a2 ha0 σ h3) gX8_classOf_X8_isVertex rfl ⟨rfl, rfl⟩ (by decide +kernel) ⟨Nat.le_of_ble_eq_true rfl, Nat.le_of_ble_eq_true rfl⟩ ha0.cell.1 (ha0.cell.2 _) rfl rfl rfl (Nat.le_of_ble_eq_true rfl) ⟨Nat.zero_le _, Nat.zero_le _⟩ dX8_classOf_4 ?_
  show Z K 0 0 7 [(0, .ref (eA (kZ K) a0)), (1, .int a1), (2, .int a2)] [.int x1, .ref (eA (kZ K) a0)] s2
  refine Z_iconst hk dX8_classOf_7 zc_iconst_1 ?_
  obtain ⟨x4, s5, h6, h⟩ := bd_ok h
  refine Z_callV 2 hk [.int x1, .int 1] (c_X8_goes hk.loc hk.inj F a0 x1 1 ha0 s2 h6) gX8_classOf_X8_goes rfl ⟨rfl, rfl⟩ (by decide +kernel) ⟨Nat.le_of_ble_eq_true rfl, Nat.le_of_ble_eq_true rfl⟩ ha0.cell.1 (ha0.cell.2 _) rfl rfl rfl (Nat.le_of_ble_eq_true rfl) ⟨Nat.zero_le _, Nat.zero_le _⟩ dX8_classOf_8 ?_
  show Z K 0 0 11 [(0, .ref (eA (kZ K) a0)), (1, .int a1), (2, .int a2)] [.int x4] s5
  refine Z_if_ne hk (tgt := 16) dX8_classOf_11 (by decide) (fun c7 => ?_) (fun c7 => ?_)
  · have h := if_yes h c7
    refine Z_iconst hk dX8_classOf_14 zc_iconst_0 ?_
    cases h
    exact Z_iret hk hq dX8_classOf_15
  · have h := if_no h c7
    refine Z_aload_n hk 0 dX8_classOf_16 rfl rfl ?_
    refine Z_iload_n hk 1 dX8_classOf_17 rfl rfl ?_
    obtain ⟨x8, s9, h10, h⟩ := bd_ok h
    refine Z_callV 1 hk [.int a1] (c_X8_refines hk.loc hk.inj F a0 a1 ha0 s5 h10) gX8_classOf_X8_refines rfl ⟨rfl, rfl⟩ (by decide +kernel) ⟨Nat.le_of_ble_eq_true rfl, Nat.le_of_ble_eq_true rfl⟩ ha0.cell.1 (ha0.cell.2 _) rfl rfl rfl (Nat.le_of_ble_eq_true rfl) ⟨Nat.zero_le _, Nat.zero_le _⟩ dX8_classOf_18 ?_
    show Z K 0 0 21 [(0, .ref (eA (kZ K) a0)), (1, .int a1), (2, .int a2)] [.int x8] s9
    refine Z_pop hk dX8_classOf_21 rfl ?_
    refine Z_aload_n hk 0 dX8_classOf_22 rfl rfl ?_
    refine Z_get hk in_X8_classOf_CanonCoteModel rfl ha0.cell.1 (ha0.cell.2 _) 6 (by decide) wd_X8_classOf_1 rfl dX8_classOf_23 ?_
    refine Z_iload_n hk 2 dX8_classOf_26 rfl rfl ?_
    obtain ⟨i13, x11, e12, h⟩ := ldI_get h
    refine Z_iald hk (ha0.old) i13 dX8_classOf_27 ?_
    refine Z_eqI e12 ?_
    cases h
    exact Z_iret hk hq dX8_classOf_28
theorem c_X8_classOf {l : Launch} {E : zE} (hL : eL E) (hJ : eJ E) (F : Nat) (a0 : Nat) (a1 : Int32) (a2 : Int32) (ha0 : atCanonCoteModel E a0) (σ : zST) {r0 : Int32} {τ0 : zST} (h : m_X8_classOf F a0 a1 a2 σ = some (r0, τ0)) : Ct l yX8_classOf wsX8_classOf r_X8_classOf E [.ref (eA E a0), .int a1, .int a2] σ (some (.int r0)) τ0 := by
  refine Ct_of (by decide) rfl hL hJ (Nat.le_of_ble_eq_true rfl) (fun K hE hl hk hq => ?_)
  subst hE
  exact w_X8_classOf hk hq F a0 a1 a2 ha0 σ h
end

-- CanonCoteModel.rounds (I)I
section
theorem dX8_rounds_0 : decode cX8_rounds 0 = .ok (.aload_n 0, 1) := by decide +kernel
theorem dX8_rounds_1 : decode cX8_rounds 1 = .ok (.iload_n 1, 1) := by decide +kernel
theorem dX8_rounds_2 : decode cX8_rounds 2 = .ok (.invokestatic 62, 3) := by decide +kernel
theorem dX8_rounds_5 : decode cX8_rounds 5 = .ok (.iconst 1, 1) := by decide +kernel
theorem dX8_rounds_6 : decode cX8_rounds 6 = .ok (.invokevirtual 73, 3) := by decide +kernel
theorem dX8_rounds_9 : decode cX8_rounds 9 = .ok (.ifCond .ne 5, 3) := by decide +kernel
theorem dX8_rounds_12 : decode cX8_rounds 12 = .ok (.iconst 0, 1) := by decide +kernel
theorem dX8_rounds_13 : decode cX8_rounds 13 = .ok (.ireturn, 1) := by decide +kernel
theorem dX8_rounds_14 : decode cX8_rounds 14 = .ok (.aload_n 0, 1) := by decide +kernel
theorem dX8_rounds_15 : decode cX8_rounds 15 = .ok (.iload_n 1, 1) := by decide +kernel
theorem dX8_rounds_16 : decode cX8_rounds 16 = .ok (.invokevirtual 105, 3) := by decide +kernel
theorem dX8_rounds_19 : decode cX8_rounds 19 = .ok (.pop, 1) := by decide +kernel
theorem dX8_rounds_20 : decode cX8_rounds 20 = .ok (.aload_n 0, 1) := by decide +kernel
theorem dX8_rounds_21 : decode cX8_rounds 21 = .ok (.getfield 102, 3) := by decide +kernel
theorem dX8_rounds_24 : decode cX8_rounds 24 = .ok (.ireturn, 1) := by decide +kernel
set_option maxRecDepth 20000 in
theorem ggX8_rounds_X8_isGraph : GoodIn wsX8_rounds wsX8_isGraph := goodIn_r _ [5, 6, 7, 4, 8] (by decide +kernel) (by decide +kernel)
set_option maxRecDepth 20000 in
theorem gX8_rounds_X8_isGraph : GoodIn wsX8_rounds (va_wsS RX8 62 yX8_isGraph wsX8_isGraph) := goodIn_app (goodIn_of _ (by decide +kernel)) ggX8_rounds_X8_isGraph
set_option maxRecDepth 20000 in
theorem ggX8_rounds_X8_goes : GoodIn wsX8_rounds wsX8_goes := goodIn_r _ [12, 13, 38, 39, 40, 41, 42, 43, 44, 45, 46, 47, 48, 49, 50, 51, 52, 53, 54] (by decide +kernel) (by decide +kernel)
set_option maxRecDepth 20000 in
theorem gX8_rounds_X8_goes : GoodIn wsX8_rounds (wsV RX8 73 RX8 yX8_goes wsX8_goes) := goodIn_app (goodIn_of _ (by decide +kernel)) ggX8_rounds_X8_goes
set_option maxRecDepth 20000 in
theorem ggX8_rounds_X8_refines : GoodIn wsX8_rounds wsX8_refines := goodIn_r _ [17, 1, 18, 19, 20, 4, 21, 22, 23, 24, 25, 26, 27, 28, 29, 30, 31, 32, 33, 34, 35, 36, 37, 38, 39, 40, 41, 42, 43, 44, 45, 46, 47, 48, 49, 50, 51, 52, 53, 54] (by decide +kernel) (by decide +kernel)
set_option maxRecDepth 20000 in
theorem gX8_rounds_X8_refines : GoodIn wsX8_rounds (wsV RX8 105 RX8 yX8_refines wsX8_refines) := goodIn_app (goodIn_of _ (by decide +kernel)) ggX8_rounds_X8_refines
theorem in_X8_rounds_CanonCoteModel : ∀ w ∈ u_ws RX8 TX8 17, w ∈ wsX8_rounds := by decide +kernel
theorem wd_X8_rounds_1 : Cond.fieldLink RX8 102 (TX8 9).1 (TX8 9).2.1 (TX8 9).2.2.1 ∈ wsX8_rounds := by decide +kernel
def r_X8_rounds : Room := { frames := 6, cells := 0, slots := 0, locals := 136 }
set_option maxRecDepth 100000 in
set_option maxHeartbeats 4000000 in
theorem w_X8_rounds {K : zK} (hk : zIs K RX8 cX8_rounds 2 wsX8_rounds (some .int) r_X8_rounds) {r0 : Int32} {τ0 : zST} (hq : zQ K (some (.int r0)) τ0) (F : Nat) (a0 : Nat) (a1 : Int32) (ha0 : atCanonCoteModel (kZ K) a0) (σ : zST) (h : m_X8_rounds F a0 a1 σ = some (r0, τ0)) : Z K 0 0 0 [(0, .ref (eA (kZ K) a0)), (1, .int a1)] [] σ := by
  unfold m_X8_rounds at h
  refine Z_aload_n hk 0 dX8_rounds_0 rfl rfl ?_
  refine Z_iload_n hk 1 dX8_rounds_1 rfl rfl ?_
  obtain ⟨x1, s2, h3, h⟩ := bd_ok h
  refine Z_callT 1 hk [.int a1] (c_X8_isGraph hk.loc hk.inj F a1 σ h3) gX8_rounds_X8_isGraph rfl ⟨rfl, rfl⟩ (by decide +kernel) ⟨Nat.le_of_ble_eq_true rfl, Nat.le_of_ble_eq_true rfl⟩ rfl rfl (Nat.le_of_ble_eq_true rfl) ⟨Nat.zero_le _, Nat.zero_le _⟩ dX8_rounds_2 ?_
  show Z K 0 0 5 [(0, .ref (eA (kZ K) a0)), (1, .int a1)] [.int x1, .ref (eA (kZ K) a0)] s2
  refine Z_iconst hk dX8_rounds_5 zc_iconst_1 ?_
  obtain ⟨x4, s5, h6, h⟩ := bd_ok h
  refine Z_callV 2 hk [.int x1, .int 1] (c_X8_goes hk.loc hk.inj F a0 x1 1 ha0 s2 h6) gX8_rounds_X8_goes rfl ⟨rfl, rfl⟩ (by decide +kernel) ⟨Nat.le_of_ble_eq_true rfl, Nat.le_of_ble_eq_true rfl⟩ ha0.cell.1 (ha0.cell.2 _) rfl rfl rfl (Nat.le_of_ble_eq_true rfl) ⟨Nat.zero_le _, Nat.zero_le _⟩ dX8_rounds_6 ?_
  show Z K 0 0 9 [(0, .ref (eA (kZ K) a0)), (1, .int a1)] [.int x4] s5
  refine Z_if_ne hk (tgt := 14) dX8_rounds_9 (by decide) (fun c7 => ?_) (fun c7 => ?_)
  · have h := if_yes h c7
    refine Z_iconst hk dX8_rounds_12 zc_iconst_0 ?_
    cases h
    exact Z_iret hk hq dX8_rounds_13
  · have h := if_no h c7
    refine Z_aload_n hk 0 dX8_rounds_14 rfl rfl ?_
    refine Z_iload_n hk 1 dX8_rounds_15 rfl rfl ?_
    obtain ⟨x8, s9, h10, h⟩ := bd_ok h
    refine Z_callV 1 hk [.int a1] (c_X8_refines hk.loc hk.inj F a0 a1 ha0 s5 h10) gX8_rounds_X8_refines rfl ⟨rfl, rfl⟩ (by decide +kernel) ⟨Nat.le_of_ble_eq_true rfl, Nat.le_of_ble_eq_true rfl⟩ ha0.cell.1 (ha0.cell.2 _) rfl rfl rfl (Nat.le_of_ble_eq_true rfl) ⟨Nat.zero_le _, Nat.zero_le _⟩ dX8_rounds_16 ?_
    show Z K 0 0 19 [(0, .ref (eA (kZ K) a0)), (1, .int a1)] [.int x8] s9
    refine Z_pop hk dX8_rounds_19 rfl ?_
    refine Z_aload_n hk 0 dX8_rounds_20 rfl rfl ?_
    refine Z_get hk in_X8_rounds_CanonCoteModel rfl ha0.cell.1 (ha0.cell.2 _) 9 (by decide) wd_X8_rounds_1 rfl dX8_rounds_21 ?_
    cases h
    exact Z_iret hk hq dX8_rounds_24
theorem c_X8_rounds {l : Launch} {E : zE} (hL : eL E) (hJ : eJ E) (F : Nat) (a0 : Nat) (a1 : Int32) (ha0 : atCanonCoteModel E a0) (σ : zST) {r0 : Int32} {τ0 : zST} (h : m_X8_rounds F a0 a1 σ = some (r0, τ0)) : Ct l yX8_rounds wsX8_rounds r_X8_rounds E [.ref (eA E a0), .int a1] σ (some (.int r0)) τ0 := by
  refine Ct_of (by decide) rfl hL hJ (Nat.le_of_ble_eq_true rfl) (fun K hE hl hk hq => ?_)
  subst hE
  exact w_X8_rounds hk hq F a0 a1 ha0 σ h
end

-- CanonCoteModel.beginsMaps (I)V
section
theorem dX8_beginsMaps_0 : decode cX8_beginsMaps 0 = .ok (.iconst 0, 1) := by decide +kernel
theorem dX8_beginsMaps_1 : decode cX8_beginsMaps 1 = .ok (.istore_n 2, 1) := by decide +kernel
theorem dX8_beginsMaps_2 : decode cX8_beginsMaps 2 = .ok (.iload_n 2, 1) := by decide +kernel
theorem dX8_beginsMaps_3 : decode cX8_beginsMaps 3 = .ok (.iload_n 1, 1) := by decide +kernel
theorem dX8_beginsMaps_4 : decode cX8_beginsMaps 4 = .ok (.if_icmp .ge 16, 3) := by decide +kernel
theorem dX8_beginsMaps_7 : decode cX8_beginsMaps 7 = .ok (.aload_n 0, 1) := by decide +kernel
theorem dX8_beginsMaps_8 : decode cX8_beginsMaps 8 = .ok (.getfield 19, 3) := by decide +kernel
theorem dX8_beginsMaps_11 : decode cX8_beginsMaps 11 = .ok (.iload_n 2, 1) := by decide +kernel
theorem dX8_beginsMaps_12 : decode cX8_beginsMaps 12 = .ok (.iload_n 2, 1) := by decide +kernel
theorem dX8_beginsMaps_13 : decode cX8_beginsMaps 13 = .ok (.iastore, 1) := by decide +kernel
theorem dX8_beginsMaps_14 : decode cX8_beginsMaps 14 = .ok (.iinc 2 1, 3) := by decide +kernel
theorem dX8_beginsMaps_17 : decode cX8_beginsMaps 17 = .ok (.goto (-15), 3) := by decide +kernel
theorem dX8_beginsMaps_20 : decode cX8_beginsMaps 20 = .ok (.return_, 1) := by decide +kernel
theorem in_X8_beginsMaps_CanonCoteModel : ∀ w ∈ u_ws RX8 TX8 17, w ∈ wsX8_beginsMaps := by decide +kernel
theorem wd_X8_beginsMaps_1 : Cond.fieldLink RX8 19 (TX8 3).1 (TX8 3).2.1 (TX8 3).2.2.1 ∈ wsX8_beginsMaps := by decide +kernel
def r_X8_beginsMaps : Room := { frames := 1, cells := 0, slots := 0, locals := 12 }
set_option maxRecDepth 100000 in
set_option maxHeartbeats 4000000 in
theorem w_X8_beginsMaps_2 {K : zK} (hk : zIs K RX8 cX8_beginsMaps 3 wsX8_beginsMaps none r_X8_beginsMaps) {τ0 : zST} (hq : zQ K none τ0) (F : Nat) : ∀ (n : Nat) (a0 : Nat) (a1 : Int32) (a2 : Int32) (ha0 : atCanonCoteModel (kZ K) a0) (σ : zST), m_X8_beginsMaps_2 F n a0 a1 a2 σ = some τ0 → Z K 0 0 2 [(0, .ref (eA (kZ K) a0)), (1, .int a1), (2, .int a2)] [] σ := by
  intro n
  induction n with
  | zero => intro a0 a1 a2 ha0 σ h; cases h
  | succ n ih =>
    intro a0 a1 a2 ha0 σ h
    rw [m_X8_beginsMaps_2] at h
    refine Z_iload_n hk 2 dX8_beginsMaps_2 rfl rfl ?_
    refine Z_iload_n hk 1 dX8_beginsMaps_3 rfl rfl ?_
    refine Z_icmp_ge hk (tgt := 20) dX8_beginsMaps_4 (by decide) (fun c1 => ?_) (fun c1 => ?_)
    · have h := if_yes h c1
      cases h
      exact Z_vret hk hq dX8_beginsMaps_20
    · have h := if_no h c1
      refine Z_aload_n hk 0 dX8_beginsMaps_7 rfl rfl ?_
      refine Z_get hk in_X8_beginsMaps_CanonCoteModel rfl ha0.cell.1 (ha0.cell.2 _) 3 (by decide) wd_X8_beginsMaps_1 rfl dX8_beginsMaps_8 ?_
      refine Z_iload_n hk 2 dX8_beginsMaps_11 rfl rfl ?_
      refine Z_iload_n hk 2 dX8_beginsMaps_12 rfl rfl ?_
      obtain ⟨i4, s2, e3, h⟩ := stI_get h
      refine Z_iast hk (ha0.map) i4 dX8_beginsMaps_13 ?_
      refine Z_eqS e3 ?_
      obtain ⟨x5, e6, h⟩ := nm_get h
      refine Z_iinc hk 2 (v := x5) (lv' := [(2, .int x5), (0, .ref (eA (kZ K) a0)), (1, .int a1)]) dX8_beginsMaps_14 rfl (by rw [zc_iinc_1]; exact e6) (by decide) rfl ?_
      refine Z_goto hk (tgt := 2) dX8_beginsMaps_17 (by decide) ?_
      refine Z_sub [1, 2, 0] rfl ?_
      exact ih a0 a1 x5 ha0 s2 h
set_option maxRecDepth 100000 in
set_option maxHeartbeats 4000000 in
theorem w_X8_beginsMaps {K : zK} (hk : zIs K RX8 cX8_beginsMaps 3 wsX8_beginsMaps none r_X8_beginsMaps) {τ0 : zST} (hq : zQ K none τ0) (F : Nat) (a0 : Nat) (a1 : Int32) (ha0 : atCanonCoteModel (kZ K) a0) (σ : zST) (h : m_X8_beginsMaps F a0 a1 σ = some τ0) : Z K 0 0 0 [(0, .ref (eA (kZ K) a0)), (1, .int a1)] [] σ := by
  unfold m_X8_beginsMaps at h
  refine Z_iconst hk dX8_beginsMaps_0 zc_iconst_0 ?_
  refine Z_istore_n hk (lv' := [(2, .int 0), (0, .ref (eA (kZ K) a0)), (1, .int a1)]) dX8_beginsMaps_1 rfl (by decide) rfl ?_
  refine Z_sub [1, 2, 0] rfl ?_
  exact w_X8_beginsMaps_2 hk hq F F a0 a1 0 ha0 σ h
theorem c_X8_beginsMaps {l : Launch} {E : zE} (hL : eL E) (hJ : eJ E) (F : Nat) (a0 : Nat) (a1 : Int32) (ha0 : atCanonCoteModel E a0) (σ : zST) {τ0 : zST} (h : m_X8_beginsMaps F a0 a1 σ = some τ0) : Ct l yX8_beginsMaps wsX8_beginsMaps r_X8_beginsMaps E [.ref (eA E a0), .int a1] σ none τ0 := by
  refine Ct_of (by decide) rfl hL hJ (Nat.le_of_ble_eq_true rfl) (fun K hE hl hk hq => ?_)
  subst hE
  exact w_X8_beginsMaps hk hq F a0 a1 ha0 σ h
end

-- CanonCoteModel.nextMap (I)Z
section
theorem dX8_nextMap_0 : decode cX8_nextMap 0 = .ok (.iload_n 1, 1) := by decide +kernel
theorem dX8_nextMap_1 : decode cX8_nextMap 1 = .ok (.iconst 2, 1) := by decide +kernel
theorem dX8_nextMap_2 : decode cX8_nextMap 2 = .ok (.isub, 1) := by decide +kernel
theorem dX8_nextMap_3 : decode cX8_nextMap 3 = .ok (.istore_n 2, 1) := by decide +kernel
theorem dX8_nextMap_4 : decode cX8_nextMap 4 = .ok (.iload_n 2, 1) := by decide +kernel
theorem dX8_nextMap_5 : decode cX8_nextMap 5 = .ok (.ifCond .lt 26, 3) := by decide +kernel
theorem dX8_nextMap_8 : decode cX8_nextMap 8 = .ok (.aload_n 0, 1) := by decide +kernel
theorem dX8_nextMap_9 : decode cX8_nextMap 9 = .ok (.getfield 19, 3) := by decide +kernel
theorem dX8_nextMap_12 : decode cX8_nextMap 12 = .ok (.iload_n 2, 1) := by decide +kernel
theorem dX8_nextMap_13 : decode cX8_nextMap 13 = .ok (.iaload, 1) := by decide +kernel
theorem dX8_nextMap_14 : decode cX8_nextMap 14 = .ok (.aload_n 0, 1) := by decide +kernel
theorem dX8_nextMap_15 : decode cX8_nextMap 15 = .ok (.getfield 19, 3) := by decide +kernel
theorem dX8_nextMap_18 : decode cX8_nextMap 18 = .ok (.iload_n 2, 1) := by decide +kernel
theorem dX8_nextMap_19 : decode cX8_nextMap 19 = .ok (.iconst 1, 1) := by decide +kernel
theorem dX8_nextMap_20 : decode cX8_nextMap 20 = .ok (.iadd, 1) := by decide +kernel
theorem dX8_nextMap_21 : decode cX8_nextMap 21 = .ok (.iaload, 1) := by decide +kernel
theorem dX8_nextMap_22 : decode cX8_nextMap 22 = .ok (.if_icmp .le 9, 3) := by decide +kernel
theorem dX8_nextMap_25 : decode cX8_nextMap 25 = .ok (.iinc 2 (-1), 3) := by decide +kernel
theorem dX8_nextMap_28 : decode cX8_nextMap 28 = .ok (.goto (-24), 3) := by decide +kernel
theorem dX8_nextMap_31 : decode cX8_nextMap 31 = .ok (.iload_n 2, 1) := by decide +kernel
theorem dX8_nextMap_32 : decode cX8_nextMap 32 = .ok (.ifCond .ge 5, 3) := by decide +kernel
theorem dX8_nextMap_35 : decode cX8_nextMap 35 = .ok (.iconst 0, 1) := by decide +kernel
theorem dX8_nextMap_36 : decode cX8_nextMap 36 = .ok (.ireturn, 1) := by decide +kernel
theorem dX8_nextMap_37 : decode cX8_nextMap 37 = .ok (.iload_n 1, 1) := by decide +kernel
theorem dX8_nextMap_38 : decode cX8_nextMap 38 = .ok (.iconst 1, 1) := by decide +kernel
theorem dX8_nextMap_39 : decode cX8_nextMap 39 = .ok (.isub, 1) := by decide +kernel
theorem dX8_nextMap_40 : decode cX8_nextMap 40 = .ok (.istore_n 3, 1) := by decide +kernel
theorem dX8_nextMap_41 : decode cX8_nextMap 41 = .ok (.aload_n 0, 1) := by decide +kernel
theorem dX8_nextMap_42 : decode cX8_nextMap 42 = .ok (.getfield 19, 3) := by decide +kernel
theorem dX8_nextMap_45 : decode cX8_nextMap 45 = .ok (.iload_n 3, 1) := by decide +kernel
theorem dX8_nextMap_46 : decode cX8_nextMap 46 = .ok (.iaload, 1) := by decide +kernel
theorem dX8_nextMap_47 : decode cX8_nextMap 47 = .ok (.aload_n 0, 1) := by decide +kernel
theorem dX8_nextMap_48 : decode cX8_nextMap 48 = .ok (.getfield 19, 3) := by decide +kernel
theorem dX8_nextMap_51 : decode cX8_nextMap 51 = .ok (.iload_n 2, 1) := by decide +kernel
theorem dX8_nextMap_52 : decode cX8_nextMap 52 = .ok (.iaload, 1) := by decide +kernel
theorem dX8_nextMap_53 : decode cX8_nextMap 53 = .ok (.if_icmp .ge 9, 3) := by decide +kernel
theorem dX8_nextMap_56 : decode cX8_nextMap 56 = .ok (.iinc 3 (-1), 3) := by decide +kernel
theorem dX8_nextMap_59 : decode cX8_nextMap 59 = .ok (.goto (-18), 3) := by decide +kernel
theorem dX8_nextMap_62 : decode cX8_nextMap 62 = .ok (.aload_n 0, 1) := by decide +kernel
theorem dX8_nextMap_63 : decode cX8_nextMap 63 = .ok (.getfield 19, 3) := by decide +kernel
theorem dX8_nextMap_66 : decode cX8_nextMap 66 = .ok (.iload_n 2, 1) := by decide +kernel
theorem dX8_nextMap_67 : decode cX8_nextMap 67 = .ok (.iaload, 1) := by decide +kernel
theorem dX8_nextMap_68 : decode cX8_nextMap 68 = .ok (.istore 4, 2) := by decide +kernel
theorem dX8_nextMap_70 : decode cX8_nextMap 70 = .ok (.aload_n 0, 1) := by decide +kernel
theorem dX8_nextMap_71 : decode cX8_nextMap 71 = .ok (.getfield 19, 3) := by decide +kernel
theorem dX8_nextMap_74 : decode cX8_nextMap 74 = .ok (.iload_n 2, 1) := by decide +kernel
theorem dX8_nextMap_75 : decode cX8_nextMap 75 = .ok (.aload_n 0, 1) := by decide +kernel
theorem dX8_nextMap_76 : decode cX8_nextMap 76 = .ok (.getfield 19, 3) := by decide +kernel
theorem dX8_nextMap_79 : decode cX8_nextMap 79 = .ok (.iload_n 3, 1) := by decide +kernel
theorem dX8_nextMap_80 : decode cX8_nextMap 80 = .ok (.iaload, 1) := by decide +kernel
theorem dX8_nextMap_81 : decode cX8_nextMap 81 = .ok (.iastore, 1) := by decide +kernel
theorem dX8_nextMap_82 : decode cX8_nextMap 82 = .ok (.aload_n 0, 1) := by decide +kernel
theorem dX8_nextMap_83 : decode cX8_nextMap 83 = .ok (.getfield 19, 3) := by decide +kernel
theorem dX8_nextMap_86 : decode cX8_nextMap 86 = .ok (.iload_n 3, 1) := by decide +kernel
theorem dX8_nextMap_87 : decode cX8_nextMap 87 = .ok (.iload 4, 2) := by decide +kernel
theorem dX8_nextMap_89 : decode cX8_nextMap 89 = .ok (.iastore, 1) := by decide +kernel
theorem dX8_nextMap_90 : decode cX8_nextMap 90 = .ok (.iload_n 2, 1) := by decide +kernel
theorem dX8_nextMap_91 : decode cX8_nextMap 91 = .ok (.iconst 1, 1) := by decide +kernel
theorem dX8_nextMap_92 : decode cX8_nextMap 92 = .ok (.iadd, 1) := by decide +kernel
theorem dX8_nextMap_93 : decode cX8_nextMap 93 = .ok (.istore 5, 2) := by decide +kernel
theorem dX8_nextMap_95 : decode cX8_nextMap 95 = .ok (.iload_n 1, 1) := by decide +kernel
theorem dX8_nextMap_96 : decode cX8_nextMap 96 = .ok (.iconst 1, 1) := by decide +kernel
theorem dX8_nextMap_97 : decode cX8_nextMap 97 = .ok (.isub, 1) := by decide +kernel
theorem dX8_nextMap_98 : decode cX8_nextMap 98 = .ok (.istore 6, 2) := by decide +kernel
theorem dX8_nextMap_100 : decode cX8_nextMap 100 = .ok (.iload 5, 2) := by decide +kernel
theorem dX8_nextMap_102 : decode cX8_nextMap 102 = .ok (.iload 6, 2) := by decide +kernel
theorem dX8_nextMap_104 : decode cX8_nextMap 104 = .ok (.if_icmp .ge 44, 3) := by decide +kernel
theorem dX8_nextMap_107 : decode cX8_nextMap 107 = .ok (.aload_n 0, 1) := by decide +kernel
theorem dX8_nextMap_108 : decode cX8_nextMap 108 = .ok (.getfield 19, 3) := by decide +kernel
theorem dX8_nextMap_111 : decode cX8_nextMap 111 = .ok (.iload 5, 2) := by decide +kernel
theorem dX8_nextMap_113 : decode cX8_nextMap 113 = .ok (.iaload, 1) := by decide +kernel
theorem dX8_nextMap_114 : decode cX8_nextMap 114 = .ok (.istore 7, 2) := by decide +kernel
theorem dX8_nextMap_116 : decode cX8_nextMap 116 = .ok (.aload_n 0, 1) := by decide +kernel
theorem dX8_nextMap_117 : decode cX8_nextMap 117 = .ok (.getfield 19, 3) := by decide +kernel
theorem dX8_nextMap_120 : decode cX8_nextMap 120 = .ok (.iload 5, 2) := by decide +kernel
theorem dX8_nextMap_122 : decode cX8_nextMap 122 = .ok (.aload_n 0, 1) := by decide +kernel
theorem dX8_nextMap_123 : decode cX8_nextMap 123 = .ok (.getfield 19, 3) := by decide +kernel
theorem dX8_nextMap_126 : decode cX8_nextMap 126 = .ok (.iload 6, 2) := by decide +kernel
theorem dX8_nextMap_128 : decode cX8_nextMap 128 = .ok (.iaload, 1) := by decide +kernel
theorem dX8_nextMap_129 : decode cX8_nextMap 129 = .ok (.iastore, 1) := by decide +kernel
theorem dX8_nextMap_130 : decode cX8_nextMap 130 = .ok (.aload_n 0, 1) := by decide +kernel
theorem dX8_nextMap_131 : decode cX8_nextMap 131 = .ok (.getfield 19, 3) := by decide +kernel
theorem dX8_nextMap_134 : decode cX8_nextMap 134 = .ok (.iload 6, 2) := by decide +kernel
theorem dX8_nextMap_136 : decode cX8_nextMap 136 = .ok (.iload 7, 2) := by decide +kernel
theorem dX8_nextMap_138 : decode cX8_nextMap 138 = .ok (.iastore, 1) := by decide +kernel
theorem dX8_nextMap_139 : decode cX8_nextMap 139 = .ok (.iinc 5 1, 3) := by decide +kernel
theorem dX8_nextMap_142 : decode cX8_nextMap 142 = .ok (.iinc 6 (-1), 3) := by decide +kernel
theorem dX8_nextMap_145 : decode cX8_nextMap 145 = .ok (.goto (-45), 3) := by decide +kernel
theorem dX8_nextMap_148 : decode cX8_nextMap 148 = .ok (.iconst 1, 1) := by decide +kernel
theorem dX8_nextMap_149 : decode cX8_nextMap 149 = .ok (.ireturn, 1) := by decide +kernel
theorem in_X8_nextMap_CanonCoteModel : ∀ w ∈ u_ws RX8 TX8 17, w ∈ wsX8_nextMap := by decide +kernel
theorem wd_X8_nextMap_1 : Cond.fieldLink RX8 19 (TX8 3).1 (TX8 3).2.1 (TX8 3).2.2.1 ∈ wsX8_nextMap := by decide +kernel
def r_X8_nextMap : Room := { frames := 1, cells := 0, slots := 0, locals := 12 }
set_option maxRecDepth 100000 in
set_option maxHeartbeats 4000000 in
theorem w_X8_nextMap_100 {K : zK} (hk : zIs K RX8 cX8_nextMap 8 wsX8_nextMap (some .boolean) r_X8_nextMap) {r0 : Int32} {τ0 : zST} (hq : zQ K (some (.int r0)) τ0) (F : Nat) : ∀ (n : Nat) (a0 : Nat) (a5 : Int32) (a6 : Int32) (ha0 : atCanonCoteModel (kZ K) a0) (σ : zST), m_X8_nextMap_100 F n a0 a5 a6 σ = some (r0, τ0) → Z K 0 0 100 [(0, .ref (eA (kZ K) a0)), (5, .int a5), (6, .int a6)] [] σ := by
  intro n
  induction n with
  | zero => intro a0 a5 a6 ha0 σ h; cases h
  | succ n ih =>
    intro a0 a5 a6 ha0 σ h
    rw [m_X8_nextMap_100] at h
    refine Z_iload hk 1 dX8_nextMap_100 rfl ?_
    refine Z_iload hk 2 dX8_nextMap_102 rfl ?_
    refine Z_icmp_ge hk (tgt := 148) dX8_nextMap_104 (by decide) (fun c41 => ?_) (fun c41 => ?_)
    · have h := if_yes h c41
      refine Z_iconst hk dX8_nextMap_148 zc_iconst_1 ?_
      cases h
      exact Z_zret hk (by decide) hq dX8_nextMap_149
    · have h := if_no h c41
      refine Z_aload_n hk 0 dX8_nextMap_107 rfl rfl ?_
      refine Z_get hk in_X8_nextMap_CanonCoteModel rfl ha0.cell.1 (ha0.cell.2 _) 3 (by decide) wd_X8_nextMap_1 rfl dX8_nextMap_108 ?_
      refine Z_iload hk 1 dX8_nextMap_111 rfl ?_
      obtain ⟨i44, x42, e43, h⟩ := ldI_get h
      refine Z_iald hk (ha0.map) i44 dX8_nextMap_113 ?_
      refine Z_eqI e43 ?_
      refine Z_istore hk (lv' := [(7, .int x42), (0, .ref (eA (kZ K) a0)), (5, .int a5), (6, .int a6)]) dX8_nextMap_114 (by decide) rfl ?_
      refine Z_aload_n hk 1 dX8_nextMap_116 rfl rfl ?_
      refine Z_get hk in_X8_nextMap_CanonCoteModel rfl ha0.cell.1 (ha0.cell.2 _) 3 (by decide) wd_X8_nextMap_1 rfl dX8_nextMap_117 ?_
      refine Z_iload hk 2 dX8_nextMap_120 rfl ?_
      refine Z_aload_n hk 1 dX8_nextMap_122 rfl rfl ?_
      refine Z_get hk in_X8_nextMap_CanonCoteModel rfl ha0.cell.1 (ha0.cell.2 _) 3 (by decide) wd_X8_nextMap_1 rfl dX8_nextMap_123 ?_
      refine Z_iload hk 3 dX8_nextMap_126 rfl ?_
      obtain ⟨i47, x45, e46, h⟩ := ldI_get h
      refine Z_iald hk (ha0.map) i47 dX8_nextMap_128 ?_
      refine Z_eqI e46 ?_
      obtain ⟨i50, s48, e49, h⟩ := stI_get h
      refine Z_iast hk (ha0.map) i50 dX8_nextMap_129 ?_
      refine Z_eqS e49 ?_
      refine Z_aload_n hk 1 dX8_nextMap_130 rfl rfl ?_
      refine Z_get hk in_X8_nextMap_CanonCoteModel rfl ha0.cell.1 (ha0.cell.2 _) 3 (by decide) wd_X8_nextMap_1 rfl dX8_nextMap_131 ?_
      refine Z_iload hk 3 dX8_nextMap_134 rfl ?_
      refine Z_iload hk 0 dX8_nextMap_136 rfl ?_
      obtain ⟨i53, s51, e52, h⟩ := stI_get h
      refine Z_iast hk (ha0.map) i53 dX8_nextMap_138 ?_
      refine Z_eqS e52 ?_
      obtain ⟨x54, e55, h⟩ := nm_get h
      refine Z_iinc hk 2 (v := x54) (lv' := [(5, .int x54), (7, .int x42), (0, .ref (eA (kZ K) a0)), (6, .int a6)]) dX8_nextMap_139 rfl (by rw [zc_iinc_1]; exact e55) (by decide) rfl ?_
      obtain ⟨x56, e57, h⟩ := nm_get h
      refine Z_iinc hk 3 (v := x56) (lv' := [(6, .int x56), (5, .int x54), (7, .int x42), (0, .ref (eA (kZ K) a0))]) dX8_nextMap_142 rfl (by rw [zc_iinc_m1]; exact e57) (by decide) rfl ?_
      refine Z_goto hk (tgt := 100) dX8_nextMap_145 (by decide) ?_
      refine Z_sub [3, 1, 0] rfl ?_
      exact ih a0 x54 x56 ha0 s51 h
set_option maxRecDepth 100000 in
set_option maxHeartbeats 4000000 in
theorem w_X8_nextMap_41 {K : zK} (hk : zIs K RX8 cX8_nextMap 8 wsX8_nextMap (some .boolean) r_X8_nextMap) {r0 : Int32} {τ0 : zST} (hq : zQ K (some (.int r0)) τ0) (F : Nat) : ∀ (n : Nat) (a0 : Nat) (a1 : Int32) (a2 : Int32) (a3 : Int32) (ha0 : atCanonCoteModel (kZ K) a0) (σ : zST), m_X8_nextMap_41 F n a0 a1 a2 a3 σ = some (r0, τ0) → Z K 0 0 41 [(0, .ref (eA (kZ K) a0)), (1, .int a1), (2, .int a2), (3, .int a3)] [] σ := by
  intro n
  induction n with
  | zero => intro a0 a1 a2 a3 ha0 σ h; cases h
  | succ n ih =>
    intro a0 a1 a2 a3 ha0 σ h
    rw [m_X8_nextMap_41] at h
    refine Z_aload_n hk 0 dX8_nextMap_41 rfl rfl ?_
    refine Z_get hk in_X8_nextMap_CanonCoteModel rfl ha0.cell.1 (ha0.cell.2 _) 3 (by decide) wd_X8_nextMap_1 rfl dX8_nextMap_42 ?_
    refine Z_iload_n hk 3 dX8_nextMap_45 rfl rfl ?_
    obtain ⟨i18, x16, e17, h⟩ := ldI_get h
    refine Z_iald hk (ha0.map) i18 dX8_nextMap_46 ?_
    refine Z_eqI e17 ?_
    refine Z_aload_n hk 0 dX8_nextMap_47 rfl rfl ?_
    refine Z_get hk in_X8_nextMap_CanonCoteModel rfl ha0.cell.1 (ha0.cell.2 _) 3 (by decide) wd_X8_nextMap_1 rfl dX8_nextMap_48 ?_
    refine Z_iload_n hk 2 dX8_nextMap_51 rfl rfl ?_
    obtain ⟨i21, x19, e20, h⟩ := ldI_get h
    refine Z_iald hk (ha0.map) i21 dX8_nextMap_52 ?_
    refine Z_eqI e20 ?_
    refine Z_icmp_ge hk (tgt := 62) dX8_nextMap_53 (by decide) (fun c22 => ?_) (fun c22 => ?_)
    · have h := if_yes h c22
      refine Z_aload_n hk 0 dX8_nextMap_62 rfl rfl ?_
      refine Z_get hk in_X8_nextMap_CanonCoteModel rfl ha0.cell.1 (ha0.cell.2 _) 3 (by decide) wd_X8_nextMap_1 rfl dX8_nextMap_63 ?_
      refine Z_iload_n hk 2 dX8_nextMap_66 rfl rfl ?_
      obtain ⟨i25, x23, e24, h⟩ := ldI_get h
      refine Z_iald hk (ha0.map) i25 dX8_nextMap_67 ?_
      refine Z_eqI e24 ?_
      refine Z_istore hk (lv' := [(4, .int x23), (0, .ref (eA (kZ K) a0)), (1, .int a1), (2, .int a2), (3, .int a3)]) dX8_nextMap_68 (by decide) rfl ?_
      refine Z_aload_n hk 1 dX8_nextMap_70 rfl rfl ?_
      refine Z_get hk in_X8_nextMap_CanonCoteModel rfl ha0.cell.1 (ha0.cell.2 _) 3 (by decide) wd_X8_nextMap_1 rfl dX8_nextMap_71 ?_
      refine Z_iload_n hk 3 dX8_nextMap_74 rfl rfl ?_
      refine Z_aload_n hk 1 dX8_nextMap_75 rfl rfl ?_
      refine Z_get hk in_X8_nextMap_CanonCoteModel rfl ha0.cell.1 (ha0.cell.2 _) 3 (by decide) wd_X8_nextMap_1 rfl dX8_nextMap_76 ?_
      refine Z_iload_n hk 4 dX8_nextMap_79 rfl rfl ?_
      obtain ⟨i28, x26, e27, h⟩ := ldI_get h
      refine Z_iald hk (ha0.map) i28 dX8_nextMap_80 ?_
      refine Z_eqI e27 ?_
      obtain ⟨i31, s29, e30, h⟩ := stI_get h
      refine Z_iast hk (ha0.map) i31 dX8_nextMap_81 ?_
      refine Z_eqS e30 ?_
      refine Z_aload_n hk 1 dX8_nextMap_82 rfl rfl ?_
      refine Z_get hk in_X8_nextMap_CanonCoteModel rfl ha0.cell.1 (ha0.cell.2 _) 3 (by decide) wd_X8_nextMap_1 rfl dX8_nextMap_83 ?_
      refine Z_iload_n hk 4 dX8_nextMap_86 rfl rfl ?_
      refine Z_iload hk 0 dX8_nextMap_87 rfl ?_
      obtain ⟨i34, s32, e33, h⟩ := stI_get h
      refine Z_iast hk (ha0.map) i34 dX8_nextMap_89 ?_
      refine Z_eqS e33 ?_
      refine Z_iload_n hk 3 dX8_nextMap_90 rfl rfl ?_
      refine Z_iconst hk dX8_nextMap_91 zc_iconst_1 ?_
      refine Z_iadd hk dX8_nextMap_92 ?_
      obtain ⟨x35, e36, h⟩ := nm_get h
      refine Z_eqI e36 ?_
      refine Z_istore hk (lv' := [(5, .int x35), (4, .int x23), (0, .ref (eA (kZ K) a0)), (1, .int a1), (2, .int a2), (3, .int a3)]) dX8_nextMap_93 (by decide) rfl ?_
      refine Z_iload_n hk 3 dX8_nextMap_95 rfl rfl ?_
      refine Z_iconst hk dX8_nextMap_96 zc_iconst_1 ?_
      refine Z_isub hk dX8_nextMap_97 ?_
      obtain ⟨x37, e38, h⟩ := nm_get h
      refine Z_eqI e38 ?_
      refine Z_istore hk (lv' := [(6, .int x37), (5, .int x35), (4, .int x23), (0, .ref (eA (kZ K) a0)), (1, .int a1), (2, .int a2), (3, .int a3)]) dX8_nextMap_98 (by decide) rfl ?_
      refine Z_sub [3, 1, 0] rfl ?_
      exact w_X8_nextMap_100 hk hq F F a0 x35 x37 ha0 s32 h
    · have h := if_no h c22
      obtain ⟨x39, e40, h⟩ := nm_get h
      refine Z_iinc hk 3 (v := x39) (lv' := [(3, .int x39), (0, .ref (eA (kZ K) a0)), (1, .int a1), (2, .int a2)]) dX8_nextMap_56 rfl (by rw [zc_iinc_m1]; exact e40) (by decide) rfl ?_
      refine Z_goto hk (tgt := 41) dX8_nextMap_59 (by decide) ?_
      refine Z_sub [1, 2, 3, 0] rfl ?_
      exact ih a0 a1 a2 x39 ha0 σ h
set_option maxRecDepth 100000 in
set_option maxHeartbeats 4000000 in
theorem w_X8_nextMap_31 {K : zK} (hk : zIs K RX8 cX8_nextMap 8 wsX8_nextMap (some .boolean) r_X8_nextMap) {r0 : Int32} {τ0 : zST} (hq : zQ K (some (.int r0)) τ0) (F : Nat) (a0 : Nat) (a1 : Int32) (a2 : Int32) (ha0 : atCanonCoteModel (kZ K) a0) (σ : zST) (h : m_X8_nextMap_31 F a0 a1 a2 σ = some (r0, τ0)) : Z K 0 0 31 [(0, .ref (eA (kZ K) a0)), (1, .int a1), (2, .int a2)] [] σ := by
  unfold m_X8_nextMap_31 at h
  refine Z_iload_n hk 2 dX8_nextMap_31 rfl rfl ?_
  refine Z_if_ge hk (tgt := 37) dX8_nextMap_32 (by decide) (fun c13 => ?_) (fun c13 => ?_)
  · have h := if_yes h c13
    refine Z_iload_n hk 1 dX8_nextMap_37 rfl rfl ?_
    refine Z_iconst hk dX8_nextMap_38 zc_iconst_1 ?_
    refine Z_isub hk dX8_nextMap_39 ?_
    obtain ⟨x14, e15, h⟩ := nm_get h
    refine Z_eqI e15 ?_
    refine Z_istore_n hk (lv' := [(3, .int x14), (0, .ref (eA (kZ K) a0)), (1, .int a1), (2, .int a2)]) dX8_nextMap_40 rfl (by decide) rfl ?_
    refine Z_sub [1, 2, 3, 0] rfl ?_
    exact w_X8_nextMap_41 hk hq F F a0 a1 a2 x14 ha0 σ h
  · have h := if_no h c13
    refine Z_iconst hk dX8_nextMap_35 zc_iconst_0 ?_
    cases h
    exact Z_zret hk (by decide) hq dX8_nextMap_36
set_option maxRecDepth 100000 in
set_option maxHeartbeats 4000000 in
theorem w_X8_nextMap_4 {K : zK} (hk : zIs K RX8 cX8_nextMap 8 wsX8_nextMap (some .boolean) r_X8_nextMap) {r0 : Int32} {τ0 : zST} (hq : zQ K (some (.int r0)) τ0) (F : Nat) : ∀ (n : Nat) (a0 : Nat) (a1 : Int32) (a2 : Int32) (ha0 : atCanonCoteModel (kZ K) a0) (σ : zST), m_X8_nextMap_4 F n a0 a1 a2 σ = some (r0, τ0) → Z K 0 0 4 [(0, .ref (eA (kZ K) a0)), (1, .int a1), (2, .int a2)] [] σ := by
  intro n
  induction n with
  | zero => intro a0 a1 a2 ha0 σ h; cases h
  | succ n ih =>
    intro a0 a1 a2 ha0 σ h
    rw [m_X8_nextMap_4] at h
    refine Z_iload_n hk 2 dX8_nextMap_4 rfl rfl ?_
    refine Z_if_lt hk (tgt := 31) dX8_nextMap_5 (by decide) (fun c3 => ?_) (fun c3 => ?_)
    · have h := if_yes h c3
      refine Z_sub [0, 1, 2] rfl ?_
      exact w_X8_nextMap_31 hk hq F a0 a1 a2 ha0 σ h
    · have h := if_no h c3
      refine Z_aload_n hk 0 dX8_nextMap_8 rfl rfl ?_
      refine Z_get hk in_X8_nextMap_CanonCoteModel rfl ha0.cell.1 (ha0.cell.2 _) 3 (by decide) wd_X8_nextMap_1 rfl dX8_nextMap_9 ?_
      refine Z_iload_n hk 2 dX8_nextMap_12 rfl rfl ?_
      obtain ⟨i6, x4, e5, h⟩ := ldI_get h
      refine Z_iald hk (ha0.map) i6 dX8_nextMap_13 ?_
      refine Z_eqI e5 ?_
      refine Z_aload_n hk 0 dX8_nextMap_14 rfl rfl ?_
      refine Z_get hk in_X8_nextMap_CanonCoteModel rfl ha0.cell.1 (ha0.cell.2 _) 3 (by decide) wd_X8_nextMap_1 rfl dX8_nextMap_15 ?_
      refine Z_iload_n hk 2 dX8_nextMap_18 rfl rfl ?_
      refine Z_iconst hk dX8_nextMap_19 zc_iconst_1 ?_
      refine Z_iadd hk dX8_nextMap_20 ?_
      obtain ⟨i9, x7, e8, h⟩ := ldI_get h
      refine Z_iald hk (ha0.map) i9 dX8_nextMap_21 ?_
      refine Z_eqI e8 ?_
      refine Z_icmp_le hk (tgt := 31) dX8_nextMap_22 (by decide) (fun c10 => ?_) (fun c10 => ?_)
      · have h := if_yes h c10
        refine Z_sub [0, 1, 2] rfl ?_
        exact w_X8_nextMap_31 hk hq F a0 a1 a2 ha0 σ h
      · have h := if_no h c10
        obtain ⟨x11, e12, h⟩ := nm_get h
        refine Z_iinc hk 2 (v := x11) (lv' := [(2, .int x11), (0, .ref (eA (kZ K) a0)), (1, .int a1)]) dX8_nextMap_25 rfl (by rw [zc_iinc_m1]; exact e12) (by decide) rfl ?_
        refine Z_goto hk (tgt := 4) dX8_nextMap_28 (by decide) ?_
        refine Z_sub [1, 2, 0] rfl ?_
        exact ih a0 a1 x11 ha0 σ h
set_option maxRecDepth 100000 in
set_option maxHeartbeats 4000000 in
theorem w_X8_nextMap {K : zK} (hk : zIs K RX8 cX8_nextMap 8 wsX8_nextMap (some .boolean) r_X8_nextMap) {r0 : Int32} {τ0 : zST} (hq : zQ K (some (.int r0)) τ0) (F : Nat) (a0 : Nat) (a1 : Int32) (ha0 : atCanonCoteModel (kZ K) a0) (σ : zST) (h : m_X8_nextMap F a0 a1 σ = some (r0, τ0)) : Z K 0 0 0 [(0, .ref (eA (kZ K) a0)), (1, .int a1)] [] σ := by
  unfold m_X8_nextMap at h
  refine Z_iload_n hk 1 dX8_nextMap_0 rfl rfl ?_
  refine Z_iconst hk dX8_nextMap_1 zc_iconst_2 ?_
  refine Z_isub hk dX8_nextMap_2 ?_
  obtain ⟨x1, e2, h⟩ := nm_get h
  refine Z_eqI e2 ?_
  refine Z_istore_n hk (lv' := [(2, .int x1), (0, .ref (eA (kZ K) a0)), (1, .int a1)]) dX8_nextMap_3 rfl (by decide) rfl ?_
  refine Z_sub [1, 2, 0] rfl ?_
  exact w_X8_nextMap_4 hk hq F F a0 a1 x1 ha0 σ h
theorem c_X8_nextMap {l : Launch} {E : zE} (hL : eL E) (hJ : eJ E) (F : Nat) (a0 : Nat) (a1 : Int32) (ha0 : atCanonCoteModel E a0) (σ : zST) {r0 : Int32} {τ0 : zST} (h : m_X8_nextMap F a0 a1 σ = some (r0, τ0)) : Ct l yX8_nextMap wsX8_nextMap r_X8_nextMap E [.ref (eA E a0), .int a1] σ (some (.int r0)) τ0 := by
  refine Ct_of (by decide) rfl hL hJ (Nat.le_of_ble_eq_true rfl) (fun K hE hl hk hq => ?_)
  subst hE
  exact w_X8_nextMap hk hq F a0 a1 ha0 σ h
end

-- CanonCoteModel.bitOf (II)I
section
theorem dX8_bitOf_0 : decode cX8_bitOf 0 = .ok (.iload_n 0, 1) := by decide +kernel
theorem dX8_bitOf_1 : decode cX8_bitOf 1 = .ok (.iload_n 1, 1) := by decide +kernel
theorem dX8_bitOf_2 : decode cX8_bitOf 2 = .ok (.if_icmp .ge 7, 3) := by decide +kernel
theorem dX8_bitOf_5 : decode cX8_bitOf 5 = .ok (.iload_n 0, 1) := by decide +kernel
theorem dX8_bitOf_6 : decode cX8_bitOf 6 = .ok (.goto 4, 3) := by decide +kernel
theorem dX8_bitOf_9 : decode cX8_bitOf 9 = .ok (.iload_n 1, 1) := by decide +kernel
theorem dX8_bitOf_10 : decode cX8_bitOf 10 = .ok (.istore_n 2, 1) := by decide +kernel
theorem dX8_bitOf_11 : decode cX8_bitOf 11 = .ok (.iload_n 0, 1) := by decide +kernel
theorem dX8_bitOf_12 : decode cX8_bitOf 12 = .ok (.iload_n 1, 1) := by decide +kernel
theorem dX8_bitOf_13 : decode cX8_bitOf 13 = .ok (.if_icmp .ge 7, 3) := by decide +kernel
theorem dX8_bitOf_16 : decode cX8_bitOf 16 = .ok (.iload_n 1, 1) := by decide +kernel
theorem dX8_bitOf_17 : decode cX8_bitOf 17 = .ok (.goto 4, 3) := by decide +kernel
theorem dX8_bitOf_20 : decode cX8_bitOf 20 = .ok (.iload_n 0, 1) := by decide +kernel
theorem dX8_bitOf_21 : decode cX8_bitOf 21 = .ok (.istore_n 3, 1) := by decide +kernel
theorem dX8_bitOf_22 : decode cX8_bitOf 22 = .ok (.bipush 27, 2) := by decide +kernel
theorem dX8_bitOf_24 : decode cX8_bitOf 24 = .ok (.iload_n 2, 1) := by decide +kernel
theorem dX8_bitOf_25 : decode cX8_bitOf 25 = .ok (.bipush 15, 2) := by decide +kernel
theorem dX8_bitOf_27 : decode cX8_bitOf 27 = .ok (.iload_n 2, 1) := by decide +kernel
theorem dX8_bitOf_28 : decode cX8_bitOf 28 = .ok (.isub, 1) := by decide +kernel
theorem dX8_bitOf_29 : decode cX8_bitOf 29 = .ok (.imul, 1) := by decide +kernel
theorem dX8_bitOf_30 : decode cX8_bitOf 30 = .ok (.iconst 2, 1) := by decide +kernel
theorem dX8_bitOf_31 : decode cX8_bitOf 31 = .ok (.idiv, 1) := by decide +kernel
theorem dX8_bitOf_32 : decode cX8_bitOf 32 = .ok (.isub, 1) := by decide +kernel
theorem dX8_bitOf_33 : decode cX8_bitOf 33 = .ok (.iload_n 3, 1) := by decide +kernel
theorem dX8_bitOf_34 : decode cX8_bitOf 34 = .ok (.iload_n 2, 1) := by decide +kernel
theorem dX8_bitOf_35 : decode cX8_bitOf 35 = .ok (.isub, 1) := by decide +kernel
theorem dX8_bitOf_36 : decode cX8_bitOf 36 = .ok (.iconst 1, 1) := by decide +kernel
theorem dX8_bitOf_37 : decode cX8_bitOf 37 = .ok (.isub, 1) := by decide +kernel
theorem dX8_bitOf_38 : decode cX8_bitOf 38 = .ok (.isub, 1) := by decide +kernel
theorem dX8_bitOf_39 : decode cX8_bitOf 39 = .ok (.ireturn, 1) := by decide +kernel
def r_X8_bitOf : Room := { frames := 1, cells := 0, slots := 0, locals := 12 }
set_option maxRecDepth 100000 in
set_option maxHeartbeats 4000000 in
theorem w_X8_bitOf_21 {K : zK} (hk : zIs K RX8 cX8_bitOf 4 wsX8_bitOf (some .int) r_X8_bitOf) {r0 : Int32} {τ0 : zST} (hq : zQ K (some (.int r0)) τ0) (F : Nat) (a2 : Int32) (t0 : Int32) (σ : zST) (h : m_X8_bitOf_21 F a2 t0 σ = some (r0, τ0)) : Z K 0 0 21 [(2, .int a2)] [.int t0] σ := by
  unfold m_X8_bitOf_21 at h
  refine Z_istore_n hk (lv' := [(3, .int t0), (2, .int a2)]) dX8_bitOf_21 rfl (by decide) rfl ?_
  refine Z_bipush hk dX8_bitOf_22 zc_bipush_27 ?_
  refine Z_iload_n hk 1 dX8_bitOf_24 rfl rfl ?_
  refine Z_bipush hk dX8_bitOf_25 zc_bipush_15 ?_
  refine Z_iload_n hk 1 dX8_bitOf_27 rfl rfl ?_
  refine Z_isub hk dX8_bitOf_28 ?_
  refine Z_imul hk dX8_bitOf_29 ?_
  refine Z_iconst hk dX8_bitOf_30 zc_iconst_2 ?_
  refine Z_idiv hk dX8_bitOf_31 (by decide) ?_
  refine Z_isub hk dX8_bitOf_32 ?_
  refine Z_iload_n hk 0 dX8_bitOf_33 rfl rfl ?_
  refine Z_iload_n hk 1 dX8_bitOf_34 rfl rfl ?_
  refine Z_isub hk dX8_bitOf_35 ?_
  refine Z_iconst hk dX8_bitOf_36 zc_iconst_1 ?_
  refine Z_isub hk dX8_bitOf_37 ?_
  refine Z_isub hk dX8_bitOf_38 ?_
  cases h
  exact Z_iret hk hq dX8_bitOf_39
set_option maxRecDepth 100000 in
set_option maxHeartbeats 4000000 in
theorem w_X8_bitOf_10 {K : zK} (hk : zIs K RX8 cX8_bitOf 4 wsX8_bitOf (some .int) r_X8_bitOf) {r0 : Int32} {τ0 : zST} (hq : zQ K (some (.int r0)) τ0) (F : Nat) (a0 : Int32) (a1 : Int32) (t0 : Int32) (σ : zST) (h : m_X8_bitOf_10 F a0 a1 t0 σ = some (r0, τ0)) : Z K 0 0 10 [(0, .int a0), (1, .int a1)] [.int t0] σ := by
  unfold m_X8_bitOf_10 at h
  refine Z_istore_n hk (lv' := [(2, .int t0), (0, .int a0), (1, .int a1)]) dX8_bitOf_10 rfl (by decide) rfl ?_
  refine Z_iload_n hk 1 dX8_bitOf_11 rfl rfl ?_
  refine Z_iload_n hk 2 dX8_bitOf_12 rfl rfl ?_
  refine Z_icmp_ge hk (tgt := 20) dX8_bitOf_13 (by decide) (fun c2 => ?_) (fun c2 => ?_)
  · have h := if_yes h c2
    refine Z_iload_n hk 1 dX8_bitOf_20 rfl rfl ?_
    refine Z_sub [0] rfl ?_
    exact w_X8_bitOf_21 hk hq F t0 a0 σ h
  · have h := if_no h c2
    refine Z_iload_n hk 2 dX8_bitOf_16 rfl rfl ?_
    refine Z_goto hk (tgt := 21) dX8_bitOf_17 (by decide) ?_
    refine Z_sub [0] rfl ?_
    exact w_X8_bitOf_21 hk hq F t0 a1 σ h
set_option maxRecDepth 100000 in
set_option maxHeartbeats 4000000 in
theorem w_X8_bitOf {K : zK} (hk : zIs K RX8 cX8_bitOf 4 wsX8_bitOf (some .int) r_X8_bitOf) {r0 : Int32} {τ0 : zST} (hq : zQ K (some (.int r0)) τ0) (F : Nat) (a0 : Int32) (a1 : Int32) (σ : zST) (h : m_X8_bitOf F a0 a1 σ = some (r0, τ0)) : Z K 0 0 0 [(0, .int a0), (1, .int a1)] [] σ := by
  unfold m_X8_bitOf at h
  refine Z_iload_n hk 0 dX8_bitOf_0 rfl rfl ?_
  refine Z_iload_n hk 1 dX8_bitOf_1 rfl rfl ?_
  refine Z_icmp_ge hk (tgt := 9) dX8_bitOf_2 (by decide) (fun c1 => ?_) (fun c1 => ?_)
  · have h := if_yes h c1
    refine Z_iload_n hk 1 dX8_bitOf_9 rfl rfl ?_
    refine Z_sub [0, 1] rfl ?_
    exact w_X8_bitOf_10 hk hq F a0 a1 a1 σ h
  · have h := if_no h c1
    refine Z_iload_n hk 0 dX8_bitOf_5 rfl rfl ?_
    refine Z_goto hk (tgt := 10) dX8_bitOf_6 (by decide) ?_
    refine Z_sub [0, 1] rfl ?_
    exact w_X8_bitOf_10 hk hq F a0 a1 a0 σ h
theorem c_X8_bitOf {l : Launch} {E : zE} (hL : eL E) (hJ : eJ E) (F : Nat) (a0 : Int32) (a1 : Int32) (σ : zST) {r0 : Int32} {τ0 : zST} (h : m_X8_bitOf F a0 a1 σ = some (r0, τ0)) : Ct l yX8_bitOf wsX8_bitOf r_X8_bitOf E [.int a0, .int a1] σ (some (.int r0)) τ0 := by
  refine Ct_of (by decide) rfl hL hJ (Nat.le_of_ble_eq_true rfl) (fun K hE hl hk hq => ?_)
  subst hE
  exact w_X8_bitOf hk hq F a0 a1 σ h
end

-- CanonCoteModel.codeOf (I)J
section
theorem dX8_codeOf_0 : decode cX8_codeOf 0 = .ok (.lconst 0, 1) := by decide +kernel
theorem dX8_codeOf_1 : decode cX8_codeOf 1 = .ok (.lstore_n 2, 1) := by decide +kernel
theorem dX8_codeOf_2 : decode cX8_codeOf 2 = .ok (.lconst 0, 1) := by decide +kernel
theorem dX8_codeOf_3 : decode cX8_codeOf 3 = .ok (.lstore 4, 2) := by decide +kernel
theorem dX8_codeOf_5 : decode cX8_codeOf 5 = .ok (.iconst 0, 1) := by decide +kernel
theorem dX8_codeOf_6 : decode cX8_codeOf 6 = .ok (.istore 6, 2) := by decide +kernel
theorem dX8_codeOf_8 : decode cX8_codeOf 8 = .ok (.iload 6, 2) := by decide +kernel
theorem dX8_codeOf_10 : decode cX8_codeOf 10 = .ok (.aload_n 0, 1) := by decide +kernel
theorem dX8_codeOf_11 : decode cX8_codeOf 11 = .ok (.getfield 7, 3) := by decide +kernel
theorem dX8_codeOf_14 : decode cX8_codeOf 14 = .ok (.iload_n 1, 1) := by decide +kernel
theorem dX8_codeOf_15 : decode cX8_codeOf 15 = .ok (.iaload, 1) := by decide +kernel
theorem dX8_codeOf_16 : decode cX8_codeOf 16 = .ok (.if_icmp .ge 94, 3) := by decide +kernel
theorem dX8_codeOf_19 : decode cX8_codeOf 19 = .ok (.lload 4, 2) := by decide +kernel
theorem dX8_codeOf_21 : decode cX8_codeOf 21 = .ok (.aload_n 0, 1) := by decide +kernel
theorem dX8_codeOf_22 : decode cX8_codeOf 22 = .ok (.getfield 16, 3) := by decide +kernel
theorem dX8_codeOf_25 : decode cX8_codeOf 25 = .ok (.bipush 8, 2) := by decide +kernel
theorem dX8_codeOf_27 : decode cX8_codeOf 27 = .ok (.iload_n 1, 1) := by decide +kernel
theorem dX8_codeOf_28 : decode cX8_codeOf 28 = .ok (.imul, 1) := by decide +kernel
theorem dX8_codeOf_29 : decode cX8_codeOf 29 = .ok (.iload 6, 2) := by decide +kernel
theorem dX8_codeOf_31 : decode cX8_codeOf 31 = .ok (.iadd, 1) := by decide +kernel
theorem dX8_codeOf_32 : decode cX8_codeOf 32 = .ok (.iaload, 1) := by decide +kernel
theorem dX8_codeOf_33 : decode cX8_codeOf 33 = .ok (.i2l, 1) := by decide +kernel
theorem dX8_codeOf_34 : decode cX8_codeOf 34 = .ok (.iconst 3, 1) := by decide +kernel
theorem dX8_codeOf_35 : decode cX8_codeOf 35 = .ok (.bipush 7, 2) := by decide +kernel
theorem dX8_codeOf_37 : decode cX8_codeOf 37 = .ok (.aload_n 0, 1) := by decide +kernel
theorem dX8_codeOf_38 : decode cX8_codeOf 38 = .ok (.getfield 19, 3) := by decide +kernel
theorem dX8_codeOf_41 : decode cX8_codeOf 41 = .ok (.iload 6, 2) := by decide +kernel
theorem dX8_codeOf_43 : decode cX8_codeOf 43 = .ok (.iaload, 1) := by decide +kernel
theorem dX8_codeOf_44 : decode cX8_codeOf 44 = .ok (.isub, 1) := by decide +kernel
theorem dX8_codeOf_45 : decode cX8_codeOf 45 = .ok (.imul, 1) := by decide +kernel
theorem dX8_codeOf_46 : decode cX8_codeOf 46 = .ok (.lshl, 1) := by decide +kernel
theorem dX8_codeOf_47 : decode cX8_codeOf 47 = .ok (.lor, 1) := by decide +kernel
theorem dX8_codeOf_48 : decode cX8_codeOf 48 = .ok (.lstore 4, 2) := by decide +kernel
theorem dX8_codeOf_50 : decode cX8_codeOf 50 = .ok (.iconst 0, 1) := by decide +kernel
theorem dX8_codeOf_51 : decode cX8_codeOf 51 = .ok (.istore 7, 2) := by decide +kernel
theorem dX8_codeOf_53 : decode cX8_codeOf 53 = .ok (.iload 7, 2) := by decide +kernel
theorem dX8_codeOf_55 : decode cX8_codeOf 55 = .ok (.iload 6, 2) := by decide +kernel
theorem dX8_codeOf_57 : decode cX8_codeOf 57 = .ok (.if_icmp .ge 47, 3) := by decide +kernel
theorem dX8_codeOf_60 : decode cX8_codeOf 60 = .ok (.lload_n 2, 1) := by decide +kernel
theorem dX8_codeOf_61 : decode cX8_codeOf 61 = .ok (.aload_n 0, 1) := by decide +kernel
theorem dX8_codeOf_62 : decode cX8_codeOf 62 = .ok (.iload_n 1, 1) := by decide +kernel
theorem dX8_codeOf_63 : decode cX8_codeOf 63 = .ok (.iload 6, 2) := by decide +kernel
theorem dX8_codeOf_65 : decode cX8_codeOf 65 = .ok (.iload 7, 2) := by decide +kernel
theorem dX8_codeOf_67 : decode cX8_codeOf 67 = .ok (.invokevirtual 70, 3) := by decide +kernel
theorem dX8_codeOf_70 : decode cX8_codeOf 70 = .ok (.ifCond .eq 25, 3) := by decide +kernel
theorem dX8_codeOf_73 : decode cX8_codeOf 73 = .ok (.lconst 1, 1) := by decide +kernel
theorem dX8_codeOf_74 : decode cX8_codeOf 74 = .ok (.aload_n 0, 1) := by decide +kernel
theorem dX8_codeOf_75 : decode cX8_codeOf 75 = .ok (.getfield 19, 3) := by decide +kernel
theorem dX8_codeOf_78 : decode cX8_codeOf 78 = .ok (.iload 6, 2) := by decide +kernel
theorem dX8_codeOf_80 : decode cX8_codeOf 80 = .ok (.iaload, 1) := by decide +kernel
theorem dX8_codeOf_81 : decode cX8_codeOf 81 = .ok (.aload_n 0, 1) := by decide +kernel
theorem dX8_codeOf_82 : decode cX8_codeOf 82 = .ok (.getfield 19, 3) := by decide +kernel
theorem dX8_codeOf_85 : decode cX8_codeOf 85 = .ok (.iload 7, 2) := by decide +kernel
theorem dX8_codeOf_87 : decode cX8_codeOf 87 = .ok (.iaload, 1) := by decide +kernel
theorem dX8_codeOf_88 : decode cX8_codeOf 88 = .ok (.invokestatic 108, 3) := by decide +kernel
theorem dX8_codeOf_91 : decode cX8_codeOf 91 = .ok (.lshl, 1) := by decide +kernel
theorem dX8_codeOf_92 : decode cX8_codeOf 92 = .ok (.goto 4, 3) := by decide +kernel
theorem dX8_codeOf_95 : decode cX8_codeOf 95 = .ok (.lconst 0, 1) := by decide +kernel
theorem dX8_codeOf_96 : decode cX8_codeOf 96 = .ok (.lor, 1) := by decide +kernel
theorem dX8_codeOf_97 : decode cX8_codeOf 97 = .ok (.lstore_n 2, 1) := by decide +kernel
theorem dX8_codeOf_98 : decode cX8_codeOf 98 = .ok (.iinc 7 1, 3) := by decide +kernel
theorem dX8_codeOf_101 : decode cX8_codeOf 101 = .ok (.goto (-48), 3) := by decide +kernel
theorem dX8_codeOf_104 : decode cX8_codeOf 104 = .ok (.iinc 6 1, 3) := by decide +kernel
theorem dX8_codeOf_107 : decode cX8_codeOf 107 = .ok (.goto (-99), 3) := by decide +kernel
theorem dX8_codeOf_110 : decode cX8_codeOf 110 = .ok (.aload_n 0, 1) := by decide +kernel
theorem dX8_codeOf_111 : decode cX8_codeOf 111 = .ok (.getfield 7, 3) := by decide +kernel
theorem dX8_codeOf_114 : decode cX8_codeOf 114 = .ok (.iload_n 1, 1) := by decide +kernel
theorem dX8_codeOf_115 : decode cX8_codeOf 115 = .ok (.iaload, 1) := by decide +kernel
theorem dX8_codeOf_116 : decode cX8_codeOf 116 = .ok (.i2l, 1) := by decide +kernel
theorem dX8_codeOf_117 : decode cX8_codeOf 117 = .ok (.bipush 52, 2) := by decide +kernel
theorem dX8_codeOf_119 : decode cX8_codeOf 119 = .ok (.lshl, 1) := by decide +kernel
theorem dX8_codeOf_120 : decode cX8_codeOf 120 = .ok (.lload 4, 2) := by decide +kernel
theorem dX8_codeOf_122 : decode cX8_codeOf 122 = .ok (.bipush 28, 2) := by decide +kernel
theorem dX8_codeOf_124 : decode cX8_codeOf 124 = .ok (.lshl, 1) := by decide +kernel
theorem dX8_codeOf_125 : decode cX8_codeOf 125 = .ok (.lor, 1) := by decide +kernel
theorem dX8_codeOf_126 : decode cX8_codeOf 126 = .ok (.lload_n 2, 1) := by decide +kernel
theorem dX8_codeOf_127 : decode cX8_codeOf 127 = .ok (.lor, 1) := by decide +kernel
theorem dX8_codeOf_128 : decode cX8_codeOf 128 = .ok (.lreturn, 1) := by decide +kernel
set_option maxRecDepth 20000 in
theorem ggX8_codeOf_X8_hasEdge : GoodIn wsX8_codeOf wsX8_hasEdge := goodIn_r _ [8, 9, 13, 14, 15, 16, 17, 18, 19, 20, 21, 22, 23, 24, 25, 26, 27, 28, 29] (by decide +kernel) (by decide +kernel)
set_option maxRecDepth 20000 in
theorem gX8_codeOf_X8_hasEdge : GoodIn wsX8_codeOf (wsV RX8 70 RX8 yX8_hasEdge wsX8_hasEdge) := goodIn_app (goodIn_of _ (by decide +kernel)) ggX8_codeOf_X8_hasEdge
set_option maxRecDepth 20000 in
theorem ggX8_codeOf_X8_bitOf : GoodIn wsX8_codeOf wsX8_bitOf := goodIn_r _ [12] (by decide +kernel) (by decide +kernel)
set_option maxRecDepth 20000 in
theorem gX8_codeOf_X8_bitOf : GoodIn wsX8_codeOf (va_wsS RX8 108 yX8_bitOf wsX8_bitOf) := goodIn_app (goodIn_of _ (by decide +kernel)) ggX8_codeOf_X8_bitOf
theorem in_X8_codeOf_CanonCoteModel : ∀ w ∈ u_ws RX8 TX8 17, w ∈ wsX8_codeOf := by decide +kernel
theorem wd_X8_codeOf_1 : Cond.fieldLink RX8 7 (TX8 0).1 (TX8 0).2.1 (TX8 0).2.2.1 ∈ wsX8_codeOf := by decide +kernel
theorem wd_X8_codeOf_2 : Cond.fieldLink RX8 16 (TX8 2).1 (TX8 2).2.1 (TX8 2).2.2.1 ∈ wsX8_codeOf := by decide +kernel
theorem wd_X8_codeOf_3 : Cond.fieldLink RX8 19 (TX8 3).1 (TX8 3).2.1 (TX8 3).2.2.1 ∈ wsX8_codeOf := by decide +kernel
def r_X8_codeOf : Room := { frames := 2, cells := 0, slots := 0, locals := 35 }
set_option maxRecDepth 100000 in
set_option maxHeartbeats 4000000 in
theorem w_X8_codeOf_96 {K : zK} (hk : zIs K RX8 cX8_codeOf 8 wsX8_codeOf (some .long) r_X8_codeOf) {r0 : Int64} {τ0 : zST} (hq : zQ K (some (.long r0)) τ0) (F : Nat) (k8 : Nat → Int32 → Int64 → Int64 → Int32 → zST → Option (Int64 × zST)) (hk8 : ∀ (a0 : Nat) (a1 : Int32) (a2 : Int64) (a4 : Int64) (a6 : Int32) (ha0 : atCanonCoteModel (kZ K) a0) (σ : zST), k8 a0 a1 a2 a4 a6 σ = some (r0, τ0) → Z K 0 0 8 [(0, .ref (eA (kZ K) a0)), (1, .int a1), (2, .long a2), (4, .long a4), (6, .int a6)] [] σ) (k53 : Nat → Int32 → Int64 → Int64 → Int32 → Int32 → zST → Option (Int64 × zST)) (hk53 : ∀ (a0 : Nat) (a1 : Int32) (a2 : Int64) (a4 : Int64) (a6 : Int32) (a7 : Int32) (ha0 : atCanonCoteModel (kZ K) a0) (σ : zST), k53 a0 a1 a2 a4 a6 a7 σ = some (r0, τ0) → Z K 0 0 53 [(0, .ref (eA (kZ K) a0)), (1, .int a1), (2, .long a2), (4, .long a4), (6, .int a6), (7, .int a7)] [] σ) (a0 : Nat) (a1 : Int32) (a4 : Int64) (a6 : Int32) (a7 : Int32) (t0 : Int64) (t1 : Int64) (ha0 : atCanonCoteModel (kZ K) a0) (σ : zST) (h : m_X8_codeOf_96 F k8 k53 a0 a1 a4 a6 a7 t0 t1 σ = some (r0, τ0)) : Z K 0 0 96 [(0, .ref (eA (kZ K) a0)), (1, .int a1), (4, .long a4), (6, .int a6), (7, .int a7)] [.long t0, .long t1] σ := by
  unfold m_X8_codeOf_96 at h
  refine Z_lor hk dX8_codeOf_96 ?_
  obtain ⟨x32, e33, h⟩ := nm_get h
  refine Z_eqL e33 ?_
  refine Z_lstore_n hk (lv' := [(2, .long x32), (0, .ref (eA (kZ K) a0)), (1, .int a1), (4, .long a4), (6, .int a6), (7, .int a7)]) dX8_codeOf_97 rfl (by decide) rfl ?_
  obtain ⟨x34, e35, h⟩ := nm_get h
  refine Z_iinc hk 5 (v := x34) (lv' := [(7, .int x34), (2, .long x32), (0, .ref (eA (kZ K) a0)), (1, .int a1), (4, .long a4), (6, .int a6)]) dX8_codeOf_98 rfl (by rw [zc_iinc_1]; exact e35) (by decide) rfl ?_
  refine Z_goto hk (tgt := 53) dX8_codeOf_101 (by decide) ?_
  refine Z_sub [2, 3, 1, 4, 5, 0] rfl ?_
  exact hk53 a0 a1 x32 a4 a6 x34 ha0 σ h
set_option maxRecDepth 100000 in
set_option maxHeartbeats 4000000 in
theorem w_X8_codeOf_53 {K : zK} (hk : zIs K RX8 cX8_codeOf 8 wsX8_codeOf (some .long) r_X8_codeOf) {r0 : Int64} {τ0 : zST} (hq : zQ K (some (.long r0)) τ0) (F : Nat) (k8 : Nat → Int32 → Int64 → Int64 → Int32 → zST → Option (Int64 × zST)) (hk8 : ∀ (a0 : Nat) (a1 : Int32) (a2 : Int64) (a4 : Int64) (a6 : Int32) (ha0 : atCanonCoteModel (kZ K) a0) (σ : zST), k8 a0 a1 a2 a4 a6 σ = some (r0, τ0) → Z K 0 0 8 [(0, .ref (eA (kZ K) a0)), (1, .int a1), (2, .long a2), (4, .long a4), (6, .int a6)] [] σ) : ∀ (n : Nat) (a0 : Nat) (a1 : Int32) (a2 : Int64) (a4 : Int64) (a6 : Int32) (a7 : Int32) (ha0 : atCanonCoteModel (kZ K) a0) (σ : zST), m_X8_codeOf_53 F k8 n a0 a1 a2 a4 a6 a7 σ = some (r0, τ0) → Z K 0 0 53 [(0, .ref (eA (kZ K) a0)), (1, .int a1), (2, .long a2), (4, .long a4), (6, .int a6), (7, .int a7)] [] σ := by
  intro n
  induction n with
  | zero => intro a0 a1 a2 a4 a6 a7 ha0 σ h; cases h
  | succ n ih =>
    intro a0 a1 a2 a4 a6 a7 ha0 σ h
    rw [m_X8_codeOf_53] at h
    refine Z_iload hk 5 dX8_codeOf_53 rfl ?_
    refine Z_iload hk 4 dX8_codeOf_55 rfl ?_
    refine Z_icmp_ge hk (tgt := 104) dX8_codeOf_57 (by decide) (fun c16 => ?_) (fun c16 => ?_)
    · have h := if_yes h c16
      obtain ⟨x17, e18, h⟩ := nm_get h
      refine Z_iinc hk 4 (v := x17) (lv' := [(6, .int x17), (0, .ref (eA (kZ K) a0)), (1, .int a1), (2, .long a2), (4, .long a4), (7, .int a7)]) dX8_codeOf_104 rfl (by rw [zc_iinc_1]; exact e18) (by decide) rfl ?_
      refine Z_goto hk (tgt := 8) dX8_codeOf_107 (by decide) ?_
      refine Z_sub [1, 2, 3, 4, 0] rfl ?_
      exact hk8 a0 a1 a2 a4 x17 ha0 σ h
    · have h := if_no h c16
      refine Z_lload_n hk 2 dX8_codeOf_60 rfl rfl ?_
      refine Z_aload_n hk 0 dX8_codeOf_61 rfl rfl ?_
      refine Z_iload_n hk 1 dX8_codeOf_62 rfl rfl ?_
      refine Z_iload hk 4 dX8_codeOf_63 rfl ?_
      refine Z_iload hk 5 dX8_codeOf_65 rfl ?_
      obtain ⟨x19, s20, h21, h⟩ := bd_ok h
      refine Z_callV 3 hk [.int a1, .int a6, .int a7] (c_X8_hasEdge hk.loc hk.inj F a0 a1 a6 a7 ha0 σ h21) gX8_codeOf_X8_hasEdge rfl ⟨rfl, rfl⟩ (by decide +kernel) ⟨Nat.le_of_ble_eq_true rfl, Nat.le_of_ble_eq_true rfl⟩ ha0.cell.1 (ha0.cell.2 _) rfl rfl rfl (Nat.le_of_ble_eq_true rfl) ⟨Nat.zero_le _, Nat.zero_le _⟩ dX8_codeOf_67 ?_
      show Z K 0 0 70 [(0, .ref (eA (kZ K) a0)), (1, .int a1), (2, .long a2), (4, .long a4), (6, .int a6), (7, .int a7)] [.int x19, .long a2] s20
      refine Z_if_eq hk (tgt := 95) dX8_codeOf_70 (by decide) (fun c22 => ?_) (fun c22 => ?_)
      · have h := if_yes h c22
        refine Z_lconst hk dX8_codeOf_95 (v := 0) rfl ?_
        refine Z_sub [0, 1, 3, 4, 5] rfl ?_
        exact w_X8_codeOf_96 hk hq F k8 hk8 (m_X8_codeOf_53 F k8 n) ih a0 a1 a4 a6 a7 0 a2 ha0 s20 h
      · have h := if_no h c22
        refine Z_lconst hk dX8_codeOf_73 (v := 1) rfl ?_
        refine Z_aload_n hk 0 dX8_codeOf_74 rfl rfl ?_
        refine Z_get hk in_X8_codeOf_CanonCoteModel rfl ha0.cell.1 (ha0.cell.2 _) 3 (by decide) wd_X8_codeOf_3 rfl dX8_codeOf_75 ?_
        refine Z_iload hk 4 dX8_codeOf_78 rfl ?_
        obtain ⟨i25, x23, e24, h⟩ := ldI_get h
        refine Z_iald hk (ha0.map) i25 dX8_codeOf_80 ?_
        refine Z_eqI e24 ?_
        refine Z_aload_n hk 0 dX8_codeOf_81 rfl rfl ?_
        refine Z_get hk in_X8_codeOf_CanonCoteModel rfl ha0.cell.1 (ha0.cell.2 _) 3 (by decide) wd_X8_codeOf_3 rfl dX8_codeOf_82 ?_
        refine Z_iload hk 5 dX8_codeOf_85 rfl ?_
        obtain ⟨i28, x26, e27, h⟩ := ldI_get h
        refine Z_iald hk (ha0.map) i28 dX8_codeOf_87 ?_
        refine Z_eqI e27 ?_
        obtain ⟨x29, s30, h31, h⟩ := bd_ok h
        refine Z_callT 2 hk [.int x23, .int x26] (c_X8_bitOf hk.loc hk.inj F x23 x26 s20 h31) gX8_codeOf_X8_bitOf rfl ⟨rfl, rfl⟩ (by decide +kernel) ⟨Nat.le_of_ble_eq_true rfl, Nat.le_of_ble_eq_true rfl⟩ rfl rfl (Nat.le_of_ble_eq_true rfl) ⟨Nat.zero_le _, Nat.zero_le _⟩ dX8_codeOf_88 ?_
        show Z K 0 0 91 [(0, .ref (eA (kZ K) a0)), (1, .int a1), (2, .long a2), (4, .long a4), (6, .int a6), (7, .int a7)] [.int x29, .long 1, .long a2] s30
        refine Z_lshl hk dX8_codeOf_91 ?_
        refine Z_goto hk (tgt := 96) dX8_codeOf_92 (by decide) ?_
        refine Z_sub [0, 1, 3, 4, 5] rfl ?_
        exact w_X8_codeOf_96 hk hq F k8 hk8 (m_X8_codeOf_53 F k8 n) ih a0 a1 a4 a6 a7 (jlshl 1 x29) a2 ha0 s30 h
set_option maxRecDepth 100000 in
set_option maxHeartbeats 4000000 in
theorem w_X8_codeOf_8 {K : zK} (hk : zIs K RX8 cX8_codeOf 8 wsX8_codeOf (some .long) r_X8_codeOf) {r0 : Int64} {τ0 : zST} (hq : zQ K (some (.long r0)) τ0) (F : Nat) : ∀ (n : Nat) (a0 : Nat) (a1 : Int32) (a2 : Int64) (a4 : Int64) (a6 : Int32) (ha0 : atCanonCoteModel (kZ K) a0) (σ : zST), m_X8_codeOf_8 F n a0 a1 a2 a4 a6 σ = some (r0, τ0) → Z K 0 0 8 [(0, .ref (eA (kZ K) a0)), (1, .int a1), (2, .long a2), (4, .long a4), (6, .int a6)] [] σ := by
  intro n
  induction n with
  | zero => intro a0 a1 a2 a4 a6 ha0 σ h; cases h
  | succ n ih =>
    intro a0 a1 a2 a4 a6 ha0 σ h
    rw [m_X8_codeOf_8] at h
    refine Z_iload hk 4 dX8_codeOf_8 rfl ?_
    refine Z_aload_n hk 0 dX8_codeOf_10 rfl rfl ?_
    refine Z_get hk in_X8_codeOf_CanonCoteModel rfl ha0.cell.1 (ha0.cell.2 _) 0 (by decide) wd_X8_codeOf_1 rfl dX8_codeOf_11 ?_
    refine Z_iload_n hk 1 dX8_codeOf_14 rfl rfl ?_
    obtain ⟨i3, x1, e2, h⟩ := ldI_get h
    refine Z_iald hk (ha0.sizes) i3 dX8_codeOf_15 ?_
    refine Z_eqI e2 ?_
    refine Z_icmp_ge hk (tgt := 110) dX8_codeOf_16 (by decide) (fun c4 => ?_) (fun c4 => ?_)
    · have h := if_yes h c4
      refine Z_aload_n hk 0 dX8_codeOf_110 rfl rfl ?_
      refine Z_get hk in_X8_codeOf_CanonCoteModel rfl ha0.cell.1 (ha0.cell.2 _) 0 (by decide) wd_X8_codeOf_1 rfl dX8_codeOf_111 ?_
      refine Z_iload_n hk 1 dX8_codeOf_114 rfl rfl ?_
      obtain ⟨i7, x5, e6, h⟩ := ldI_get h
      refine Z_iald hk (ha0.sizes) i7 dX8_codeOf_115 ?_
      refine Z_eqI e6 ?_
      refine Z_i2l hk dX8_codeOf_116 ?_
      refine Z_bipush hk dX8_codeOf_117 zc_bipush_52 ?_
      refine Z_lshl hk dX8_codeOf_119 ?_
      refine Z_lload hk 3 dX8_codeOf_120 rfl ?_
      refine Z_bipush hk dX8_codeOf_122 zc_bipush_28 ?_
      refine Z_lshl hk dX8_codeOf_124 ?_
      refine Z_lor hk dX8_codeOf_125 ?_
      refine Z_lload_n hk 2 dX8_codeOf_126 rfl rfl ?_
      refine Z_lor hk dX8_codeOf_127 ?_
      cases h
      exact Z_lret hk hq dX8_codeOf_128
    · have h := if_no h c4
      refine Z_lload hk 3 dX8_codeOf_19 rfl ?_
      refine Z_aload_n hk 0 dX8_codeOf_21 rfl rfl ?_
      refine Z_get hk in_X8_codeOf_CanonCoteModel rfl ha0.cell.1 (ha0.cell.2 _) 2 (by decide) wd_X8_codeOf_2 rfl dX8_codeOf_22 ?_
      refine Z_bipush hk dX8_codeOf_25 zc_bipush_8 ?_
      refine Z_iload_n hk 1 dX8_codeOf_27 rfl rfl ?_
      refine Z_imul hk dX8_codeOf_28 ?_
      refine Z_iload hk 4 dX8_codeOf_29 rfl ?_
      refine Z_iadd hk dX8_codeOf_31 ?_
      obtain ⟨i10, x8, e9, h⟩ := ldI_get h
      refine Z_iald hk (ha0.colours) i10 dX8_codeOf_32 ?_
      refine Z_eqI e9 ?_
      refine Z_i2l hk dX8_codeOf_33 ?_
      refine Z_iconst hk dX8_codeOf_34 zc_iconst_3 ?_
      refine Z_bipush hk dX8_codeOf_35 zc_bipush_7 ?_
      refine Z_aload_n hk 0 dX8_codeOf_37 rfl rfl ?_
      refine Z_get hk in_X8_codeOf_CanonCoteModel rfl ha0.cell.1 (ha0.cell.2 _) 3 (by decide) wd_X8_codeOf_3 rfl dX8_codeOf_38 ?_
      refine Z_iload hk 4 dX8_codeOf_41 rfl ?_
      obtain ⟨i13, x11, e12, h⟩ := ldI_get h
      refine Z_iald hk (ha0.map) i13 dX8_codeOf_43 ?_
      refine Z_eqI e12 ?_
      refine Z_isub hk dX8_codeOf_44 ?_
      refine Z_imul hk dX8_codeOf_45 ?_
      refine Z_lshl hk dX8_codeOf_46 ?_
      refine Z_lor hk dX8_codeOf_47 ?_
      obtain ⟨x14, e15, h⟩ := nm_get h
      refine Z_eqL e15 ?_
      refine Z_lstore hk (lv' := [(4, .long x14), (0, .ref (eA (kZ K) a0)), (1, .int a1), (2, .long a2), (6, .int a6)]) dX8_codeOf_48 (by decide) rfl ?_
      refine Z_iconst hk dX8_codeOf_50 zc_iconst_0 ?_
      refine Z_istore hk (lv' := [(7, .int 0), (4, .long x14), (0, .ref (eA (kZ K) a0)), (1, .int a1), (2, .long a2), (6, .int a6)]) dX8_codeOf_51 (by decide) rfl ?_
      refine Z_sub [2, 3, 4, 1, 5, 0] rfl ?_
      exact w_X8_codeOf_53 hk hq F (m_X8_codeOf_8 F n) ih F a0 a1 a2 x14 a6 0 ha0 σ h
set_option maxRecDepth 100000 in
set_option maxHeartbeats 4000000 in
theorem w_X8_codeOf {K : zK} (hk : zIs K RX8 cX8_codeOf 8 wsX8_codeOf (some .long) r_X8_codeOf) {r0 : Int64} {τ0 : zST} (hq : zQ K (some (.long r0)) τ0) (F : Nat) (a0 : Nat) (a1 : Int32) (ha0 : atCanonCoteModel (kZ K) a0) (σ : zST) (h : m_X8_codeOf F a0 a1 σ = some (r0, τ0)) : Z K 0 0 0 [(0, .ref (eA (kZ K) a0)), (1, .int a1)] [] σ := by
  unfold m_X8_codeOf at h
  refine Z_lconst hk dX8_codeOf_0 (v := 0) rfl ?_
  refine Z_lstore_n hk (lv' := [(2, .long 0), (0, .ref (eA (kZ K) a0)), (1, .int a1)]) dX8_codeOf_1 rfl (by decide) rfl ?_
  refine Z_lconst hk dX8_codeOf_2 (v := 0) rfl ?_
  refine Z_lstore hk (lv' := [(4, .long 0), (2, .long 0), (0, .ref (eA (kZ K) a0)), (1, .int a1)]) dX8_codeOf_3 (by decide) rfl ?_
  refine Z_iconst hk dX8_codeOf_5 zc_iconst_0 ?_
  refine Z_istore hk (lv' := [(6, .int 0), (4, .long 0), (2, .long 0), (0, .ref (eA (kZ K) a0)), (1, .int a1)]) dX8_codeOf_6 (by decide) rfl ?_
  refine Z_sub [3, 4, 2, 1, 0] rfl ?_
  exact w_X8_codeOf_8 hk hq F F a0 a1 0 0 0 ha0 σ h
theorem c_X8_codeOf {l : Launch} {E : zE} (hL : eL E) (hJ : eJ E) (F : Nat) (a0 : Nat) (a1 : Int32) (ha0 : atCanonCoteModel E a0) (σ : zST) {r0 : Int64} {τ0 : zST} (h : m_X8_codeOf F a0 a1 σ = some (r0, τ0)) : Ct l yX8_codeOf wsX8_codeOf r_X8_codeOf E [.ref (eA E a0), .int a1] σ (some (.long r0)) τ0 := by
  refine Ct_of (by decide) rfl hL hJ (Nat.le_of_ble_eq_true rfl) (fun K hE hl hk hq => ?_)
  subst hE
  exact w_X8_codeOf hk hq F a0 a1 ha0 σ h
end

-- CanonCoteModel.formOf (I)J
section
theorem dX8_formOf_0 : decode cX8_formOf 0 = .ok (.ldc2_w 112, 3) := by decide +kernel
theorem dX8_formOf_3 : decode cX8_formOf 3 = .ok (.lstore_n 2, 1) := by decide +kernel
theorem dX8_formOf_4 : decode cX8_formOf 4 = .ok (.aload_n 0, 1) := by decide +kernel
theorem dX8_formOf_5 : decode cX8_formOf 5 = .ok (.aload_n 0, 1) := by decide +kernel
theorem dX8_formOf_6 : decode cX8_formOf 6 = .ok (.getfield 7, 3) := by decide +kernel
theorem dX8_formOf_9 : decode cX8_formOf 9 = .ok (.iload_n 1, 1) := by decide +kernel
theorem dX8_formOf_10 : decode cX8_formOf 10 = .ok (.iaload, 1) := by decide +kernel
theorem dX8_formOf_11 : decode cX8_formOf 11 = .ok (.invokevirtual 114, 3) := by decide +kernel
theorem dX8_formOf_14 : decode cX8_formOf 14 = .ok (.iconst 1, 1) := by decide +kernel
theorem dX8_formOf_15 : decode cX8_formOf 15 = .ok (.istore 4, 2) := by decide +kernel
theorem dX8_formOf_17 : decode cX8_formOf 17 = .ok (.iload 4, 2) := by decide +kernel
theorem dX8_formOf_19 : decode cX8_formOf 19 = .ok (.ifCond .eq 69, 3) := by decide +kernel
theorem dX8_formOf_22 : decode cX8_formOf 22 = .ok (.aload_n 0, 1) := by decide +kernel
theorem dX8_formOf_23 : decode cX8_formOf 23 = .ok (.iload_n 1, 1) := by decide +kernel
theorem dX8_formOf_24 : decode cX8_formOf 24 = .ok (.invokevirtual 118, 3) := by decide +kernel
theorem dX8_formOf_27 : decode cX8_formOf 27 = .ok (.lstore 5, 2) := by decide +kernel
theorem dX8_formOf_29 : decode cX8_formOf 29 = .ok (.lload 5, 2) := by decide +kernel
theorem dX8_formOf_31 : decode cX8_formOf 31 = .ok (.lload_n 2, 1) := by decide +kernel
theorem dX8_formOf_32 : decode cX8_formOf 32 = .ok (.lcmp, 1) := by decide +kernel
theorem dX8_formOf_33 : decode cX8_formOf 33 = .ok (.ifCond .ge 40, 3) := by decide +kernel
theorem dX8_formOf_36 : decode cX8_formOf 36 = .ok (.lload 5, 2) := by decide +kernel
theorem dX8_formOf_38 : decode cX8_formOf 38 = .ok (.lstore_n 2, 1) := by decide +kernel
theorem dX8_formOf_39 : decode cX8_formOf 39 = .ok (.iconst 0, 1) := by decide +kernel
theorem dX8_formOf_40 : decode cX8_formOf 40 = .ok (.istore 7, 2) := by decide +kernel
theorem dX8_formOf_42 : decode cX8_formOf 42 = .ok (.iload 7, 2) := by decide +kernel
theorem dX8_formOf_44 : decode cX8_formOf 44 = .ok (.aload_n 0, 1) := by decide +kernel
theorem dX8_formOf_45 : decode cX8_formOf 45 = .ok (.getfield 7, 3) := by decide +kernel
theorem dX8_formOf_48 : decode cX8_formOf 48 = .ok (.iload_n 1, 1) := by decide +kernel
theorem dX8_formOf_49 : decode cX8_formOf 49 = .ok (.iaload, 1) := by decide +kernel
theorem dX8_formOf_50 : decode cX8_formOf 50 = .ok (.if_icmp .ge 23, 3) := by decide +kernel
theorem dX8_formOf_53 : decode cX8_formOf 53 = .ok (.aload_n 0, 1) := by decide +kernel
theorem dX8_formOf_54 : decode cX8_formOf 54 = .ok (.getfield 25, 3) := by decide +kernel
theorem dX8_formOf_57 : decode cX8_formOf 57 = .ok (.iload 7, 2) := by decide +kernel
theorem dX8_formOf_59 : decode cX8_formOf 59 = .ok (.aload_n 0, 1) := by decide +kernel
theorem dX8_formOf_60 : decode cX8_formOf 60 = .ok (.getfield 19, 3) := by decide +kernel
theorem dX8_formOf_63 : decode cX8_formOf 63 = .ok (.iload 7, 2) := by decide +kernel
theorem dX8_formOf_65 : decode cX8_formOf 65 = .ok (.iaload, 1) := by decide +kernel
theorem dX8_formOf_66 : decode cX8_formOf 66 = .ok (.iastore, 1) := by decide +kernel
theorem dX8_formOf_67 : decode cX8_formOf 67 = .ok (.iinc 7 1, 3) := by decide +kernel
theorem dX8_formOf_70 : decode cX8_formOf 70 = .ok (.goto (-28), 3) := by decide +kernel
theorem dX8_formOf_73 : decode cX8_formOf 73 = .ok (.aload_n 0, 1) := by decide +kernel
theorem dX8_formOf_74 : decode cX8_formOf 74 = .ok (.aload_n 0, 1) := by decide +kernel
theorem dX8_formOf_75 : decode cX8_formOf 75 = .ok (.getfield 7, 3) := by decide +kernel
theorem dX8_formOf_78 : decode cX8_formOf 78 = .ok (.iload_n 1, 1) := by decide +kernel
theorem dX8_formOf_79 : decode cX8_formOf 79 = .ok (.iaload, 1) := by decide +kernel
theorem dX8_formOf_80 : decode cX8_formOf 80 = .ok (.invokevirtual 122, 3) := by decide +kernel
theorem dX8_formOf_83 : decode cX8_formOf 83 = .ok (.istore 4, 2) := by decide +kernel
theorem dX8_formOf_85 : decode cX8_formOf 85 = .ok (.goto (-68), 3) := by decide +kernel
theorem dX8_formOf_88 : decode cX8_formOf 88 = .ok (.lload_n 2, 1) := by decide +kernel
theorem dX8_formOf_89 : decode cX8_formOf 89 = .ok (.lreturn, 1) := by decide +kernel
set_option maxRecDepth 20000 in
theorem ggX8_formOf_X8_beginsMaps : GoodIn wsX8_formOf wsX8_beginsMaps := goodIn_r _ [9, 4, 27, 28, 29, 30, 31, 32, 33, 34, 35, 36, 37, 38, 39, 40, 41, 42, 43] (by decide +kernel) (by decide +kernel)
set_option maxRecDepth 20000 in
theorem gX8_formOf_X8_beginsMaps : GoodIn wsX8_formOf (wsV RX8 114 RX8 yX8_beginsMaps wsX8_beginsMaps) := goodIn_app (goodIn_of _ (by decide +kernel)) ggX8_formOf_X8_beginsMaps
set_option maxRecDepth 20000 in
theorem ggX8_formOf_X8_codeOf : GoodIn wsX8_formOf wsX8_codeOf := goodIn_r _ [13, 2, 14, 4, 15, 16, 17, 8, 18, 19, 20, 21, 22, 27, 28, 29, 30, 31, 32, 33, 34, 35, 36, 37, 38, 39, 40, 41, 42, 43] (by decide +kernel) (by decide +kernel)
set_option maxRecDepth 20000 in
theorem gX8_formOf_X8_codeOf : GoodIn wsX8_formOf (wsV RX8 118 RX8 yX8_codeOf wsX8_codeOf) := goodIn_app (goodIn_of _ (by decide +kernel)) ggX8_formOf_X8_codeOf
set_option maxRecDepth 20000 in
theorem ggX8_formOf_X8_nextMap : GoodIn wsX8_formOf wsX8_nextMap := goodIn_r _ [26, 4, 27, 28, 29, 30, 31, 32, 33, 34, 35, 36, 37, 38, 39, 40, 41, 42, 43] (by decide +kernel) (by decide +kernel)
set_option maxRecDepth 20000 in
theorem gX8_formOf_X8_nextMap : GoodIn wsX8_formOf (wsV RX8 122 RX8 yX8_nextMap wsX8_nextMap) := goodIn_app (goodIn_of _ (by decide +kernel)) ggX8_formOf_X8_nextMap
theorem wd_X8_formOf_0 : Cond.constantLong RX8 112 9223372036854775807 ∈ wsX8_formOf := by decide +kernel
theorem in_X8_formOf_CanonCoteModel : ∀ w ∈ u_ws RX8 TX8 17, w ∈ wsX8_formOf := by decide +kernel
theorem wd_X8_formOf_2 : Cond.fieldLink RX8 7 (TX8 0).1 (TX8 0).2.1 (TX8 0).2.2.1 ∈ wsX8_formOf := by decide +kernel
theorem wd_X8_formOf_3 : Cond.fieldLink RX8 25 (TX8 5).1 (TX8 5).2.1 (TX8 5).2.2.1 ∈ wsX8_formOf := by decide +kernel
theorem wd_X8_formOf_4 : Cond.fieldLink RX8 19 (TX8 3).1 (TX8 3).2.1 (TX8 3).2.2.1 ∈ wsX8_formOf := by decide +kernel
def r_X8_formOf : Room := { frames := 3, cells := 0, slots := 0, locals := 62 }
set_option maxRecDepth 100000 in
set_option maxHeartbeats 4000000 in
theorem w_X8_formOf_73 {K : zK} (hk : zIs K RX8 cX8_formOf 8 wsX8_formOf (some .long) r_X8_formOf) {r0 : Int64} {τ0 : zST} (hq : zQ K (some (.long r0)) τ0) (F : Nat) (k17 : Nat → Int32 → Int64 → Int32 → zST → Option (Int64 × zST)) (hk17 : ∀ (a0 : Nat) (a1 : Int32) (a2 : Int64) (a4 : Int32) (ha0 : atCanonCoteModel (kZ K) a0) (σ : zST), k17 a0 a1 a2 a4 σ = some (r0, τ0) → Z K 0 0 17 [(0, .ref (eA (kZ K) a0)), (1, .int a1), (2, .long a2), (4, .int a4)] [] σ) (a0 : Nat) (a1 : Int32) (a2 : Int64) (ha0 : atCanonCoteModel (kZ K) a0) (σ : zST) (h : m_X8_formOf_73 F k17 a0 a1 a2 σ = some (r0, τ0)) : Z K 0 0 73 [(0, .ref (eA (kZ K) a0)), (1, .int a1), (2, .long a2)] [] σ := by
  unfold m_X8_formOf_73 at h
  refine Z_aload_n hk 0 dX8_formOf_73 rfl rfl ?_
  refine Z_aload_n hk 0 dX8_formOf_74 rfl rfl ?_
  refine Z_get hk in_X8_formOf_CanonCoteModel rfl ha0.cell.1 (ha0.cell.2 _) 0 (by decide) wd_X8_formOf_2 rfl dX8_formOf_75 ?_
  refine Z_iload_n hk 1 dX8_formOf_78 rfl rfl ?_
  obtain ⟨i14, x12, e13, h⟩ := ldI_get h
  refine Z_iald hk (ha0.sizes) i14 dX8_formOf_79 ?_
  refine Z_eqI e13 ?_
  obtain ⟨x15, s16, h17, h⟩ := bd_ok h
  refine Z_callV 1 hk [.int x12] (c_X8_nextMap hk.loc hk.inj F a0 x12 ha0 σ h17) gX8_formOf_X8_nextMap rfl ⟨rfl, rfl⟩ (by decide +kernel) ⟨Nat.le_of_ble_eq_true rfl, Nat.le_of_ble_eq_true rfl⟩ ha0.cell.1 (ha0.cell.2 _) rfl rfl rfl (Nat.le_of_ble_eq_true rfl) ⟨Nat.zero_le _, Nat.zero_le _⟩ dX8_formOf_80 ?_
  show Z K 0 0 83 [(0, .ref (eA (kZ K) a0)), (1, .int a1), (2, .long a2)] [.int x15] s16
  refine Z_istore hk (lv' := [(4, .int x15), (0, .ref (eA (kZ K) a0)), (1, .int a1), (2, .long a2)]) dX8_formOf_83 (by decide) rfl ?_
  refine Z_goto hk (tgt := 17) dX8_formOf_85 (by decide) ?_
  refine Z_sub [1, 2, 3, 0] rfl ?_
  exact hk17 a0 a1 a2 x15 ha0 s16 h
set_option maxRecDepth 100000 in
set_option maxHeartbeats 4000000 in
theorem w_X8_formOf_42 {K : zK} (hk : zIs K RX8 cX8_formOf 8 wsX8_formOf (some .long) r_X8_formOf) {r0 : Int64} {τ0 : zST} (hq : zQ K (some (.long r0)) τ0) (F : Nat) (k17 : Nat → Int32 → Int64 → Int32 → zST → Option (Int64 × zST)) (hk17 : ∀ (a0 : Nat) (a1 : Int32) (a2 : Int64) (a4 : Int32) (ha0 : atCanonCoteModel (kZ K) a0) (σ : zST), k17 a0 a1 a2 a4 σ = some (r0, τ0) → Z K 0 0 17 [(0, .ref (eA (kZ K) a0)), (1, .int a1), (2, .long a2), (4, .int a4)] [] σ) : ∀ (n : Nat) (a0 : Nat) (a1 : Int32) (a2 : Int64) (a7 : Int32) (ha0 : atCanonCoteModel (kZ K) a0) (σ : zST), m_X8_formOf_42 F k17 n a0 a1 a2 a7 σ = some (r0, τ0) → Z K 0 0 42 [(0, .ref (eA (kZ K) a0)), (1, .int a1), (2, .long a2), (7, .int a7)] [] σ := by
  intro n
  induction n with
  | zero => intro a0 a1 a2 a7 ha0 σ h; cases h
  | succ n ih =>
    intro a0 a1 a2 a7 ha0 σ h
    rw [m_X8_formOf_42] at h
    refine Z_iload hk 3 dX8_formOf_42 rfl ?_
    refine Z_aload_n hk 0 dX8_formOf_44 rfl rfl ?_
    refine Z_get hk in_X8_formOf_CanonCoteModel rfl ha0.cell.1 (ha0.cell.2 _) 0 (by decide) wd_X8_formOf_2 rfl dX8_formOf_45 ?_
    refine Z_iload_n hk 1 dX8_formOf_48 rfl rfl ?_
    obtain ⟨i20, x18, e19, h⟩ := ldI_get h
    refine Z_iald hk (ha0.sizes) i20 dX8_formOf_49 ?_
    refine Z_eqI e19 ?_
    refine Z_icmp_ge hk (tgt := 73) dX8_formOf_50 (by decide) (fun c21 => ?_) (fun c21 => ?_)
    · have h := if_yes h c21
      refine Z_sub [0, 1, 2] rfl ?_
      exact w_X8_formOf_73 hk hq F k17 hk17 a0 a1 a2 ha0 σ h
    · have h := if_no h c21
      refine Z_aload_n hk 0 dX8_formOf_53 rfl rfl ?_
      refine Z_get hk in_X8_formOf_CanonCoteModel rfl ha0.cell.1 (ha0.cell.2 _) 5 (by decide) wd_X8_formOf_3 rfl dX8_formOf_54 ?_
      refine Z_iload hk 3 dX8_formOf_57 rfl ?_
      refine Z_aload_n hk 0 dX8_formOf_59 rfl rfl ?_
      refine Z_get hk in_X8_formOf_CanonCoteModel rfl ha0.cell.1 (ha0.cell.2 _) 3 (by decide) wd_X8_formOf_4 rfl dX8_formOf_60 ?_
      refine Z_iload hk 3 dX8_formOf_63 rfl ?_
      obtain ⟨i24, x22, e23, h⟩ := ldI_get h
      refine Z_iald hk (ha0.map) i24 dX8_formOf_65 ?_
      refine Z_eqI e23 ?_
      obtain ⟨i27, s25, e26, h⟩ := stI_get h
      refine Z_iast hk (ha0.best) i27 dX8_formOf_66 ?_
      refine Z_eqS e26 ?_
      obtain ⟨x28, e29, h⟩ := nm_get h
      refine Z_iinc hk 3 (v := x28) (lv' := [(7, .int x28), (0, .ref (eA (kZ K) a0)), (1, .int a1), (2, .long a2)]) dX8_formOf_67 rfl (by rw [zc_iinc_1]; exact e29) (by decide) rfl ?_
      refine Z_goto hk (tgt := 42) dX8_formOf_70 (by decide) ?_
      refine Z_sub [1, 2, 3, 0] rfl ?_
      exact ih a0 a1 a2 x28 ha0 s25 h
set_option maxRecDepth 100000 in
set_option maxHeartbeats 4000000 in
theorem w_X8_formOf_17 {K : zK} (hk : zIs K RX8 cX8_formOf 8 wsX8_formOf (some .long) r_X8_formOf) {r0 : Int64} {τ0 : zST} (hq : zQ K (some (.long r0)) τ0) (F : Nat) : ∀ (n : Nat) (a0 : Nat) (a1 : Int32) (a2 : Int64) (a4 : Int32) (ha0 : atCanonCoteModel (kZ K) a0) (σ : zST), m_X8_formOf_17 F n a0 a1 a2 a4 σ = some (r0, τ0) → Z K 0 0 17 [(0, .ref (eA (kZ K) a0)), (1, .int a1), (2, .long a2), (4, .int a4)] [] σ := by
  intro n
  induction n with
  | zero => intro a0 a1 a2 a4 ha0 σ h; cases h
  | succ n ih =>
    intro a0 a1 a2 a4 ha0 σ h
    rw [m_X8_formOf_17] at h
    refine Z_iload hk 3 dX8_formOf_17 rfl ?_
    refine Z_if_eq hk (tgt := 88) dX8_formOf_19 (by decide) (fun c7 => ?_) (fun c7 => ?_)
    · have h := if_yes h c7
      refine Z_lload_n hk 2 dX8_formOf_88 rfl rfl ?_
      cases h
      exact Z_lret hk hq dX8_formOf_89
    · have h := if_no h c7
      refine Z_aload_n hk 0 dX8_formOf_22 rfl rfl ?_
      refine Z_iload_n hk 1 dX8_formOf_23 rfl rfl ?_
      obtain ⟨x8, s9, h10, h⟩ := bd_ok h
      refine Z_callV 1 hk [.int a1] (c_X8_codeOf hk.loc hk.inj F a0 a1 ha0 σ h10) gX8_formOf_X8_codeOf rfl ⟨rfl, rfl⟩ (by decide +kernel) ⟨Nat.le_of_ble_eq_true rfl, Nat.le_of_ble_eq_true rfl⟩ ha0.cell.1 (ha0.cell.2 _) rfl rfl rfl (Nat.le_of_ble_eq_true rfl) ⟨Nat.zero_le _, Nat.zero_le _⟩ dX8_formOf_24 ?_
      show Z K 0 0 27 [(0, .ref (eA (kZ K) a0)), (1, .int a1), (2, .long a2), (4, .int a4)] [.long x8] s9
      refine Z_lstore hk (lv' := [(5, .long x8), (0, .ref (eA (kZ K) a0)), (1, .int a1), (2, .long a2), (4, .int a4)]) dX8_formOf_27 (by decide) rfl ?_
      refine Z_lload hk 0 dX8_formOf_29 rfl ?_
      refine Z_lload_n hk 3 dX8_formOf_31 rfl rfl ?_
      refine Z_lcmp hk dX8_formOf_32 ?_
      refine Z_if_ge hk (tgt := 73) dX8_formOf_33 (by decide) (fun c11 => ?_) (fun c11 => ?_)
      · have h := if_yes h c11
        refine Z_sub [1, 2, 3] rfl ?_
        exact w_X8_formOf_73 hk hq F (m_X8_formOf_17 F n) ih a0 a1 a2 ha0 s9 h
      · have h := if_no h c11
        refine Z_lload hk 0 dX8_formOf_36 rfl ?_
        refine Z_lstore_n hk (lv' := [(2, .long x8), (5, .long x8), (0, .ref (eA (kZ K) a0)), (1, .int a1), (4, .int a4)]) dX8_formOf_38 rfl (by decide) rfl ?_
        refine Z_iconst hk dX8_formOf_39 zc_iconst_0 ?_
        refine Z_istore hk (lv' := [(7, .int 0), (2, .long x8), (5, .long x8), (0, .ref (eA (kZ K) a0)), (1, .int a1), (4, .int a4)]) dX8_formOf_40 (by decide) rfl ?_
        refine Z_sub [3, 4, 1, 0] rfl ?_
        exact w_X8_formOf_42 hk hq F (m_X8_formOf_17 F n) ih F a0 a1 x8 0 ha0 s9 h
set_option maxRecDepth 100000 in
set_option maxHeartbeats 4000000 in
theorem w_X8_formOf {K : zK} (hk : zIs K RX8 cX8_formOf 8 wsX8_formOf (some .long) r_X8_formOf) {r0 : Int64} {τ0 : zST} (hq : zQ K (some (.long r0)) τ0) (F : Nat) (a0 : Nat) (a1 : Int32) (ha0 : atCanonCoteModel (kZ K) a0) (σ : zST) (h : m_X8_formOf F a0 a1 σ = some (r0, τ0)) : Z K 0 0 0 [(0, .ref (eA (kZ K) a0)), (1, .int a1)] [] σ := by
  unfold m_X8_formOf at h
  refine Z_ldc2 hk (v := 9223372036854775807) dX8_formOf_0 wd_X8_formOf_0 ?_
  refine Z_lstore_n hk (lv' := [(2, .long 9223372036854775807), (0, .ref (eA (kZ K) a0)), (1, .int a1)]) dX8_formOf_3 rfl (by decide) rfl ?_
  refine Z_aload_n hk 1 dX8_formOf_4 rfl rfl ?_
  refine Z_aload_n hk 1 dX8_formOf_5 rfl rfl ?_
  refine Z_get hk in_X8_formOf_CanonCoteModel rfl ha0.cell.1 (ha0.cell.2 _) 0 (by decide) wd_X8_formOf_2 rfl dX8_formOf_6 ?_
  refine Z_iload_n hk 2 dX8_formOf_9 rfl rfl ?_
  obtain ⟨i3, x1, e2, h⟩ := ldI_get h
  refine Z_iald hk (ha0.sizes) i3 dX8_formOf_10 ?_
  refine Z_eqI e2 ?_
  obtain ⟨s5, h6, h⟩ := bv_ok h
  refine Z_callV 1 hk [.int x1] (c_X8_beginsMaps hk.loc hk.inj F a0 x1 ha0 σ h6) gX8_formOf_X8_beginsMaps rfl ⟨rfl, rfl⟩ (by decide +kernel) ⟨Nat.le_of_ble_eq_true rfl, Nat.le_of_ble_eq_true rfl⟩ ha0.cell.1 (ha0.cell.2 _) rfl rfl rfl (Nat.le_of_ble_eq_true rfl) ⟨Nat.zero_le _, Nat.zero_le _⟩ dX8_formOf_11 ?_
  show Z K 0 0 14 [(2, .long 9223372036854775807), (0, .ref (eA (kZ K) a0)), (1, .int a1)] [] s5
  refine Z_iconst hk dX8_formOf_14 zc_iconst_1 ?_
  refine Z_istore hk (lv' := [(4, .int 1), (2, .long 9223372036854775807), (0, .ref (eA (kZ K) a0)), (1, .int a1)]) dX8_formOf_15 (by decide) rfl ?_
  refine Z_sub [2, 3, 1, 0] rfl ?_
  exact w_X8_formOf_17 hk hq F F a0 a1 9223372036854775807 1 ha0 s5 h
theorem c_X8_formOf {l : Launch} {E : zE} (hL : eL E) (hJ : eJ E) (F : Nat) (a0 : Nat) (a1 : Int32) (ha0 : atCanonCoteModel E a0) (σ : zST) {r0 : Int64} {τ0 : zST} (h : m_X8_formOf F a0 a1 σ = some (r0, τ0)) : Ct l yX8_formOf wsX8_formOf r_X8_formOf E [.ref (eA E a0), .int a1] σ (some (.long r0)) τ0 := by
  refine Ct_of (by decide) rfl hL hJ (Nat.le_of_ble_eq_true rfl) (fun K hE hl hk hq => ?_)
  subst hE
  exact w_X8_formOf hk hq F a0 a1 ha0 σ h
end

-- CanonCoteModel.form (I)J
section
theorem dX8_form_0 : decode cX8_form 0 = .ok (.aload_n 0, 1) := by decide +kernel
theorem dX8_form_1 : decode cX8_form 1 = .ok (.iload_n 1, 1) := by decide +kernel
theorem dX8_form_2 : decode cX8_form 2 = .ok (.invokestatic 62, 3) := by decide +kernel
theorem dX8_form_5 : decode cX8_form 5 = .ok (.iconst 1, 1) := by decide +kernel
theorem dX8_form_6 : decode cX8_form 6 = .ok (.invokevirtual 73, 3) := by decide +kernel
theorem dX8_form_9 : decode cX8_form 9 = .ok (.ifCond .eq 11, 3) := by decide +kernel
theorem dX8_form_12 : decode cX8_form 12 = .ok (.aload_n 0, 1) := by decide +kernel
theorem dX8_form_13 : decode cX8_form 13 = .ok (.iload_n 1, 1) := by decide +kernel
theorem dX8_form_14 : decode cX8_form 14 = .ok (.invokevirtual 125, 3) := by decide +kernel
theorem dX8_form_17 : decode cX8_form 17 = .ok (.goto 4, 3) := by decide +kernel
theorem dX8_form_20 : decode cX8_form 20 = .ok (.lconst 0, 1) := by decide +kernel
theorem dX8_form_21 : decode cX8_form 21 = .ok (.lreturn, 1) := by decide +kernel
set_option maxRecDepth 20000 in
theorem ggX8_form_X8_isGraph : GoodIn wsX8_form wsX8_isGraph := goodIn_r _ [4, 5, 6, 3, 7] (by decide +kernel) (by decide +kernel)
set_option maxRecDepth 20000 in
theorem gX8_form_X8_isGraph : GoodIn wsX8_form (va_wsS RX8 62 yX8_isGraph wsX8_isGraph) := goodIn_app (goodIn_of _ (by decide +kernel)) ggX8_form_X8_isGraph
set_option maxRecDepth 20000 in
theorem ggX8_form_X8_goes : GoodIn wsX8_form wsX8_goes := goodIn_r _ [11, 12, 42, 43, 44, 45, 46, 47, 48, 49, 50, 51, 52, 53, 54, 55, 56, 57, 58] (by decide +kernel) (by decide +kernel)
set_option maxRecDepth 20000 in
theorem gX8_form_X8_goes : GoodIn wsX8_form (wsV RX8 73 RX8 yX8_goes wsX8_goes) := goodIn_app (goodIn_of _ (by decide +kernel)) ggX8_form_X8_goes
set_option maxRecDepth 20000 in
theorem ggX8_form_X8_formOf : GoodIn wsX8_form wsX8_formOf := goodIn_r _ [16, 17, 18, 19, 20, 21, 22, 23, 3, 24, 25, 26, 27, 28, 29, 30, 31, 32, 33, 34, 35, 36, 37, 38, 39, 40, 41, 42, 43, 44, 45, 46, 47, 48, 49, 50, 51, 52, 53, 54, 55, 56, 57, 58] (by decide +kernel) (by decide +kernel)
set_option maxRecDepth 20000 in
theorem gX8_form_X8_formOf : GoodIn wsX8_form (wsV RX8 125 RX8 yX8_formOf wsX8_formOf) := goodIn_app (goodIn_of _ (by decide +kernel)) ggX8_form_X8_formOf
def r_X8_form : Room := { frames := 4, cells := 0, slots := 0, locals := 89 }
set_option maxRecDepth 100000 in
set_option maxHeartbeats 4000000 in
theorem w_X8_form {K : zK} (hk : zIs K RX8 cX8_form 2 wsX8_form (some .long) r_X8_form) {r0 : Int64} {τ0 : zST} (hq : zQ K (some (.long r0)) τ0) (F : Nat) (a0 : Nat) (a1 : Int32) (ha0 : atCanonCoteModel (kZ K) a0) (σ : zST) (h : m_X8_form F a0 a1 σ = some (r0, τ0)) : Z K 0 0 0 [(0, .ref (eA (kZ K) a0)), (1, .int a1)] [] σ := by
  unfold m_X8_form at h
  refine Z_aload_n hk 0 dX8_form_0 rfl rfl ?_
  refine Z_iload_n hk 1 dX8_form_1 rfl rfl ?_
  obtain ⟨x1, s2, h3, h⟩ := bd_ok h
  refine Z_callT 1 hk [.int a1] (c_X8_isGraph hk.loc hk.inj F a1 σ h3) gX8_form_X8_isGraph rfl ⟨rfl, rfl⟩ (by decide +kernel) ⟨Nat.le_of_ble_eq_true rfl, Nat.le_of_ble_eq_true rfl⟩ rfl rfl (Nat.le_of_ble_eq_true rfl) ⟨Nat.zero_le _, Nat.zero_le _⟩ dX8_form_2 ?_
  show Z K 0 0 5 [(0, .ref (eA (kZ K) a0)), (1, .int a1)] [.int x1, .ref (eA (kZ K) a0)] s2
  refine Z_iconst hk dX8_form_5 zc_iconst_1 ?_
  obtain ⟨x4, s5, h6, h⟩ := bd_ok h
  refine Z_callV 2 hk [.int x1, .int 1] (c_X8_goes hk.loc hk.inj F a0 x1 1 ha0 s2 h6) gX8_form_X8_goes rfl ⟨rfl, rfl⟩ (by decide +kernel) ⟨Nat.le_of_ble_eq_true rfl, Nat.le_of_ble_eq_true rfl⟩ ha0.cell.1 (ha0.cell.2 _) rfl rfl rfl (Nat.le_of_ble_eq_true rfl) ⟨Nat.zero_le _, Nat.zero_le _⟩ dX8_form_6 ?_
  show Z K 0 0 9 [(0, .ref (eA (kZ K) a0)), (1, .int a1)] [.int x4] s5
  refine Z_if_eq hk (tgt := 20) dX8_form_9 (by decide) (fun c7 => ?_) (fun c7 => ?_)
  · have h := if_yes h c7
    refine Z_lconst hk dX8_form_20 (v := 0) rfl ?_
    cases h
    exact Z_lret hk hq dX8_form_21
  · have h := if_no h c7
    refine Z_aload_n hk 0 dX8_form_12 rfl rfl ?_
    refine Z_iload_n hk 1 dX8_form_13 rfl rfl ?_
    obtain ⟨x8, s9, h10, h⟩ := bd_ok h
    refine Z_callV 1 hk [.int a1] (c_X8_formOf hk.loc hk.inj F a0 a1 ha0 s5 h10) gX8_form_X8_formOf rfl ⟨rfl, rfl⟩ (by decide +kernel) ⟨Nat.le_of_ble_eq_true rfl, Nat.le_of_ble_eq_true rfl⟩ ha0.cell.1 (ha0.cell.2 _) rfl rfl rfl (Nat.le_of_ble_eq_true rfl) ⟨Nat.zero_le _, Nat.zero_le _⟩ dX8_form_14 ?_
    show Z K 0 0 17 [(0, .ref (eA (kZ K) a0)), (1, .int a1)] [.long x8] s9
    refine Z_goto hk (tgt := 21) dX8_form_17 (by decide) ?_
    cases h
    exact Z_lret hk hq dX8_form_21
theorem c_X8_form {l : Launch} {E : zE} (hL : eL E) (hJ : eJ E) (F : Nat) (a0 : Nat) (a1 : Int32) (ha0 : atCanonCoteModel E a0) (σ : zST) {r0 : Int64} {τ0 : zST} (h : m_X8_form F a0 a1 σ = some (r0, τ0)) : Ct l yX8_form wsX8_form r_X8_form E [.ref (eA E a0), .int a1] σ (some (.long r0)) τ0 := by
  refine Ct_of (by decide) rfl hL hJ (Nat.le_of_ble_eq_true rfl) (fun K hE hl hk hq => ?_)
  subst hE
  exact w_X8_form hk hq F a0 a1 ha0 σ h
end

-- CanonCoteModel.placeOf (II)I
section
theorem dX8_placeOf_0 : decode cX8_placeOf 0 = .ok (.aload_n 0, 1) := by decide +kernel
theorem dX8_placeOf_1 : decode cX8_placeOf 1 = .ok (.aload_n 0, 1) := by decide +kernel
theorem dX8_placeOf_2 : decode cX8_placeOf 2 = .ok (.iload_n 1, 1) := by decide +kernel
theorem dX8_placeOf_3 : decode cX8_placeOf 3 = .ok (.iload_n 2, 1) := by decide +kernel
theorem dX8_placeOf_4 : decode cX8_placeOf 4 = .ok (.invokevirtual 66, 3) := by decide +kernel
theorem dX8_placeOf_7 : decode cX8_placeOf 7 = .ok (.iconst 1, 1) := by decide +kernel
theorem dX8_placeOf_8 : decode cX8_placeOf 8 = .ok (.invokevirtual 73, 3) := by decide +kernel
theorem dX8_placeOf_11 : decode cX8_placeOf 11 = .ok (.ifCond .ne 5, 3) := by decide +kernel
theorem dX8_placeOf_14 : decode cX8_placeOf 14 = .ok (.iconst 0, 1) := by decide +kernel
theorem dX8_placeOf_15 : decode cX8_placeOf 15 = .ok (.ireturn, 1) := by decide +kernel
theorem dX8_placeOf_16 : decode cX8_placeOf 16 = .ok (.aload_n 0, 1) := by decide +kernel
theorem dX8_placeOf_17 : decode cX8_placeOf 17 = .ok (.iload_n 1, 1) := by decide +kernel
theorem dX8_placeOf_18 : decode cX8_placeOf 18 = .ok (.invokevirtual 125, 3) := by decide +kernel
theorem dX8_placeOf_21 : decode cX8_placeOf 21 = .ok (.lconst 0, 1) := by decide +kernel
theorem dX8_placeOf_22 : decode cX8_placeOf 22 = .ok (.lcmp, 1) := by decide +kernel
theorem dX8_placeOf_23 : decode cX8_placeOf 23 = .ok (.ifCond .le 12, 3) := by decide +kernel
theorem dX8_placeOf_26 : decode cX8_placeOf 26 = .ok (.aload_n 0, 1) := by decide +kernel
theorem dX8_placeOf_27 : decode cX8_placeOf 27 = .ok (.getfield 25, 3) := by decide +kernel
theorem dX8_placeOf_30 : decode cX8_placeOf 30 = .ok (.iload_n 2, 1) := by decide +kernel
theorem dX8_placeOf_31 : decode cX8_placeOf 31 = .ok (.iaload, 1) := by decide +kernel
theorem dX8_placeOf_32 : decode cX8_placeOf 32 = .ok (.goto 4, 3) := by decide +kernel
theorem dX8_placeOf_35 : decode cX8_placeOf 35 = .ok (.iconst (-1), 1) := by decide +kernel
theorem dX8_placeOf_36 : decode cX8_placeOf 36 = .ok (.ireturn, 1) := by decide +kernel
set_option maxRecDepth 20000 in
theorem ggX8_placeOf_X8_isVertex : GoodIn wsX8_placeOf wsX8_isVertex := goodIn_r _ [6, 7, 8, 9, 5, 10, 11, 12, 13, 46, 47, 48, 49, 50, 51, 52, 53, 54, 55, 56, 57, 58, 59, 60, 61, 62] (by decide +kernel) (by decide +kernel)
set_option maxRecDepth 20000 in
theorem gX8_placeOf_X8_isVertex : GoodIn wsX8_placeOf (wsV RX8 66 RX8 yX8_isVertex wsX8_isVertex) := goodIn_app (goodIn_of _ (by decide +kernel)) ggX8_placeOf_X8_isVertex
set_option maxRecDepth 20000 in
theorem ggX8_placeOf_X8_goes : GoodIn wsX8_placeOf wsX8_goes := goodIn_r _ [17, 18, 46, 47, 48, 49, 50, 51, 52, 53, 54, 55, 56, 57, 58, 59, 60, 61, 62] (by decide +kernel) (by decide +kernel)
set_option maxRecDepth 20000 in
theorem gX8_placeOf_X8_goes : GoodIn wsX8_placeOf (wsV RX8 73 RX8 yX8_goes wsX8_goes) := goodIn_app (goodIn_of _ (by decide +kernel)) ggX8_placeOf_X8_goes
set_option maxRecDepth 20000 in
theorem ggX8_placeOf_X8_formOf : GoodIn wsX8_placeOf wsX8_formOf := goodIn_r _ [22, 23, 7, 1, 24, 25, 26, 27, 5, 28, 29, 30, 31, 32, 33, 34, 35, 36, 37, 38, 39, 40, 41, 42, 43, 44, 45, 46, 47, 48, 49, 50, 51, 52, 53, 54, 55, 56, 57, 58, 59, 60, 61, 62] (by decide +kernel) (by decide +kernel)
set_option maxRecDepth 20000 in
theorem gX8_placeOf_X8_formOf : GoodIn wsX8_placeOf (wsV RX8 125 RX8 yX8_formOf wsX8_formOf) := goodIn_app (goodIn_of _ (by decide +kernel)) ggX8_placeOf_X8_formOf
theorem in_X8_placeOf_CanonCoteModel : ∀ w ∈ u_ws RX8 TX8 17, w ∈ wsX8_placeOf := by decide +kernel
theorem wd_X8_placeOf_1 : Cond.fieldLink RX8 25 (TX8 5).1 (TX8 5).2.1 (TX8 5).2.2.1 ∈ wsX8_placeOf := by decide +kernel
def r_X8_placeOf : Room := { frames := 4, cells := 0, slots := 0, locals := 89 }
set_option maxRecDepth 100000 in
set_option maxHeartbeats 4000000 in
theorem w_X8_placeOf {K : zK} (hk : zIs K RX8 cX8_placeOf 3 wsX8_placeOf (some .int) r_X8_placeOf) {r0 : Int32} {τ0 : zST} (hq : zQ K (some (.int r0)) τ0) (F : Nat) (a0 : Nat) (a1 : Int32) (a2 : Int32) (ha0 : atCanonCoteModel (kZ K) a0) (σ : zST) (h : m_X8_placeOf F a0 a1 a2 σ = some (r0, τ0)) : Z K 0 0 0 [(0, .ref (eA (kZ K) a0)), (1, .int a1), (2, .int a2)] [] σ := by
  unfold m_X8_placeOf at h
  refine Z_aload_n hk 0 dX8_placeOf_0 rfl rfl ?_
  refine Z_aload_n hk 0 dX8_placeOf_1 rfl rfl ?_
  refine Z_iload_n hk 1 dX8_placeOf_2 rfl rfl ?_
  refine Z_iload_n hk 2 dX8_placeOf_3 rfl rfl ?_
  obtain ⟨x1, s2, h3, h⟩ := bd_ok h
  refine Z_callV 2 hk [.int a1, .int a2] (c_X8_isVertex hk.loc hk.inj F a0 a1 a2 ha0 σ h3) gX8_placeOf_X8_isVertex rfl ⟨rfl, rfl⟩ (by decide +kernel) ⟨Nat.le_of_ble_eq_true rfl, Nat.le_of_ble_eq_true rfl⟩ ha0.cell.1 (ha0.cell.2 _) rfl rfl rfl (Nat.le_of_ble_eq_true rfl) ⟨Nat.zero_le _, Nat.zero_le _⟩ dX8_placeOf_4 ?_
  show Z K 0 0 7 [(0, .ref (eA (kZ K) a0)), (1, .int a1), (2, .int a2)] [.int x1, .ref (eA (kZ K) a0)] s2
  refine Z_iconst hk dX8_placeOf_7 zc_iconst_1 ?_
  obtain ⟨x4, s5, h6, h⟩ := bd_ok h
  refine Z_callV 2 hk [.int x1, .int 1] (c_X8_goes hk.loc hk.inj F a0 x1 1 ha0 s2 h6) gX8_placeOf_X8_goes rfl ⟨rfl, rfl⟩ (by decide +kernel) ⟨Nat.le_of_ble_eq_true rfl, Nat.le_of_ble_eq_true rfl⟩ ha0.cell.1 (ha0.cell.2 _) rfl rfl rfl (Nat.le_of_ble_eq_true rfl) ⟨Nat.zero_le _, Nat.zero_le _⟩ dX8_placeOf_8 ?_
  show Z K 0 0 11 [(0, .ref (eA (kZ K) a0)), (1, .int a1), (2, .int a2)] [.int x4] s5
  refine Z_if_ne hk (tgt := 16) dX8_placeOf_11 (by decide) (fun c7 => ?_) (fun c7 => ?_)
  · have h := if_yes h c7
    refine Z_iconst hk dX8_placeOf_14 zc_iconst_0 ?_
    cases h
    exact Z_iret hk hq dX8_placeOf_15
  · have h := if_no h c7
    refine Z_aload_n hk 0 dX8_placeOf_16 rfl rfl ?_
    refine Z_iload_n hk 1 dX8_placeOf_17 rfl rfl ?_
    obtain ⟨x8, s9, h10, h⟩ := bd_ok h
    refine Z_callV 1 hk [.int a1] (c_X8_formOf hk.loc hk.inj F a0 a1 ha0 s5 h10) gX8_placeOf_X8_formOf rfl ⟨rfl, rfl⟩ (by decide +kernel) ⟨Nat.le_of_ble_eq_true rfl, Nat.le_of_ble_eq_true rfl⟩ ha0.cell.1 (ha0.cell.2 _) rfl rfl rfl (Nat.le_of_ble_eq_true rfl) ⟨Nat.zero_le _, Nat.zero_le _⟩ dX8_placeOf_18 ?_
    show Z K 0 0 21 [(0, .ref (eA (kZ K) a0)), (1, .int a1), (2, .int a2)] [.long x8] s9
    refine Z_lconst hk dX8_placeOf_21 (v := 0) rfl ?_
    refine Z_lcmp hk dX8_placeOf_22 ?_
    refine Z_if_le hk (tgt := 35) dX8_placeOf_23 (by decide) (fun c11 => ?_) (fun c11 => ?_)
    · have h := if_yes h c11
      refine Z_iconst hk dX8_placeOf_35 zc_iconst_m1 ?_
      cases h
      exact Z_iret hk hq dX8_placeOf_36
    · have h := if_no h c11
      refine Z_aload_n hk 0 dX8_placeOf_26 rfl rfl ?_
      refine Z_get hk in_X8_placeOf_CanonCoteModel rfl ha0.cell.1 (ha0.cell.2 _) 5 (by decide) wd_X8_placeOf_1 rfl dX8_placeOf_27 ?_
      refine Z_iload_n hk 2 dX8_placeOf_30 rfl rfl ?_
      obtain ⟨i14, x12, e13, h⟩ := ldI_get h
      refine Z_iald hk (ha0.best) i14 dX8_placeOf_31 ?_
      refine Z_eqI e13 ?_
      refine Z_goto hk (tgt := 36) dX8_placeOf_32 (by decide) ?_
      cases h
      exact Z_iret hk hq dX8_placeOf_36
theorem c_X8_placeOf {l : Launch} {E : zE} (hL : eL E) (hJ : eJ E) (F : Nat) (a0 : Nat) (a1 : Int32) (a2 : Int32) (ha0 : atCanonCoteModel E a0) (σ : zST) {r0 : Int32} {τ0 : zST} (h : m_X8_placeOf F a0 a1 a2 σ = some (r0, τ0)) : Ct l yX8_placeOf wsX8_placeOf r_X8_placeOf E [.ref (eA E a0), .int a1, .int a2] σ (some (.int r0)) τ0 := by
  refine Ct_of (by decide) rfl hL hJ (Nat.le_of_ble_eq_true rfl) (fun K hE hl hk hq => ?_)
  subst hE
  exact w_X8_placeOf hk hq F a0 a1 a2 ha0 σ h
end

-- CanonCoteModel.keeps (II)Z
section
theorem dX8_keeps_0 : decode cX8_keeps 0 = .ok (.iconst 1, 1) := by decide +kernel
theorem dX8_keeps_1 : decode cX8_keeps 1 = .ok (.istore_n 3, 1) := by decide +kernel
theorem dX8_keeps_2 : decode cX8_keeps 2 = .ok (.iconst 0, 1) := by decide +kernel
theorem dX8_keeps_3 : decode cX8_keeps 3 = .ok (.istore 4, 2) := by decide +kernel
theorem dX8_keeps_5 : decode cX8_keeps 5 = .ok (.iload 4, 2) := by decide +kernel
theorem dX8_keeps_7 : decode cX8_keeps 7 = .ok (.aload_n 0, 1) := by decide +kernel
theorem dX8_keeps_8 : decode cX8_keeps 8 = .ok (.getfield 7, 3) := by decide +kernel
theorem dX8_keeps_11 : decode cX8_keeps 11 = .ok (.iload_n 1, 1) := by decide +kernel
theorem dX8_keeps_12 : decode cX8_keeps 12 = .ok (.iaload, 1) := by decide +kernel
theorem dX8_keeps_13 : decode cX8_keeps 13 = .ok (.if_icmp .ge 123, 3) := by decide +kernel
theorem dX8_keeps_16 : decode cX8_keeps 16 = .ok (.iload_n 3, 1) := by decide +kernel
theorem dX8_keeps_17 : decode cX8_keeps 17 = .ok (.ifCond .eq 119, 3) := by decide +kernel
theorem dX8_keeps_20 : decode cX8_keeps 20 = .ok (.aload_n 0, 1) := by decide +kernel
theorem dX8_keeps_21 : decode cX8_keeps 21 = .ok (.getfield 16, 3) := by decide +kernel
theorem dX8_keeps_24 : decode cX8_keeps 24 = .ok (.bipush 8, 2) := by decide +kernel
theorem dX8_keeps_26 : decode cX8_keeps 26 = .ok (.iload_n 1, 1) := by decide +kernel
theorem dX8_keeps_27 : decode cX8_keeps 27 = .ok (.imul, 1) := by decide +kernel
theorem dX8_keeps_28 : decode cX8_keeps 28 = .ok (.iload 4, 2) := by decide +kernel
theorem dX8_keeps_30 : decode cX8_keeps 30 = .ok (.iadd, 1) := by decide +kernel
theorem dX8_keeps_31 : decode cX8_keeps 31 = .ok (.iaload, 1) := by decide +kernel
theorem dX8_keeps_32 : decode cX8_keeps 32 = .ok (.aload_n 0, 1) := by decide +kernel
theorem dX8_keeps_33 : decode cX8_keeps 33 = .ok (.getfield 16, 3) := by decide +kernel
theorem dX8_keeps_36 : decode cX8_keeps 36 = .ok (.bipush 8, 2) := by decide +kernel
theorem dX8_keeps_38 : decode cX8_keeps 38 = .ok (.iload_n 2, 1) := by decide +kernel
theorem dX8_keeps_39 : decode cX8_keeps 39 = .ok (.imul, 1) := by decide +kernel
theorem dX8_keeps_40 : decode cX8_keeps 40 = .ok (.aload_n 0, 1) := by decide +kernel
theorem dX8_keeps_41 : decode cX8_keeps 41 = .ok (.getfield 22, 3) := by decide +kernel
theorem dX8_keeps_44 : decode cX8_keeps 44 = .ok (.aload_n 0, 1) := by decide +kernel
theorem dX8_keeps_45 : decode cX8_keeps 45 = .ok (.getfield 19, 3) := by decide +kernel
theorem dX8_keeps_48 : decode cX8_keeps 48 = .ok (.iload 4, 2) := by decide +kernel
theorem dX8_keeps_50 : decode cX8_keeps 50 = .ok (.iaload, 1) := by decide +kernel
theorem dX8_keeps_51 : decode cX8_keeps 51 = .ok (.iaload, 1) := by decide +kernel
theorem dX8_keeps_52 : decode cX8_keeps 52 = .ok (.iadd, 1) := by decide +kernel
theorem dX8_keeps_53 : decode cX8_keeps 53 = .ok (.iaload, 1) := by decide +kernel
theorem dX8_keeps_54 : decode cX8_keeps 54 = .ok (.if_icmp .ne 7, 3) := by decide +kernel
theorem dX8_keeps_57 : decode cX8_keeps 57 = .ok (.iconst 1, 1) := by decide +kernel
theorem dX8_keeps_58 : decode cX8_keeps 58 = .ok (.goto 4, 3) := by decide +kernel
theorem dX8_keeps_61 : decode cX8_keeps 61 = .ok (.iconst 0, 1) := by decide +kernel
theorem dX8_keeps_62 : decode cX8_keeps 62 = .ok (.istore_n 3, 1) := by decide +kernel
theorem dX8_keeps_63 : decode cX8_keeps 63 = .ok (.iconst 0, 1) := by decide +kernel
theorem dX8_keeps_64 : decode cX8_keeps 64 = .ok (.istore 5, 2) := by decide +kernel
theorem dX8_keeps_66 : decode cX8_keeps 66 = .ok (.iload 5, 2) := by decide +kernel
theorem dX8_keeps_68 : decode cX8_keeps 68 = .ok (.iload 4, 2) := by decide +kernel
theorem dX8_keeps_70 : decode cX8_keeps 70 = .ok (.if_icmp .ge 60, 3) := by decide +kernel
theorem dX8_keeps_73 : decode cX8_keeps 73 = .ok (.iload_n 3, 1) := by decide +kernel
theorem dX8_keeps_74 : decode cX8_keeps 74 = .ok (.ifCond .eq 56, 3) := by decide +kernel
theorem dX8_keeps_77 : decode cX8_keeps 77 = .ok (.aload_n 0, 1) := by decide +kernel
theorem dX8_keeps_78 : decode cX8_keeps 78 = .ok (.iload_n 1, 1) := by decide +kernel
theorem dX8_keeps_79 : decode cX8_keeps 79 = .ok (.iload 4, 2) := by decide +kernel
theorem dX8_keeps_81 : decode cX8_keeps 81 = .ok (.iload 5, 2) := by decide +kernel
theorem dX8_keeps_83 : decode cX8_keeps 83 = .ok (.invokevirtual 70, 3) := by decide +kernel
theorem dX8_keeps_86 : decode cX8_keeps 86 = .ok (.aload_n 0, 1) := by decide +kernel
theorem dX8_keeps_87 : decode cX8_keeps 87 = .ok (.iload_n 2, 1) := by decide +kernel
theorem dX8_keeps_88 : decode cX8_keeps 88 = .ok (.aload_n 0, 1) := by decide +kernel
theorem dX8_keeps_89 : decode cX8_keeps 89 = .ok (.getfield 22, 3) := by decide +kernel
theorem dX8_keeps_92 : decode cX8_keeps 92 = .ok (.aload_n 0, 1) := by decide +kernel
theorem dX8_keeps_93 : decode cX8_keeps 93 = .ok (.getfield 19, 3) := by decide +kernel
theorem dX8_keeps_96 : decode cX8_keeps 96 = .ok (.iload 4, 2) := by decide +kernel
theorem dX8_keeps_98 : decode cX8_keeps 98 = .ok (.iaload, 1) := by decide +kernel
theorem dX8_keeps_99 : decode cX8_keeps 99 = .ok (.iaload, 1) := by decide +kernel
theorem dX8_keeps_100 : decode cX8_keeps 100 = .ok (.aload_n 0, 1) := by decide +kernel
theorem dX8_keeps_101 : decode cX8_keeps 101 = .ok (.getfield 22, 3) := by decide +kernel
theorem dX8_keeps_104 : decode cX8_keeps 104 = .ok (.aload_n 0, 1) := by decide +kernel
theorem dX8_keeps_105 : decode cX8_keeps 105 = .ok (.getfield 19, 3) := by decide +kernel
theorem dX8_keeps_108 : decode cX8_keeps 108 = .ok (.iload 5, 2) := by decide +kernel
theorem dX8_keeps_110 : decode cX8_keeps 110 = .ok (.iaload, 1) := by decide +kernel
theorem dX8_keeps_111 : decode cX8_keeps 111 = .ok (.iaload, 1) := by decide +kernel
theorem dX8_keeps_112 : decode cX8_keeps 112 = .ok (.invokevirtual 70, 3) := by decide +kernel
theorem dX8_keeps_115 : decode cX8_keeps 115 = .ok (.if_icmp .ne 7, 3) := by decide +kernel
theorem dX8_keeps_118 : decode cX8_keeps 118 = .ok (.iconst 1, 1) := by decide +kernel
theorem dX8_keeps_119 : decode cX8_keeps 119 = .ok (.goto 4, 3) := by decide +kernel
theorem dX8_keeps_122 : decode cX8_keeps 122 = .ok (.iconst 0, 1) := by decide +kernel
theorem dX8_keeps_123 : decode cX8_keeps 123 = .ok (.istore_n 3, 1) := by decide +kernel
theorem dX8_keeps_124 : decode cX8_keeps 124 = .ok (.iinc 5 1, 3) := by decide +kernel
theorem dX8_keeps_127 : decode cX8_keeps 127 = .ok (.goto (-61), 3) := by decide +kernel
theorem dX8_keeps_130 : decode cX8_keeps 130 = .ok (.iinc 4 1, 3) := by decide +kernel
theorem dX8_keeps_133 : decode cX8_keeps 133 = .ok (.goto (-128), 3) := by decide +kernel
theorem dX8_keeps_136 : decode cX8_keeps 136 = .ok (.iload_n 3, 1) := by decide +kernel
theorem dX8_keeps_137 : decode cX8_keeps 137 = .ok (.ireturn, 1) := by decide +kernel
set_option maxRecDepth 20000 in
theorem ggX8_keeps_X8_hasEdge : GoodIn wsX8_keeps wsX8_hasEdge := goodIn_r _ [9, 10, 11, 12, 13, 14, 15, 16, 17, 18, 19, 20, 21, 22, 23, 24, 25, 26, 27] (by decide +kernel) (by decide +kernel)
set_option maxRecDepth 20000 in
theorem gX8_keeps_X8_hasEdge : GoodIn wsX8_keeps (wsV RX8 70 RX8 yX8_hasEdge wsX8_hasEdge) := goodIn_app (goodIn_of _ (by decide +kernel)) ggX8_keeps_X8_hasEdge
theorem in_X8_keeps_CanonCoteModel : ∀ w ∈ u_ws RX8 TX8 17, w ∈ wsX8_keeps := by decide +kernel
theorem wd_X8_keeps_1 : Cond.fieldLink RX8 7 (TX8 0).1 (TX8 0).2.1 (TX8 0).2.2.1 ∈ wsX8_keeps := by decide +kernel
theorem wd_X8_keeps_2 : Cond.fieldLink RX8 16 (TX8 2).1 (TX8 2).2.1 (TX8 2).2.2.1 ∈ wsX8_keeps := by decide +kernel
theorem wd_X8_keeps_3 : Cond.fieldLink RX8 22 (TX8 4).1 (TX8 4).2.1 (TX8 4).2.2.1 ∈ wsX8_keeps := by decide +kernel
theorem wd_X8_keeps_4 : Cond.fieldLink RX8 19 (TX8 3).1 (TX8 3).2.1 (TX8 3).2.2.1 ∈ wsX8_keeps := by decide +kernel
def r_X8_keeps : Room := { frames := 2, cells := 0, slots := 0, locals := 35 }
set_option maxRecDepth 100000 in
set_option maxHeartbeats 4000000 in
theorem w_X8_keeps_123 {K : zK} (hk : zIs K RX8 cX8_keeps 6 wsX8_keeps (some .boolean) r_X8_keeps) {r0 : Int32} {τ0 : zST} (hq : zQ K (some (.int r0)) τ0) (F : Nat) (k5 : Nat → Int32 → Int32 → Int32 → Int32 → zST → Option (Int32 × zST)) (hk5 : ∀ (a0 : Nat) (a1 : Int32) (a2 : Int32) (a3 : Int32) (a4 : Int32) (ha0 : atCanonCoteModel (kZ K) a0) (σ : zST), k5 a0 a1 a2 a3 a4 σ = some (r0, τ0) → Z K 0 0 5 [(0, .ref (eA (kZ K) a0)), (1, .int a1), (2, .int a2), (3, .int a3), (4, .int a4)] [] σ) (k66 : Nat → Int32 → Int32 → Int32 → Int32 → Int32 → zST → Option (Int32 × zST)) (hk66 : ∀ (a0 : Nat) (a1 : Int32) (a2 : Int32) (a3 : Int32) (a4 : Int32) (a5 : Int32) (ha0 : atCanonCoteModel (kZ K) a0) (σ : zST), k66 a0 a1 a2 a3 a4 a5 σ = some (r0, τ0) → Z K 0 0 66 [(0, .ref (eA (kZ K) a0)), (1, .int a1), (2, .int a2), (3, .int a3), (4, .int a4), (5, .int a5)] [] σ) (a0 : Nat) (a1 : Int32) (a2 : Int32) (a4 : Int32) (a5 : Int32) (t0 : Int32) (ha0 : atCanonCoteModel (kZ K) a0) (σ : zST) (h : m_X8_keeps_123 F k5 k66 a0 a1 a2 a4 a5 t0 σ = some (r0, τ0)) : Z K 0 0 123 [(0, .ref (eA (kZ K) a0)), (1, .int a1), (2, .int a2), (4, .int a4), (5, .int a5)] [.int t0] σ := by
  unfold m_X8_keeps_123 at h
  refine Z_istore_n hk (lv' := [(3, .int t0), (0, .ref (eA (kZ K) a0)), (1, .int a1), (2, .int a2), (4, .int a4), (5, .int a5)]) dX8_keeps_123 rfl (by decide) rfl ?_
  obtain ⟨x42, e43, h⟩ := nm_get h
  refine Z_iinc hk 5 (v := x42) (lv' := [(5, .int x42), (3, .int t0), (0, .ref (eA (kZ K) a0)), (1, .int a1), (2, .int a2), (4, .int a4)]) dX8_keeps_124 rfl (by rw [zc_iinc_1]; exact e43) (by decide) rfl ?_
  refine Z_goto hk (tgt := 66) dX8_keeps_127 (by decide) ?_
  refine Z_sub [2, 3, 4, 1, 5, 0] rfl ?_
  exact hk66 a0 a1 a2 t0 a4 x42 ha0 σ h
set_option maxRecDepth 100000 in
set_option maxHeartbeats 4000000 in
theorem w_X8_keeps_130 {K : zK} (hk : zIs K RX8 cX8_keeps 6 wsX8_keeps (some .boolean) r_X8_keeps) {r0 : Int32} {τ0 : zST} (hq : zQ K (some (.int r0)) τ0) (F : Nat) (k5 : Nat → Int32 → Int32 → Int32 → Int32 → zST → Option (Int32 × zST)) (hk5 : ∀ (a0 : Nat) (a1 : Int32) (a2 : Int32) (a3 : Int32) (a4 : Int32) (ha0 : atCanonCoteModel (kZ K) a0) (σ : zST), k5 a0 a1 a2 a3 a4 σ = some (r0, τ0) → Z K 0 0 5 [(0, .ref (eA (kZ K) a0)), (1, .int a1), (2, .int a2), (3, .int a3), (4, .int a4)] [] σ) (a0 : Nat) (a1 : Int32) (a2 : Int32) (a3 : Int32) (a4 : Int32) (ha0 : atCanonCoteModel (kZ K) a0) (σ : zST) (h : m_X8_keeps_130 F k5 a0 a1 a2 a3 a4 σ = some (r0, τ0)) : Z K 0 0 130 [(0, .ref (eA (kZ K) a0)), (1, .int a1), (2, .int a2), (3, .int a3), (4, .int a4)] [] σ := by
  unfold m_X8_keeps_130 at h
  obtain ⟨x40, e41, h⟩ := nm_get h
  refine Z_iinc hk 4 (v := x40) (lv' := [(4, .int x40), (0, .ref (eA (kZ K) a0)), (1, .int a1), (2, .int a2), (3, .int a3)]) dX8_keeps_130 rfl (by rw [zc_iinc_1]; exact e41) (by decide) rfl ?_
  refine Z_goto hk (tgt := 5) dX8_keeps_133 (by decide) ?_
  refine Z_sub [1, 2, 3, 4, 0] rfl ?_
  exact hk5 a0 a1 a2 a3 x40 ha0 σ h
set_option maxRecDepth 100000 in
set_option maxHeartbeats 4000000 in
theorem w_X8_keeps_66 {K : zK} (hk : zIs K RX8 cX8_keeps 6 wsX8_keeps (some .boolean) r_X8_keeps) {r0 : Int32} {τ0 : zST} (hq : zQ K (some (.int r0)) τ0) (F : Nat) (k5 : Nat → Int32 → Int32 → Int32 → Int32 → zST → Option (Int32 × zST)) (hk5 : ∀ (a0 : Nat) (a1 : Int32) (a2 : Int32) (a3 : Int32) (a4 : Int32) (ha0 : atCanonCoteModel (kZ K) a0) (σ : zST), k5 a0 a1 a2 a3 a4 σ = some (r0, τ0) → Z K 0 0 5 [(0, .ref (eA (kZ K) a0)), (1, .int a1), (2, .int a2), (3, .int a3), (4, .int a4)] [] σ) : ∀ (n : Nat) (a0 : Nat) (a1 : Int32) (a2 : Int32) (a3 : Int32) (a4 : Int32) (a5 : Int32) (ha0 : atCanonCoteModel (kZ K) a0) (σ : zST), m_X8_keeps_66 F k5 n a0 a1 a2 a3 a4 a5 σ = some (r0, τ0) → Z K 0 0 66 [(0, .ref (eA (kZ K) a0)), (1, .int a1), (2, .int a2), (3, .int a3), (4, .int a4), (5, .int a5)] [] σ := by
  intro n
  induction n with
  | zero => intro a0 a1 a2 a3 a4 a5 ha0 σ h; cases h
  | succ n ih =>
    intro a0 a1 a2 a3 a4 a5 ha0 σ h
    rw [m_X8_keeps_66] at h
    refine Z_iload hk 5 dX8_keeps_66 rfl ?_
    refine Z_iload hk 4 dX8_keeps_68 rfl ?_
    refine Z_icmp_ge hk (tgt := 130) dX8_keeps_70 (by decide) (fun c19 => ?_) (fun c19 => ?_)
    · have h := if_yes h c19
      refine Z_sub [0, 1, 2, 3, 4] rfl ?_
      exact w_X8_keeps_130 hk hq F k5 hk5 a0 a1 a2 a3 a4 ha0 σ h
    · have h := if_no h c19
      refine Z_iload_n hk 3 dX8_keeps_73 rfl rfl ?_
      refine Z_if_eq hk (tgt := 130) dX8_keeps_74 (by decide) (fun c20 => ?_) (fun c20 => ?_)
      · have h := if_yes h c20
        refine Z_sub [0, 1, 2, 3, 4] rfl ?_
        exact w_X8_keeps_130 hk hq F k5 hk5 a0 a1 a2 a3 a4 ha0 σ h
      · have h := if_no h c20
        refine Z_aload_n hk 0 dX8_keeps_77 rfl rfl ?_
        refine Z_iload_n hk 1 dX8_keeps_78 rfl rfl ?_
        refine Z_iload hk 4 dX8_keeps_79 rfl ?_
        refine Z_iload hk 5 dX8_keeps_81 rfl ?_
        obtain ⟨x21, s22, h23, h⟩ := bd_ok h
        refine Z_callV 3 hk [.int a1, .int a4, .int a5] (c_X8_hasEdge hk.loc hk.inj F a0 a1 a4 a5 ha0 σ h23) gX8_keeps_X8_hasEdge rfl ⟨rfl, rfl⟩ (by decide +kernel) ⟨Nat.le_of_ble_eq_true rfl, Nat.le_of_ble_eq_true rfl⟩ ha0.cell.1 (ha0.cell.2 _) rfl rfl rfl (Nat.le_of_ble_eq_true rfl) ⟨Nat.zero_le _, Nat.zero_le _⟩ dX8_keeps_83 ?_
        show Z K 0 0 86 [(0, .ref (eA (kZ K) a0)), (1, .int a1), (2, .int a2), (3, .int a3), (4, .int a4), (5, .int a5)] [.int x21] s22
        refine Z_aload_n hk 0 dX8_keeps_86 rfl rfl ?_
        refine Z_iload_n hk 2 dX8_keeps_87 rfl rfl ?_
        refine Z_aload_n hk 0 dX8_keeps_88 rfl rfl ?_
        refine Z_get hk in_X8_keeps_CanonCoteModel rfl ha0.cell.1 (ha0.cell.2 _) 4 (by decide) wd_X8_keeps_3 rfl dX8_keeps_89 ?_
        refine Z_aload_n hk 0 dX8_keeps_92 rfl rfl ?_
        refine Z_get hk in_X8_keeps_CanonCoteModel rfl ha0.cell.1 (ha0.cell.2 _) 3 (by decide) wd_X8_keeps_4 rfl dX8_keeps_93 ?_
        refine Z_iload hk 4 dX8_keeps_96 rfl ?_
        obtain ⟨i26, x24, e25, h⟩ := ldI_get h
        refine Z_iald hk (ha0.map) i26 dX8_keeps_98 ?_
        refine Z_eqI e25 ?_
        obtain ⟨i29, x27, e28, h⟩ := ldI_get h
        refine Z_iald hk (ha0.chosen) i29 dX8_keeps_99 ?_
        refine Z_eqI e28 ?_
        refine Z_aload_n hk 0 dX8_keeps_100 rfl rfl ?_
        refine Z_get hk in_X8_keeps_CanonCoteModel rfl ha0.cell.1 (ha0.cell.2 _) 4 (by decide) wd_X8_keeps_3 rfl dX8_keeps_101 ?_
        refine Z_aload_n hk 0 dX8_keeps_104 rfl rfl ?_
        refine Z_get hk in_X8_keeps_CanonCoteModel rfl ha0.cell.1 (ha0.cell.2 _) 3 (by decide) wd_X8_keeps_4 rfl dX8_keeps_105 ?_
        refine Z_iload hk 5 dX8_keeps_108 rfl ?_
        obtain ⟨i32, x30, e31, h⟩ := ldI_get h
        refine Z_iald hk (ha0.map) i32 dX8_keeps_110 ?_
        refine Z_eqI e31 ?_
        obtain ⟨i35, x33, e34, h⟩ := ldI_get h
        refine Z_iald hk (ha0.chosen) i35 dX8_keeps_111 ?_
        refine Z_eqI e34 ?_
        obtain ⟨x36, s37, h38, h⟩ := bd_ok h
        refine Z_callV 3 hk [.int a2, .int x27, .int x33] (c_X8_hasEdge hk.loc hk.inj F a0 a2 x27 x33 ha0 s22 h38) gX8_keeps_X8_hasEdge rfl ⟨rfl, rfl⟩ (by decide +kernel) ⟨Nat.le_of_ble_eq_true rfl, Nat.le_of_ble_eq_true rfl⟩ ha0.cell.1 (ha0.cell.2 _) rfl rfl rfl (Nat.le_of_ble_eq_true rfl) ⟨Nat.zero_le _, Nat.zero_le _⟩ dX8_keeps_112 ?_
        show Z K 0 0 115 [(0, .ref (eA (kZ K) a0)), (1, .int a1), (2, .int a2), (3, .int a3), (4, .int a4), (5, .int a5)] [.int x36, .int x21] s37
        refine Z_icmp_ne hk (tgt := 122) dX8_keeps_115 (by decide) (fun c39 => ?_) (fun c39 => ?_)
        · have h := if_yes h c39
          refine Z_iconst hk dX8_keeps_118 zc_iconst_1 ?_
          refine Z_goto hk (tgt := 123) dX8_keeps_119 (by decide) ?_
          refine Z_sub [0, 1, 2, 4, 5] rfl ?_
          exact w_X8_keeps_123 hk hq F k5 hk5 (m_X8_keeps_66 F k5 n) ih a0 a1 a2 a4 a5 1 ha0 s37 h
        · have h := if_no h c39
          refine Z_iconst hk dX8_keeps_122 zc_iconst_0 ?_
          refine Z_sub [0, 1, 2, 4, 5] rfl ?_
          exact w_X8_keeps_123 hk hq F k5 hk5 (m_X8_keeps_66 F k5 n) ih a0 a1 a2 a4 a5 0 ha0 s37 h
set_option maxRecDepth 100000 in
set_option maxHeartbeats 4000000 in
theorem w_X8_keeps_62 {K : zK} (hk : zIs K RX8 cX8_keeps 6 wsX8_keeps (some .boolean) r_X8_keeps) {r0 : Int32} {τ0 : zST} (hq : zQ K (some (.int r0)) τ0) (F : Nat) (k5 : Nat → Int32 → Int32 → Int32 → Int32 → zST → Option (Int32 × zST)) (hk5 : ∀ (a0 : Nat) (a1 : Int32) (a2 : Int32) (a3 : Int32) (a4 : Int32) (ha0 : atCanonCoteModel (kZ K) a0) (σ : zST), k5 a0 a1 a2 a3 a4 σ = some (r0, τ0) → Z K 0 0 5 [(0, .ref (eA (kZ K) a0)), (1, .int a1), (2, .int a2), (3, .int a3), (4, .int a4)] [] σ) (a0 : Nat) (a1 : Int32) (a2 : Int32) (a4 : Int32) (t0 : Int32) (ha0 : atCanonCoteModel (kZ K) a0) (σ : zST) (h : m_X8_keeps_62 F k5 a0 a1 a2 a4 t0 σ = some (r0, τ0)) : Z K 0 0 62 [(0, .ref (eA (kZ K) a0)), (1, .int a1), (2, .int a2), (4, .int a4)] [.int t0] σ := by
  unfold m_X8_keeps_62 at h
  refine Z_istore_n hk (lv' := [(3, .int t0), (0, .ref (eA (kZ K) a0)), (1, .int a1), (2, .int a2), (4, .int a4)]) dX8_keeps_62 rfl (by decide) rfl ?_
  refine Z_iconst hk dX8_keeps_63 zc_iconst_0 ?_
  refine Z_istore hk (lv' := [(5, .int 0), (3, .int t0), (0, .ref (eA (kZ K) a0)), (1, .int a1), (2, .int a2), (4, .int a4)]) dX8_keeps_64 (by decide) rfl ?_
  refine Z_sub [2, 3, 4, 1, 5, 0] rfl ?_
  exact w_X8_keeps_66 hk hq F k5 hk5 F a0 a1 a2 t0 a4 0 ha0 σ h
set_option maxRecDepth 100000 in
set_option maxHeartbeats 4000000 in
theorem w_X8_keeps_136 {K : zK} (hk : zIs K RX8 cX8_keeps 6 wsX8_keeps (some .boolean) r_X8_keeps) {r0 : Int32} {τ0 : zST} (hq : zQ K (some (.int r0)) τ0) (F : Nat) (a3 : Int32) (σ : zST) (h : m_X8_keeps_136 F a3 σ = some (r0, τ0)) : Z K 0 0 136 [(3, .int a3)] [] σ := by
  unfold m_X8_keeps_136 at h
  refine Z_iload_n hk 0 dX8_keeps_136 rfl rfl ?_
  obtain ⟨hz, h⟩ := gd_some h
  cases h
  exact Z_zret hk hz hq dX8_keeps_137
set_option maxRecDepth 100000 in
set_option maxHeartbeats 4000000 in
theorem w_X8_keeps_5 {K : zK} (hk : zIs K RX8 cX8_keeps 6 wsX8_keeps (some .boolean) r_X8_keeps) {r0 : Int32} {τ0 : zST} (hq : zQ K (some (.int r0)) τ0) (F : Nat) : ∀ (n : Nat) (a0 : Nat) (a1 : Int32) (a2 : Int32) (a3 : Int32) (a4 : Int32) (ha0 : atCanonCoteModel (kZ K) a0) (σ : zST), m_X8_keeps_5 F n a0 a1 a2 a3 a4 σ = some (r0, τ0) → Z K 0 0 5 [(0, .ref (eA (kZ K) a0)), (1, .int a1), (2, .int a2), (3, .int a3), (4, .int a4)] [] σ := by
  intro n
  induction n with
  | zero => intro a0 a1 a2 a3 a4 ha0 σ h; cases h
  | succ n ih =>
    intro a0 a1 a2 a3 a4 ha0 σ h
    rw [m_X8_keeps_5] at h
    refine Z_iload hk 4 dX8_keeps_5 rfl ?_
    refine Z_aload_n hk 0 dX8_keeps_7 rfl rfl ?_
    refine Z_get hk in_X8_keeps_CanonCoteModel rfl ha0.cell.1 (ha0.cell.2 _) 0 (by decide) wd_X8_keeps_1 rfl dX8_keeps_8 ?_
    refine Z_iload_n hk 1 dX8_keeps_11 rfl rfl ?_
    obtain ⟨i3, x1, e2, h⟩ := ldI_get h
    refine Z_iald hk (ha0.sizes) i3 dX8_keeps_12 ?_
    refine Z_eqI e2 ?_
    refine Z_icmp_ge hk (tgt := 136) dX8_keeps_13 (by decide) (fun c4 => ?_) (fun c4 => ?_)
    · have h := if_yes h c4
      refine Z_sub [3] rfl ?_
      exact w_X8_keeps_136 hk hq F a3 σ h
    · have h := if_no h c4
      refine Z_iload_n hk 3 dX8_keeps_16 rfl rfl ?_
      refine Z_if_eq hk (tgt := 136) dX8_keeps_17 (by decide) (fun c5 => ?_) (fun c5 => ?_)
      · have h := if_yes h c5
        refine Z_sub [3] rfl ?_
        exact w_X8_keeps_136 hk hq F a3 σ h
      · have h := if_no h c5
        refine Z_aload_n hk 0 dX8_keeps_20 rfl rfl ?_
        refine Z_get hk in_X8_keeps_CanonCoteModel rfl ha0.cell.1 (ha0.cell.2 _) 2 (by decide) wd_X8_keeps_2 rfl dX8_keeps_21 ?_
        refine Z_bipush hk dX8_keeps_24 zc_bipush_8 ?_
        refine Z_iload_n hk 1 dX8_keeps_26 rfl rfl ?_
        refine Z_imul hk dX8_keeps_27 ?_
        refine Z_iload hk 4 dX8_keeps_28 rfl ?_
        refine Z_iadd hk dX8_keeps_30 ?_
        obtain ⟨i8, x6, e7, h⟩ := ldI_get h
        refine Z_iald hk (ha0.colours) i8 dX8_keeps_31 ?_
        refine Z_eqI e7 ?_
        refine Z_aload_n hk 0 dX8_keeps_32 rfl rfl ?_
        refine Z_get hk in_X8_keeps_CanonCoteModel rfl ha0.cell.1 (ha0.cell.2 _) 2 (by decide) wd_X8_keeps_2 rfl dX8_keeps_33 ?_
        refine Z_bipush hk dX8_keeps_36 zc_bipush_8 ?_
        refine Z_iload_n hk 2 dX8_keeps_38 rfl rfl ?_
        refine Z_imul hk dX8_keeps_39 ?_
        refine Z_aload_n hk 0 dX8_keeps_40 rfl rfl ?_
        refine Z_get hk in_X8_keeps_CanonCoteModel rfl ha0.cell.1 (ha0.cell.2 _) 4 (by decide) wd_X8_keeps_3 rfl dX8_keeps_41 ?_
        refine Z_aload_n hk 0 dX8_keeps_44 rfl rfl ?_
        refine Z_get hk in_X8_keeps_CanonCoteModel rfl ha0.cell.1 (ha0.cell.2 _) 3 (by decide) wd_X8_keeps_4 rfl dX8_keeps_45 ?_
        refine Z_iload hk 4 dX8_keeps_48 rfl ?_
        obtain ⟨i11, x9, e10, h⟩ := ldI_get h
        refine Z_iald hk (ha0.map) i11 dX8_keeps_50 ?_
        refine Z_eqI e10 ?_
        obtain ⟨i14, x12, e13, h⟩ := ldI_get h
        refine Z_iald hk (ha0.chosen) i14 dX8_keeps_51 ?_
        refine Z_eqI e13 ?_
        refine Z_iadd hk dX8_keeps_52 ?_
        obtain ⟨i17, x15, e16, h⟩ := ldI_get h
        refine Z_iald hk (ha0.colours) i17 dX8_keeps_53 ?_
        refine Z_eqI e16 ?_
        refine Z_icmp_ne hk (tgt := 61) dX8_keeps_54 (by decide) (fun c18 => ?_) (fun c18 => ?_)
        · have h := if_yes h c18
          refine Z_iconst hk dX8_keeps_57 zc_iconst_1 ?_
          refine Z_goto hk (tgt := 62) dX8_keeps_58 (by decide) ?_
          refine Z_sub [0, 1, 2, 4] rfl ?_
          exact w_X8_keeps_62 hk hq F (m_X8_keeps_5 F n) ih a0 a1 a2 a4 1 ha0 σ h
        · have h := if_no h c18
          refine Z_iconst hk dX8_keeps_61 zc_iconst_0 ?_
          refine Z_sub [0, 1, 2, 4] rfl ?_
          exact w_X8_keeps_62 hk hq F (m_X8_keeps_5 F n) ih a0 a1 a2 a4 0 ha0 σ h
set_option maxRecDepth 100000 in
set_option maxHeartbeats 4000000 in
theorem w_X8_keeps {K : zK} (hk : zIs K RX8 cX8_keeps 6 wsX8_keeps (some .boolean) r_X8_keeps) {r0 : Int32} {τ0 : zST} (hq : zQ K (some (.int r0)) τ0) (F : Nat) (a0 : Nat) (a1 : Int32) (a2 : Int32) (ha0 : atCanonCoteModel (kZ K) a0) (σ : zST) (h : m_X8_keeps F a0 a1 a2 σ = some (r0, τ0)) : Z K 0 0 0 [(0, .ref (eA (kZ K) a0)), (1, .int a1), (2, .int a2)] [] σ := by
  unfold m_X8_keeps at h
  refine Z_iconst hk dX8_keeps_0 zc_iconst_1 ?_
  refine Z_istore_n hk (lv' := [(3, .int 1), (0, .ref (eA (kZ K) a0)), (1, .int a1), (2, .int a2)]) dX8_keeps_1 rfl (by decide) rfl ?_
  refine Z_iconst hk dX8_keeps_2 zc_iconst_0 ?_
  refine Z_istore hk (lv' := [(4, .int 0), (3, .int 1), (0, .ref (eA (kZ K) a0)), (1, .int a1), (2, .int a2)]) dX8_keeps_3 (by decide) rfl ?_
  refine Z_sub [2, 3, 4, 1, 0] rfl ?_
  exact w_X8_keeps_5 hk hq F F a0 a1 a2 1 0 ha0 σ h
theorem c_X8_keeps {l : Launch} {E : zE} (hL : eL E) (hJ : eJ E) (F : Nat) (a0 : Nat) (a1 : Int32) (a2 : Int32) (ha0 : atCanonCoteModel E a0) (σ : zST) {r0 : Int32} {τ0 : zST} (h : m_X8_keeps F a0 a1 a2 σ = some (r0, τ0)) : Ct l yX8_keeps wsX8_keeps r_X8_keeps E [.ref (eA E a0), .int a1, .int a2] σ (some (.int r0)) τ0 := by
  refine Ct_of (by decide) rfl hL hJ (Nat.le_of_ble_eq_true rfl) (fun K hE hl hk hq => ?_)
  subst hE
  exact w_X8_keeps hk hq F a0 a1 a2 ha0 σ h
end

-- CanonCoteModel.chooses (I)I
section
theorem dX8_chooses_0 : decode cX8_chooses 0 = .ok (.iconst 0, 1) := by decide +kernel
theorem dX8_chooses_1 : decode cX8_chooses 1 = .ok (.istore_n 2, 1) := by decide +kernel
theorem dX8_chooses_2 : decode cX8_chooses 2 = .ok (.iconst 0, 1) := by decide +kernel
theorem dX8_chooses_3 : decode cX8_chooses 3 = .ok (.istore_n 3, 1) := by decide +kernel
theorem dX8_chooses_4 : decode cX8_chooses 4 = .ok (.iload_n 3, 1) := by decide +kernel
theorem dX8_chooses_5 : decode cX8_chooses 5 = .ok (.bipush 8, 2) := by decide +kernel
theorem dX8_chooses_7 : decode cX8_chooses 7 = .ok (.if_icmp .ge 28, 3) := by decide +kernel
theorem dX8_chooses_10 : decode cX8_chooses 10 = .ok (.iload_n 1, 1) := by decide +kernel
theorem dX8_chooses_11 : decode cX8_chooses 11 = .ok (.iload_n 3, 1) := by decide +kernel
theorem dX8_chooses_12 : decode cX8_chooses 12 = .ok (.ishr, 1) := by decide +kernel
theorem dX8_chooses_13 : decode cX8_chooses 13 = .ok (.iconst 1, 1) := by decide +kernel
theorem dX8_chooses_14 : decode cX8_chooses 14 = .ok (.iand, 1) := by decide +kernel
theorem dX8_chooses_15 : decode cX8_chooses 15 = .ok (.iconst 1, 1) := by decide +kernel
theorem dX8_chooses_16 : decode cX8_chooses 16 = .ok (.if_icmp .ne 13, 3) := by decide +kernel
theorem dX8_chooses_19 : decode cX8_chooses 19 = .ok (.aload_n 0, 1) := by decide +kernel
theorem dX8_chooses_20 : decode cX8_chooses 20 = .ok (.getfield 22, 3) := by decide +kernel
theorem dX8_chooses_23 : decode cX8_chooses 23 = .ok (.iload_n 2, 1) := by decide +kernel
theorem dX8_chooses_24 : decode cX8_chooses 24 = .ok (.iload_n 3, 1) := by decide +kernel
theorem dX8_chooses_25 : decode cX8_chooses 25 = .ok (.iastore, 1) := by decide +kernel
theorem dX8_chooses_26 : decode cX8_chooses 26 = .ok (.iinc 2 1, 3) := by decide +kernel
theorem dX8_chooses_29 : decode cX8_chooses 29 = .ok (.iinc 3 1, 3) := by decide +kernel
theorem dX8_chooses_32 : decode cX8_chooses 32 = .ok (.goto (-28), 3) := by decide +kernel
theorem dX8_chooses_35 : decode cX8_chooses 35 = .ok (.iload_n 2, 1) := by decide +kernel
theorem dX8_chooses_36 : decode cX8_chooses 36 = .ok (.ireturn, 1) := by decide +kernel
theorem in_X8_chooses_CanonCoteModel : ∀ w ∈ u_ws RX8 TX8 17, w ∈ wsX8_chooses := by decide +kernel
theorem wd_X8_chooses_1 : Cond.fieldLink RX8 22 (TX8 4).1 (TX8 4).2.1 (TX8 4).2.2.1 ∈ wsX8_chooses := by decide +kernel
def r_X8_chooses : Room := { frames := 1, cells := 0, slots := 0, locals := 12 }
set_option maxRecDepth 100000 in
set_option maxHeartbeats 4000000 in
theorem w_X8_chooses_29 {K : zK} (hk : zIs K RX8 cX8_chooses 4 wsX8_chooses (some .int) r_X8_chooses) {r0 : Int32} {τ0 : zST} (hq : zQ K (some (.int r0)) τ0) (F : Nat) (k4 : Nat → Int32 → Int32 → Int32 → zST → Option (Int32 × zST)) (hk4 : ∀ (a0 : Nat) (a1 : Int32) (a2 : Int32) (a3 : Int32) (ha0 : atCanonCoteModel (kZ K) a0) (σ : zST), k4 a0 a1 a2 a3 σ = some (r0, τ0) → Z K 0 0 4 [(0, .ref (eA (kZ K) a0)), (1, .int a1), (2, .int a2), (3, .int a3)] [] σ) (a0 : Nat) (a1 : Int32) (a2 : Int32) (a3 : Int32) (ha0 : atCanonCoteModel (kZ K) a0) (σ : zST) (h : m_X8_chooses_29 F k4 a0 a1 a2 a3 σ = some (r0, τ0)) : Z K 0 0 29 [(0, .ref (eA (kZ K) a0)), (1, .int a1), (2, .int a2), (3, .int a3)] [] σ := by
  unfold m_X8_chooses_29 at h
  obtain ⟨x8, e9, h⟩ := nm_get h
  refine Z_iinc hk 3 (v := x8) (lv' := [(3, .int x8), (0, .ref (eA (kZ K) a0)), (1, .int a1), (2, .int a2)]) dX8_chooses_29 rfl (by rw [zc_iinc_1]; exact e9) (by decide) rfl ?_
  refine Z_goto hk (tgt := 4) dX8_chooses_32 (by decide) ?_
  refine Z_sub [1, 2, 3, 0] rfl ?_
  exact hk4 a0 a1 a2 x8 ha0 σ h
set_option maxRecDepth 100000 in
set_option maxHeartbeats 4000000 in
theorem w_X8_chooses_4 {K : zK} (hk : zIs K RX8 cX8_chooses 4 wsX8_chooses (some .int) r_X8_chooses) {r0 : Int32} {τ0 : zST} (hq : zQ K (some (.int r0)) τ0) (F : Nat) : ∀ (n : Nat) (a0 : Nat) (a1 : Int32) (a2 : Int32) (a3 : Int32) (ha0 : atCanonCoteModel (kZ K) a0) (σ : zST), m_X8_chooses_4 F n a0 a1 a2 a3 σ = some (r0, τ0) → Z K 0 0 4 [(0, .ref (eA (kZ K) a0)), (1, .int a1), (2, .int a2), (3, .int a3)] [] σ := by
  intro n
  induction n with
  | zero => intro a0 a1 a2 a3 ha0 σ h; cases h
  | succ n ih =>
    intro a0 a1 a2 a3 ha0 σ h
    rw [m_X8_chooses_4] at h
    refine Z_iload_n hk 3 dX8_chooses_4 rfl rfl ?_
    refine Z_bipush hk dX8_chooses_5 zc_bipush_8 ?_
    refine Z_icmp_ge hk (tgt := 35) dX8_chooses_7 (by decide) (fun c1 => ?_) (fun c1 => ?_)
    · have h := if_yes h c1
      refine Z_iload_n hk 2 dX8_chooses_35 rfl rfl ?_
      cases h
      exact Z_iret hk hq dX8_chooses_36
    · have h := if_no h c1
      refine Z_iload_n hk 1 dX8_chooses_10 rfl rfl ?_
      refine Z_iload_n hk 3 dX8_chooses_11 rfl rfl ?_
      refine Z_ishr hk dX8_chooses_12 ?_
      refine Z_iconst hk dX8_chooses_13 zc_iconst_1 ?_
      refine Z_iand hk dX8_chooses_14 ?_
      refine Z_iconst hk dX8_chooses_15 zc_iconst_1 ?_
      refine Z_icmp_ne hk (tgt := 29) dX8_chooses_16 (by decide) (fun c2 => ?_) (fun c2 => ?_)
      · have h := if_yes h c2
        refine Z_aload_n hk 0 dX8_chooses_19 rfl rfl ?_
        refine Z_get hk in_X8_chooses_CanonCoteModel rfl ha0.cell.1 (ha0.cell.2 _) 4 (by decide) wd_X8_chooses_1 rfl dX8_chooses_20 ?_
        refine Z_iload_n hk 2 dX8_chooses_23 rfl rfl ?_
        refine Z_iload_n hk 3 dX8_chooses_24 rfl rfl ?_
        obtain ⟨i5, s3, e4, h⟩ := stI_get h
        refine Z_iast hk (ha0.chosen) i5 dX8_chooses_25 ?_
        refine Z_eqS e4 ?_
        obtain ⟨x6, e7, h⟩ := nm_get h
        refine Z_iinc hk 2 (v := x6) (lv' := [(2, .int x6), (0, .ref (eA (kZ K) a0)), (1, .int a1), (3, .int a3)]) dX8_chooses_26 rfl (by rw [zc_iinc_1]; exact e7) (by decide) rfl ?_
        refine Z_sub [1, 2, 0, 3] rfl ?_
        exact w_X8_chooses_29 hk hq F (m_X8_chooses_4 F n) ih a0 a1 x6 a3 ha0 s3 h
      · have h := if_no h c2
        refine Z_sub [0, 1, 2, 3] rfl ?_
        exact w_X8_chooses_29 hk hq F (m_X8_chooses_4 F n) ih a0 a1 a2 a3 ha0 σ h
set_option maxRecDepth 100000 in
set_option maxHeartbeats 4000000 in
theorem w_X8_chooses {K : zK} (hk : zIs K RX8 cX8_chooses 4 wsX8_chooses (some .int) r_X8_chooses) {r0 : Int32} {τ0 : zST} (hq : zQ K (some (.int r0)) τ0) (F : Nat) (a0 : Nat) (a1 : Int32) (ha0 : atCanonCoteModel (kZ K) a0) (σ : zST) (h : m_X8_chooses F a0 a1 σ = some (r0, τ0)) : Z K 0 0 0 [(0, .ref (eA (kZ K) a0)), (1, .int a1)] [] σ := by
  unfold m_X8_chooses at h
  refine Z_iconst hk dX8_chooses_0 zc_iconst_0 ?_
  refine Z_istore_n hk (lv' := [(2, .int 0), (0, .ref (eA (kZ K) a0)), (1, .int a1)]) dX8_chooses_1 rfl (by decide) rfl ?_
  refine Z_iconst hk dX8_chooses_2 zc_iconst_0 ?_
  refine Z_istore_n hk (lv' := [(3, .int 0), (2, .int 0), (0, .ref (eA (kZ K) a0)), (1, .int a1)]) dX8_chooses_3 rfl (by decide) rfl ?_
  refine Z_sub [2, 3, 1, 0] rfl ?_
  exact w_X8_chooses_4 hk hq F F a0 a1 0 0 ha0 σ h
theorem c_X8_chooses {l : Launch} {E : zE} (hL : eL E) (hJ : eJ E) (F : Nat) (a0 : Nat) (a1 : Int32) (ha0 : atCanonCoteModel E a0) (σ : zST) {r0 : Int32} {τ0 : zST} (h : m_X8_chooses F a0 a1 σ = some (r0, τ0)) : Ct l yX8_chooses wsX8_chooses r_X8_chooses E [.ref (eA E a0), .int a1] σ (some (.int r0)) τ0 := by
  refine Ct_of (by decide) rfl hL hJ (Nat.le_of_ble_eq_true rfl) (fun K hE hl hk hq => ?_)
  subst hE
  exact w_X8_chooses hk hq F a0 a1 ha0 σ h
end

-- CanonCoteModel.isMapped (II)Z
section
theorem dX8_isMapped_0 : decode cX8_isMapped 0 = .ok (.aload_n 0, 1) := by decide +kernel
theorem dX8_isMapped_1 : decode cX8_isMapped 1 = .ok (.aload_n 0, 1) := by decide +kernel
theorem dX8_isMapped_2 : decode cX8_isMapped 2 = .ok (.getfield 7, 3) := by decide +kernel
theorem dX8_isMapped_5 : decode cX8_isMapped 5 = .ok (.iload_n 1, 1) := by decide +kernel
theorem dX8_isMapped_6 : decode cX8_isMapped 6 = .ok (.iaload, 1) := by decide +kernel
theorem dX8_isMapped_7 : decode cX8_isMapped 7 = .ok (.invokevirtual 114, 3) := by decide +kernel
theorem dX8_isMapped_10 : decode cX8_isMapped 10 = .ok (.aload_n 0, 1) := by decide +kernel
theorem dX8_isMapped_11 : decode cX8_isMapped 11 = .ok (.iload_n 1, 1) := by decide +kernel
theorem dX8_isMapped_12 : decode cX8_isMapped 12 = .ok (.iload_n 2, 1) := by decide +kernel
theorem dX8_isMapped_13 : decode cX8_isMapped 13 = .ok (.invokevirtual 128, 3) := by decide +kernel
theorem dX8_isMapped_16 : decode cX8_isMapped 16 = .ok (.istore_n 3, 1) := by decide +kernel
theorem dX8_isMapped_17 : decode cX8_isMapped 17 = .ok (.iload_n 3, 1) := by decide +kernel
theorem dX8_isMapped_18 : decode cX8_isMapped 18 = .ok (.ifCond .ne 26, 3) := by decide +kernel
theorem dX8_isMapped_21 : decode cX8_isMapped 21 = .ok (.aload_n 0, 1) := by decide +kernel
theorem dX8_isMapped_22 : decode cX8_isMapped 22 = .ok (.aload_n 0, 1) := by decide +kernel
theorem dX8_isMapped_23 : decode cX8_isMapped 23 = .ok (.getfield 7, 3) := by decide +kernel
theorem dX8_isMapped_26 : decode cX8_isMapped 26 = .ok (.iload_n 1, 1) := by decide +kernel
theorem dX8_isMapped_27 : decode cX8_isMapped 27 = .ok (.iaload, 1) := by decide +kernel
theorem dX8_isMapped_28 : decode cX8_isMapped 28 = .ok (.invokevirtual 122, 3) := by decide +kernel
theorem dX8_isMapped_31 : decode cX8_isMapped 31 = .ok (.ifCond .eq 13, 3) := by decide +kernel
theorem dX8_isMapped_34 : decode cX8_isMapped 34 = .ok (.aload_n 0, 1) := by decide +kernel
theorem dX8_isMapped_35 : decode cX8_isMapped 35 = .ok (.iload_n 1, 1) := by decide +kernel
theorem dX8_isMapped_36 : decode cX8_isMapped 36 = .ok (.iload_n 2, 1) := by decide +kernel
theorem dX8_isMapped_37 : decode cX8_isMapped 37 = .ok (.invokevirtual 128, 3) := by decide +kernel
theorem dX8_isMapped_40 : decode cX8_isMapped 40 = .ok (.istore_n 3, 1) := by decide +kernel
theorem dX8_isMapped_41 : decode cX8_isMapped 41 = .ok (.goto (-24), 3) := by decide +kernel
theorem dX8_isMapped_44 : decode cX8_isMapped 44 = .ok (.iload_n 3, 1) := by decide +kernel
theorem dX8_isMapped_45 : decode cX8_isMapped 45 = .ok (.ireturn, 1) := by decide +kernel
set_option maxRecDepth 20000 in
theorem ggX8_isMapped_X8_beginsMaps : GoodIn wsX8_isMapped wsX8_beginsMaps := goodIn_r _ [6, 7, 23, 24, 25, 26, 27, 28, 29, 30, 31, 32, 33, 34, 35, 36, 37, 38, 39] (by decide +kernel) (by decide +kernel)
set_option maxRecDepth 20000 in
theorem gX8_isMapped_X8_beginsMaps : GoodIn wsX8_isMapped (wsV RX8 114 RX8 yX8_beginsMaps wsX8_beginsMaps) := goodIn_app (goodIn_of _ (by decide +kernel)) ggX8_isMapped_X8_beginsMaps
set_option maxRecDepth 20000 in
theorem ggX8_isMapped_X8_keeps : GoodIn wsX8_isMapped wsX8_keeps := goodIn_r _ [11, 1, 12, 13, 7, 14, 15, 16, 5, 17, 18, 23, 24, 25, 26, 27, 28, 29, 30, 31, 32, 33, 34, 35, 36, 37, 38, 39] (by decide +kernel) (by decide +kernel)
set_option maxRecDepth 20000 in
theorem gX8_isMapped_X8_keeps : GoodIn wsX8_isMapped (wsV RX8 128 RX8 yX8_keeps wsX8_keeps) := goodIn_app (goodIn_of _ (by decide +kernel)) ggX8_isMapped_X8_keeps
set_option maxRecDepth 20000 in
theorem ggX8_isMapped_X8_nextMap : GoodIn wsX8_isMapped wsX8_nextMap := goodIn_r _ [22, 7, 23, 24, 25, 26, 27, 28, 29, 30, 31, 32, 33, 34, 35, 36, 37, 38, 39] (by decide +kernel) (by decide +kernel)
set_option maxRecDepth 20000 in
theorem gX8_isMapped_X8_nextMap : GoodIn wsX8_isMapped (wsV RX8 122 RX8 yX8_nextMap wsX8_nextMap) := goodIn_app (goodIn_of _ (by decide +kernel)) ggX8_isMapped_X8_nextMap
theorem in_X8_isMapped_CanonCoteModel : ∀ w ∈ u_ws RX8 TX8 17, w ∈ wsX8_isMapped := by decide +kernel
theorem wd_X8_isMapped_1 : Cond.fieldLink RX8 7 (TX8 0).1 (TX8 0).2.1 (TX8 0).2.2.1 ∈ wsX8_isMapped := by decide +kernel
def r_X8_isMapped : Room := { frames := 3, cells := 0, slots := 0, locals := 60 }
set_option maxRecDepth 100000 in
set_option maxHeartbeats 4000000 in
theorem w_X8_isMapped_44 {K : zK} (hk : zIs K RX8 cX8_isMapped 4 wsX8_isMapped (some .boolean) r_X8_isMapped) {r0 : Int32} {τ0 : zST} (hq : zQ K (some (.int r0)) τ0) (F : Nat) (a3 : Int32) (σ : zST) (h : m_X8_isMapped_44 F a3 σ = some (r0, τ0)) : Z K 0 0 44 [(3, .int a3)] [] σ := by
  unfold m_X8_isMapped_44 at h
  refine Z_iload_n hk 0 dX8_isMapped_44 rfl rfl ?_
  obtain ⟨hz, h⟩ := gd_some h
  cases h
  exact Z_zret hk hz hq dX8_isMapped_45
set_option maxRecDepth 100000 in
set_option maxHeartbeats 4000000 in
theorem w_X8_isMapped_17 {K : zK} (hk : zIs K RX8 cX8_isMapped 4 wsX8_isMapped (some .boolean) r_X8_isMapped) {r0 : Int32} {τ0 : zST} (hq : zQ K (some (.int r0)) τ0) (F : Nat) : ∀ (n : Nat) (a0 : Nat) (a1 : Int32) (a2 : Int32) (a3 : Int32) (ha0 : atCanonCoteModel (kZ K) a0) (σ : zST), m_X8_isMapped_17 F n a0 a1 a2 a3 σ = some (r0, τ0) → Z K 0 0 17 [(0, .ref (eA (kZ K) a0)), (1, .int a1), (2, .int a2), (3, .int a3)] [] σ := by
  intro n
  induction n with
  | zero => intro a0 a1 a2 a3 ha0 σ h; cases h
  | succ n ih =>
    intro a0 a1 a2 a3 ha0 σ h
    rw [m_X8_isMapped_17] at h
    refine Z_iload_n hk 3 dX8_isMapped_17 rfl rfl ?_
    refine Z_if_ne hk (tgt := 44) dX8_isMapped_18 (by decide) (fun c10 => ?_) (fun c10 => ?_)
    · have h := if_yes h c10
      refine Z_aload_n hk 0 dX8_isMapped_21 rfl rfl ?_
      refine Z_aload_n hk 0 dX8_isMapped_22 rfl rfl ?_
      refine Z_get hk in_X8_isMapped_CanonCoteModel rfl ha0.cell.1 (ha0.cell.2 _) 0 (by decide) wd_X8_isMapped_1 rfl dX8_isMapped_23 ?_
      refine Z_iload_n hk 1 dX8_isMapped_26 rfl rfl ?_
      obtain ⟨i13, x11, e12, h⟩ := ldI_get h
      refine Z_iald hk (ha0.sizes) i13 dX8_isMapped_27 ?_
      refine Z_eqI e12 ?_
      obtain ⟨x14, s15, h16, h⟩ := bd_ok h
      refine Z_callV 1 hk [.int x11] (c_X8_nextMap hk.loc hk.inj F a0 x11 ha0 σ h16) gX8_isMapped_X8_nextMap rfl ⟨rfl, rfl⟩ (by decide +kernel) ⟨Nat.le_of_ble_eq_true rfl, Nat.le_of_ble_eq_true rfl⟩ ha0.cell.1 (ha0.cell.2 _) rfl rfl rfl (Nat.le_of_ble_eq_true rfl) ⟨Nat.zero_le _, Nat.zero_le _⟩ dX8_isMapped_28 ?_
      show Z K 0 0 31 [(0, .ref (eA (kZ K) a0)), (1, .int a1), (2, .int a2), (3, .int a3)] [.int x14] s15
      refine Z_if_eq hk (tgt := 44) dX8_isMapped_31 (by decide) (fun c17 => ?_) (fun c17 => ?_)
      · have h := if_yes h c17
        refine Z_sub [3] rfl ?_
        exact w_X8_isMapped_44 hk hq F a3 s15 h
      · have h := if_no h c17
        refine Z_aload_n hk 0 dX8_isMapped_34 rfl rfl ?_
        refine Z_iload_n hk 1 dX8_isMapped_35 rfl rfl ?_
        refine Z_iload_n hk 2 dX8_isMapped_36 rfl rfl ?_
        obtain ⟨x18, s19, h20, h⟩ := bd_ok h
        refine Z_callV 2 hk [.int a1, .int a2] (c_X8_keeps hk.loc hk.inj F a0 a1 a2 ha0 s15 h20) gX8_isMapped_X8_keeps rfl ⟨rfl, rfl⟩ (by decide +kernel) ⟨Nat.le_of_ble_eq_true rfl, Nat.le_of_ble_eq_true rfl⟩ ha0.cell.1 (ha0.cell.2 _) rfl rfl rfl (Nat.le_of_ble_eq_true rfl) ⟨Nat.zero_le _, Nat.zero_le _⟩ dX8_isMapped_37 ?_
        show Z K 0 0 40 [(0, .ref (eA (kZ K) a0)), (1, .int a1), (2, .int a2), (3, .int a3)] [.int x18] s19
        refine Z_istore_n hk (lv' := [(3, .int x18), (0, .ref (eA (kZ K) a0)), (1, .int a1), (2, .int a2)]) dX8_isMapped_40 rfl (by decide) rfl ?_
        refine Z_goto hk (tgt := 17) dX8_isMapped_41 (by decide) ?_
        refine Z_sub [1, 2, 3, 0] rfl ?_
        exact ih a0 a1 a2 x18 ha0 s19 h
    · have h := if_no h c10
      refine Z_sub [3] rfl ?_
      exact w_X8_isMapped_44 hk hq F a3 σ h
set_option maxRecDepth 100000 in
set_option maxHeartbeats 4000000 in
theorem w_X8_isMapped {K : zK} (hk : zIs K RX8 cX8_isMapped 4 wsX8_isMapped (some .boolean) r_X8_isMapped) {r0 : Int32} {τ0 : zST} (hq : zQ K (some (.int r0)) τ0) (F : Nat) (a0 : Nat) (a1 : Int32) (a2 : Int32) (ha0 : atCanonCoteModel (kZ K) a0) (σ : zST) (h : m_X8_isMapped F a0 a1 a2 σ = some (r0, τ0)) : Z K 0 0 0 [(0, .ref (eA (kZ K) a0)), (1, .int a1), (2, .int a2)] [] σ := by
  unfold m_X8_isMapped at h
  refine Z_aload_n hk 0 dX8_isMapped_0 rfl rfl ?_
  refine Z_aload_n hk 0 dX8_isMapped_1 rfl rfl ?_
  refine Z_get hk in_X8_isMapped_CanonCoteModel rfl ha0.cell.1 (ha0.cell.2 _) 0 (by decide) wd_X8_isMapped_1 rfl dX8_isMapped_2 ?_
  refine Z_iload_n hk 1 dX8_isMapped_5 rfl rfl ?_
  obtain ⟨i3, x1, e2, h⟩ := ldI_get h
  refine Z_iald hk (ha0.sizes) i3 dX8_isMapped_6 ?_
  refine Z_eqI e2 ?_
  obtain ⟨s5, h6, h⟩ := bv_ok h
  refine Z_callV 1 hk [.int x1] (c_X8_beginsMaps hk.loc hk.inj F a0 x1 ha0 σ h6) gX8_isMapped_X8_beginsMaps rfl ⟨rfl, rfl⟩ (by decide +kernel) ⟨Nat.le_of_ble_eq_true rfl, Nat.le_of_ble_eq_true rfl⟩ ha0.cell.1 (ha0.cell.2 _) rfl rfl rfl (Nat.le_of_ble_eq_true rfl) ⟨Nat.zero_le _, Nat.zero_le _⟩ dX8_isMapped_7 ?_
  show Z K 0 0 10 [(0, .ref (eA (kZ K) a0)), (1, .int a1), (2, .int a2)] [] s5
  refine Z_aload_n hk 0 dX8_isMapped_10 rfl rfl ?_
  refine Z_iload_n hk 1 dX8_isMapped_11 rfl rfl ?_
  refine Z_iload_n hk 2 dX8_isMapped_12 rfl rfl ?_
  obtain ⟨x7, s8, h9, h⟩ := bd_ok h
  refine Z_callV 2 hk [.int a1, .int a2] (c_X8_keeps hk.loc hk.inj F a0 a1 a2 ha0 s5 h9) gX8_isMapped_X8_keeps rfl ⟨rfl, rfl⟩ (by decide +kernel) ⟨Nat.le_of_ble_eq_true rfl, Nat.le_of_ble_eq_true rfl⟩ ha0.cell.1 (ha0.cell.2 _) rfl rfl rfl (Nat.le_of_ble_eq_true rfl) ⟨Nat.zero_le _, Nat.zero_le _⟩ dX8_isMapped_13 ?_
  show Z K 0 0 16 [(0, .ref (eA (kZ K) a0)), (1, .int a1), (2, .int a2)] [.int x7] s8
  refine Z_istore_n hk (lv' := [(3, .int x7), (0, .ref (eA (kZ K) a0)), (1, .int a1), (2, .int a2)]) dX8_isMapped_16 rfl (by decide) rfl ?_
  refine Z_sub [1, 2, 3, 0] rfl ?_
  exact w_X8_isMapped_17 hk hq F F a0 a1 a2 x7 ha0 s8 h
theorem c_X8_isMapped {l : Launch} {E : zE} (hL : eL E) (hJ : eJ E) (F : Nat) (a0 : Nat) (a1 : Int32) (a2 : Int32) (ha0 : atCanonCoteModel E a0) (σ : zST) {r0 : Int32} {τ0 : zST} (h : m_X8_isMapped F a0 a1 a2 σ = some (r0, τ0)) : Ct l yX8_isMapped wsX8_isMapped r_X8_isMapped E [.ref (eA E a0), .int a1, .int a2] σ (some (.int r0)) τ0 := by
  refine Ct_of (by decide) rfl hL hJ (Nat.le_of_ble_eq_true rfl) (fun K hE hl hk hq => ?_)
  subst hE
  exact w_X8_isMapped hk hq F a0 a1 a2 ha0 σ h
end

-- CanonCoteModel.alike (II)Z
section
theorem dX8_alike_0 : decode cX8_alike 0 = .ok (.aload_n 0, 1) := by decide +kernel
theorem dX8_alike_1 : decode cX8_alike 1 = .ok (.iconst 1, 1) := by decide +kernel
theorem dX8_alike_2 : decode cX8_alike 2 = .ok (.aload_n 0, 1) := by decide +kernel
theorem dX8_alike_3 : decode cX8_alike 3 = .ok (.getfield 7, 3) := by decide +kernel
theorem dX8_alike_6 : decode cX8_alike 6 = .ok (.iload_n 2, 1) := by decide +kernel
theorem dX8_alike_7 : decode cX8_alike 7 = .ok (.iaload, 1) := by decide +kernel
theorem dX8_alike_8 : decode cX8_alike 8 = .ok (.ishl, 1) := by decide +kernel
theorem dX8_alike_9 : decode cX8_alike 9 = .ok (.iconst 1, 1) := by decide +kernel
theorem dX8_alike_10 : decode cX8_alike 10 = .ok (.isub, 1) := by decide +kernel
theorem dX8_alike_11 : decode cX8_alike 11 = .ok (.invokevirtual 131, 3) := by decide +kernel
theorem dX8_alike_14 : decode cX8_alike 14 = .ok (.aload_n 0, 1) := by decide +kernel
theorem dX8_alike_15 : decode cX8_alike 15 = .ok (.getfield 7, 3) := by decide +kernel
theorem dX8_alike_18 : decode cX8_alike 18 = .ok (.iload_n 1, 1) := by decide +kernel
theorem dX8_alike_19 : decode cX8_alike 19 = .ok (.iaload, 1) := by decide +kernel
theorem dX8_alike_20 : decode cX8_alike 20 = .ok (.if_icmp .ne 16, 3) := by decide +kernel
theorem dX8_alike_23 : decode cX8_alike 23 = .ok (.aload_n 0, 1) := by decide +kernel
theorem dX8_alike_24 : decode cX8_alike 24 = .ok (.iload_n 1, 1) := by decide +kernel
theorem dX8_alike_25 : decode cX8_alike 25 = .ok (.iload_n 2, 1) := by decide +kernel
theorem dX8_alike_26 : decode cX8_alike 26 = .ok (.invokevirtual 134, 3) := by decide +kernel
theorem dX8_alike_29 : decode cX8_alike 29 = .ok (.ifCond .eq 7, 3) := by decide +kernel
theorem dX8_alike_32 : decode cX8_alike 32 = .ok (.iconst 1, 1) := by decide +kernel
theorem dX8_alike_33 : decode cX8_alike 33 = .ok (.goto 4, 3) := by decide +kernel
theorem dX8_alike_36 : decode cX8_alike 36 = .ok (.iconst 0, 1) := by decide +kernel
theorem dX8_alike_37 : decode cX8_alike 37 = .ok (.ireturn, 1) := by decide +kernel
set_option maxRecDepth 20000 in
theorem ggX8_alike_X8_chooses : GoodIn wsX8_alike wsX8_chooses := goodIn_r _ [6, 7, 31, 32, 33, 34, 35, 36, 37, 38, 39, 40, 41, 42, 43, 44, 45, 46, 47] (by decide +kernel) (by decide +kernel)
set_option maxRecDepth 20000 in
theorem gX8_alike_X8_chooses : GoodIn wsX8_alike (wsV RX8 131 RX8 yX8_chooses wsX8_chooses) := goodIn_app (goodIn_of _ (by decide +kernel)) ggX8_alike_X8_chooses
set_option maxRecDepth 20000 in
theorem ggX8_alike_X8_isMapped : GoodIn wsX8_alike wsX8_isMapped := goodIn_r _ [11, 1, 12, 13, 14, 5, 15, 16, 17, 18, 19, 20, 21, 7, 22, 23, 24, 25, 26, 27, 28, 29, 30, 31, 32, 33, 34, 35, 36, 37, 38, 39, 40, 41, 42, 43, 44, 45, 46, 47] (by decide +kernel) (by decide +kernel)
set_option maxRecDepth 20000 in
theorem gX8_alike_X8_isMapped : GoodIn wsX8_alike (wsV RX8 134 RX8 yX8_isMapped wsX8_isMapped) := goodIn_app (goodIn_of _ (by decide +kernel)) ggX8_alike_X8_isMapped
theorem in_X8_alike_CanonCoteModel : ∀ w ∈ u_ws RX8 TX8 17, w ∈ wsX8_alike := by decide +kernel
theorem wd_X8_alike_1 : Cond.fieldLink RX8 7 (TX8 0).1 (TX8 0).2.1 (TX8 0).2.2.1 ∈ wsX8_alike := by decide +kernel
def r_X8_alike : Room := { frames := 4, cells := 0, slots := 0, locals := 83 }
set_option maxRecDepth 100000 in
set_option maxHeartbeats 4000000 in
theorem w_X8_alike_36 {K : zK} (hk : zIs K RX8 cX8_alike 3 wsX8_alike (some .boolean) r_X8_alike) {r0 : Int32} {τ0 : zST} (hq : zQ K (some (.int r0)) τ0) (F : Nat)  (σ : zST) (h : m_X8_alike_36 F σ = some (r0, τ0)) : Z K 0 0 36 [] [] σ := by
  unfold m_X8_alike_36 at h
  refine Z_iconst hk dX8_alike_36 zc_iconst_0 ?_
  cases h
  exact Z_zret hk (by decide) hq dX8_alike_37
set_option maxRecDepth 100000 in
set_option maxHeartbeats 4000000 in
theorem w_X8_alike {K : zK} (hk : zIs K RX8 cX8_alike 3 wsX8_alike (some .boolean) r_X8_alike) {r0 : Int32} {τ0 : zST} (hq : zQ K (some (.int r0)) τ0) (F : Nat) (a0 : Nat) (a1 : Int32) (a2 : Int32) (ha0 : atCanonCoteModel (kZ K) a0) (σ : zST) (h : m_X8_alike F a0 a1 a2 σ = some (r0, τ0)) : Z K 0 0 0 [(0, .ref (eA (kZ K) a0)), (1, .int a1), (2, .int a2)] [] σ := by
  unfold m_X8_alike at h
  refine Z_aload_n hk 0 dX8_alike_0 rfl rfl ?_
  refine Z_iconst hk dX8_alike_1 zc_iconst_1 ?_
  refine Z_aload_n hk 0 dX8_alike_2 rfl rfl ?_
  refine Z_get hk in_X8_alike_CanonCoteModel rfl ha0.cell.1 (ha0.cell.2 _) 0 (by decide) wd_X8_alike_1 rfl dX8_alike_3 ?_
  refine Z_iload_n hk 2 dX8_alike_6 rfl rfl ?_
  obtain ⟨i3, x1, e2, h⟩ := ldI_get h
  refine Z_iald hk (ha0.sizes) i3 dX8_alike_7 ?_
  refine Z_eqI e2 ?_
  refine Z_ishl hk dX8_alike_8 ?_
  refine Z_iconst hk dX8_alike_9 zc_iconst_1 ?_
  refine Z_isub hk dX8_alike_10 ?_
  obtain ⟨x4, s5, h6, h⟩ := bd_ok h
  refine Z_callV 1 hk [.int ((jshl 1 x1) - 1)] (c_X8_chooses hk.loc hk.inj F a0 ((jshl 1 x1) - 1) ha0 σ h6) gX8_alike_X8_chooses rfl ⟨rfl, rfl⟩ (by decide +kernel) ⟨Nat.le_of_ble_eq_true rfl, Nat.le_of_ble_eq_true rfl⟩ ha0.cell.1 (ha0.cell.2 _) rfl rfl rfl (Nat.le_of_ble_eq_true rfl) ⟨Nat.zero_le _, Nat.zero_le _⟩ dX8_alike_11 ?_
  show Z K 0 0 14 [(0, .ref (eA (kZ K) a0)), (1, .int a1), (2, .int a2)] [.int x4] s5
  refine Z_aload_n hk 0 dX8_alike_14 rfl rfl ?_
  refine Z_get hk in_X8_alike_CanonCoteModel rfl ha0.cell.1 (ha0.cell.2 _) 0 (by decide) wd_X8_alike_1 rfl dX8_alike_15 ?_
  refine Z_iload_n hk 1 dX8_alike_18 rfl rfl ?_
  obtain ⟨i9, x7, e8, h⟩ := ldI_get h
  refine Z_iald hk (ha0.sizes) i9 dX8_alike_19 ?_
  refine Z_eqI e8 ?_
  refine Z_icmp_ne hk (tgt := 36) dX8_alike_20 (by decide) (fun c10 => ?_) (fun c10 => ?_)
  · have h := if_yes h c10
    refine Z_aload_n hk 0 dX8_alike_23 rfl rfl ?_
    refine Z_iload_n hk 1 dX8_alike_24 rfl rfl ?_
    refine Z_iload_n hk 2 dX8_alike_25 rfl rfl ?_
    obtain ⟨x11, s12, h13, h⟩ := bd_ok h
    refine Z_callV 2 hk [.int a1, .int a2] (c_X8_isMapped hk.loc hk.inj F a0 a1 a2 ha0 s5 h13) gX8_alike_X8_isMapped rfl ⟨rfl, rfl⟩ (by decide +kernel) ⟨Nat.le_of_ble_eq_true rfl, Nat.le_of_ble_eq_true rfl⟩ ha0.cell.1 (ha0.cell.2 _) rfl rfl rfl (Nat.le_of_ble_eq_true rfl) ⟨Nat.zero_le _, Nat.zero_le _⟩ dX8_alike_26 ?_
    show Z K 0 0 29 [(0, .ref (eA (kZ K) a0)), (1, .int a1), (2, .int a2)] [.int x11] s12
    refine Z_if_eq hk (tgt := 36) dX8_alike_29 (by decide) (fun c14 => ?_) (fun c14 => ?_)
    · have h := if_yes h c14
      refine Z_sub [] rfl ?_
      exact w_X8_alike_36 hk hq F s12 h
    · have h := if_no h c14
      refine Z_iconst hk dX8_alike_32 zc_iconst_1 ?_
      refine Z_goto hk (tgt := 37) dX8_alike_33 (by decide) ?_
      cases h
      exact Z_zret hk (by decide) hq dX8_alike_37
  · have h := if_no h c10
    refine Z_sub [] rfl ?_
    exact w_X8_alike_36 hk hq F s5 h
theorem c_X8_alike {l : Launch} {E : zE} (hL : eL E) (hJ : eJ E) (F : Nat) (a0 : Nat) (a1 : Int32) (a2 : Int32) (ha0 : atCanonCoteModel E a0) (σ : zST) {r0 : Int32} {τ0 : zST} (h : m_X8_alike F a0 a1 a2 σ = some (r0, τ0)) : Ct l yX8_alike wsX8_alike r_X8_alike E [.ref (eA E a0), .int a1, .int a2] σ (some (.int r0)) τ0 := by
  refine Ct_of (by decide) rfl hL hJ (Nat.le_of_ble_eq_true rfl) (fun K hE hl hk hq => ?_)
  subst hE
  exact w_X8_alike hk hq F a0 a1 a2 ha0 σ h
end

-- CanonCoteModel.areAlike (II)Z
section
theorem dX8_areAlike_0 : decode cX8_areAlike 0 = .ok (.aload_n 0, 1) := by decide +kernel
theorem dX8_areAlike_1 : decode cX8_areAlike 1 = .ok (.iload_n 1, 1) := by decide +kernel
theorem dX8_areAlike_2 : decode cX8_areAlike 2 = .ok (.invokestatic 62, 3) := by decide +kernel
theorem dX8_areAlike_5 : decode cX8_areAlike 5 = .ok (.ifCond .eq 14, 3) := by decide +kernel
theorem dX8_areAlike_8 : decode cX8_areAlike 8 = .ok (.iload_n 2, 1) := by decide +kernel
theorem dX8_areAlike_9 : decode cX8_areAlike 9 = .ok (.invokestatic 62, 3) := by decide +kernel
theorem dX8_areAlike_12 : decode cX8_areAlike 12 = .ok (.ifCond .eq 7, 3) := by decide +kernel
theorem dX8_areAlike_15 : decode cX8_areAlike 15 = .ok (.iconst 1, 1) := by decide +kernel
theorem dX8_areAlike_16 : decode cX8_areAlike 16 = .ok (.goto 4, 3) := by decide +kernel
theorem dX8_areAlike_19 : decode cX8_areAlike 19 = .ok (.iconst 0, 1) := by decide +kernel
theorem dX8_areAlike_20 : decode cX8_areAlike 20 = .ok (.iconst 1, 1) := by decide +kernel
theorem dX8_areAlike_21 : decode cX8_areAlike 21 = .ok (.invokevirtual 73, 3) := by decide +kernel
theorem dX8_areAlike_24 : decode cX8_areAlike 24 = .ok (.ifCond .eq 16, 3) := by decide +kernel
theorem dX8_areAlike_27 : decode cX8_areAlike 27 = .ok (.aload_n 0, 1) := by decide +kernel
theorem dX8_areAlike_28 : decode cX8_areAlike 28 = .ok (.iload_n 1, 1) := by decide +kernel
theorem dX8_areAlike_29 : decode cX8_areAlike 29 = .ok (.iload_n 2, 1) := by decide +kernel
theorem dX8_areAlike_30 : decode cX8_areAlike 30 = .ok (.invokevirtual 137, 3) := by decide +kernel
theorem dX8_areAlike_33 : decode cX8_areAlike 33 = .ok (.ifCond .eq 7, 3) := by decide +kernel
theorem dX8_areAlike_36 : decode cX8_areAlike 36 = .ok (.iconst 1, 1) := by decide +kernel
theorem dX8_areAlike_37 : decode cX8_areAlike 37 = .ok (.goto 4, 3) := by decide +kernel
theorem dX8_areAlike_40 : decode cX8_areAlike 40 = .ok (.iconst 0, 1) := by decide +kernel
theorem dX8_areAlike_41 : decode cX8_areAlike 41 = .ok (.ireturn, 1) := by decide +kernel
set_option maxRecDepth 20000 in
theorem ggX8_areAlike_X8_isGraph : GoodIn wsX8_areAlike wsX8_isGraph := goodIn_r _ [4, 5, 6, 3, 7] (by decide +kernel) (by decide +kernel)
set_option maxRecDepth 20000 in
theorem gX8_areAlike_X8_isGraph : GoodIn wsX8_areAlike (va_wsS RX8 62 yX8_isGraph wsX8_isGraph) := goodIn_app (goodIn_of _ (by decide +kernel)) ggX8_areAlike_X8_isGraph
set_option maxRecDepth 20000 in
theorem ggX8_areAlike_X8_goes : GoodIn wsX8_areAlike wsX8_goes := goodIn_r _ [11, 12, 46, 47, 48, 49, 50, 51, 52, 53, 54, 55, 56, 57, 58, 59, 60, 61, 62] (by decide +kernel) (by decide +kernel)
set_option maxRecDepth 20000 in
theorem gX8_areAlike_X8_goes : GoodIn wsX8_areAlike (wsV RX8 73 RX8 yX8_goes wsX8_goes) := goodIn_app (goodIn_of _ (by decide +kernel)) ggX8_areAlike_X8_goes
set_option maxRecDepth 20000 in
theorem ggX8_areAlike_X8_alike : GoodIn wsX8_areAlike wsX8_alike := goodIn_r _ [16, 17, 18, 19, 20, 3, 21, 22, 23, 24, 25, 26, 27, 28, 29, 30, 31, 32, 33, 34, 35, 36, 37, 38, 39, 40, 41, 42, 43, 44, 45, 46, 47, 48, 49, 50, 51, 52, 53, 54, 55, 56, 57, 58, 59, 60, 61, 62] (by decide +kernel) (by decide +kernel)
set_option maxRecDepth 20000 in
theorem gX8_areAlike_X8_alike : GoodIn wsX8_areAlike (wsV RX8 137 RX8 yX8_alike wsX8_alike) := goodIn_app (goodIn_of _ (by decide +kernel)) ggX8_areAlike_X8_alike
def r_X8_areAlike : Room := { frames := 5, cells := 0, slots := 0, locals := 105 }
set_option maxRecDepth 100000 in
set_option maxHeartbeats 4000000 in
theorem w_X8_areAlike_40 {K : zK} (hk : zIs K RX8 cX8_areAlike 3 wsX8_areAlike (some .boolean) r_X8_areAlike) {r0 : Int32} {τ0 : zST} (hq : zQ K (some (.int r0)) τ0) (F : Nat)  (σ : zST) (h : m_X8_areAlike_40 F σ = some (r0, τ0)) : Z K 0 0 40 [] [] σ := by
  unfold m_X8_areAlike_40 at h
  refine Z_iconst hk dX8_areAlike_40 zc_iconst_0 ?_
  cases h
  exact Z_zret hk (by decide) hq dX8_areAlike_41
set_option maxRecDepth 100000 in
set_option maxHeartbeats 4000000 in
theorem w_X8_areAlike_20 {K : zK} (hk : zIs K RX8 cX8_areAlike 3 wsX8_areAlike (some .boolean) r_X8_areAlike) {r0 : Int32} {τ0 : zST} (hq : zQ K (some (.int r0)) τ0) (F : Nat) (a0 : Nat) (a1 : Int32) (a2 : Int32) (t0 : Int32) (t1 : Nat) (ha0 : atCanonCoteModel (kZ K) a0) (ht1 : atCanonCoteModel (kZ K) t1) (σ : zST) (h : m_X8_areAlike_20 F a0 a1 a2 t0 t1 σ = some (r0, τ0)) : Z K 0 0 20 [(0, .ref (eA (kZ K) a0)), (1, .int a1), (2, .int a2)] [.int t0, .ref (eA (kZ K) t1)] σ := by
  unfold m_X8_areAlike_20 at h
  refine Z_iconst hk dX8_areAlike_20 zc_iconst_1 ?_
  obtain ⟨x9, s10, h11, h⟩ := bd_ok h
  refine Z_callV 2 hk [.int t0, .int 1] (c_X8_goes hk.loc hk.inj F t1 t0 1 ht1 σ h11) gX8_areAlike_X8_goes rfl ⟨rfl, rfl⟩ (by decide +kernel) ⟨Nat.le_of_ble_eq_true rfl, Nat.le_of_ble_eq_true rfl⟩ ht1.cell.1 (ht1.cell.2 _) rfl rfl rfl (Nat.le_of_ble_eq_true rfl) ⟨Nat.zero_le _, Nat.zero_le _⟩ dX8_areAlike_21 ?_
  show Z K 0 0 24 [(0, .ref (eA (kZ K) a0)), (1, .int a1), (2, .int a2)] [.int x9] s10
  refine Z_if_eq hk (tgt := 40) dX8_areAlike_24 (by decide) (fun c12 => ?_) (fun c12 => ?_)
  · have h := if_yes h c12
    refine Z_sub [] rfl ?_
    exact w_X8_areAlike_40 hk hq F s10 h
  · have h := if_no h c12
    refine Z_aload_n hk 0 dX8_areAlike_27 rfl rfl ?_
    refine Z_iload_n hk 1 dX8_areAlike_28 rfl rfl ?_
    refine Z_iload_n hk 2 dX8_areAlike_29 rfl rfl ?_
    obtain ⟨x13, s14, h15, h⟩ := bd_ok h
    refine Z_callV 2 hk [.int a1, .int a2] (c_X8_alike hk.loc hk.inj F a0 a1 a2 ha0 s10 h15) gX8_areAlike_X8_alike rfl ⟨rfl, rfl⟩ (by decide +kernel) ⟨Nat.le_of_ble_eq_true rfl, Nat.le_of_ble_eq_true rfl⟩ ha0.cell.1 (ha0.cell.2 _) rfl rfl rfl (Nat.le_of_ble_eq_true rfl) ⟨Nat.zero_le _, Nat.zero_le _⟩ dX8_areAlike_30 ?_
    show Z K 0 0 33 [(0, .ref (eA (kZ K) a0)), (1, .int a1), (2, .int a2)] [.int x13] s14
    refine Z_if_eq hk (tgt := 40) dX8_areAlike_33 (by decide) (fun c16 => ?_) (fun c16 => ?_)
    · have h := if_yes h c16
      refine Z_sub [] rfl ?_
      exact w_X8_areAlike_40 hk hq F s14 h
    · have h := if_no h c16
      refine Z_iconst hk dX8_areAlike_36 zc_iconst_1 ?_
      refine Z_goto hk (tgt := 41) dX8_areAlike_37 (by decide) ?_
      cases h
      exact Z_zret hk (by decide) hq dX8_areAlike_41
set_option maxRecDepth 100000 in
set_option maxHeartbeats 4000000 in
theorem w_X8_areAlike_19 {K : zK} (hk : zIs K RX8 cX8_areAlike 3 wsX8_areAlike (some .boolean) r_X8_areAlike) {r0 : Int32} {τ0 : zST} (hq : zQ K (some (.int r0)) τ0) (F : Nat) (a0 : Nat) (a1 : Int32) (a2 : Int32) (t0 : Nat) (ha0 : atCanonCoteModel (kZ K) a0) (ht0 : atCanonCoteModel (kZ K) t0) (σ : zST) (h : m_X8_areAlike_19 F a0 a1 a2 t0 σ = some (r0, τ0)) : Z K 0 0 19 [(0, .ref (eA (kZ K) a0)), (1, .int a1), (2, .int a2)] [.ref (eA (kZ K) t0)] σ := by
  unfold m_X8_areAlike_19 at h
  refine Z_iconst hk dX8_areAlike_19 zc_iconst_0 ?_
  refine Z_sub [0, 1, 2] rfl ?_
  exact w_X8_areAlike_20 hk hq F a0 a1 a2 0 t0 ha0 ht0 σ h
set_option maxRecDepth 100000 in
set_option maxHeartbeats 4000000 in
theorem w_X8_areAlike {K : zK} (hk : zIs K RX8 cX8_areAlike 3 wsX8_areAlike (some .boolean) r_X8_areAlike) {r0 : Int32} {τ0 : zST} (hq : zQ K (some (.int r0)) τ0) (F : Nat) (a0 : Nat) (a1 : Int32) (a2 : Int32) (ha0 : atCanonCoteModel (kZ K) a0) (σ : zST) (h : m_X8_areAlike F a0 a1 a2 σ = some (r0, τ0)) : Z K 0 0 0 [(0, .ref (eA (kZ K) a0)), (1, .int a1), (2, .int a2)] [] σ := by
  unfold m_X8_areAlike at h
  refine Z_aload_n hk 0 dX8_areAlike_0 rfl rfl ?_
  refine Z_iload_n hk 1 dX8_areAlike_1 rfl rfl ?_
  obtain ⟨x1, s2, h3, h⟩ := bd_ok h
  refine Z_callT 1 hk [.int a1] (c_X8_isGraph hk.loc hk.inj F a1 σ h3) gX8_areAlike_X8_isGraph rfl ⟨rfl, rfl⟩ (by decide +kernel) ⟨Nat.le_of_ble_eq_true rfl, Nat.le_of_ble_eq_true rfl⟩ rfl rfl (Nat.le_of_ble_eq_true rfl) ⟨Nat.zero_le _, Nat.zero_le _⟩ dX8_areAlike_2 ?_
  show Z K 0 0 5 [(0, .ref (eA (kZ K) a0)), (1, .int a1), (2, .int a2)] [.int x1, .ref (eA (kZ K) a0)] s2
  refine Z_if_eq hk (tgt := 19) dX8_areAlike_5 (by decide) (fun c4 => ?_) (fun c4 => ?_)
  · have h := if_yes h c4
    refine Z_sub [0, 1, 2] rfl ?_
    exact w_X8_areAlike_19 hk hq F a0 a1 a2 a0 ha0 ha0 s2 h
  · have h := if_no h c4
    refine Z_iload_n hk 2 dX8_areAlike_8 rfl rfl ?_
    obtain ⟨x5, s6, h7, h⟩ := bd_ok h
    refine Z_callT 1 hk [.int a2] (c_X8_isGraph hk.loc hk.inj F a2 s2 h7) gX8_areAlike_X8_isGraph rfl ⟨rfl, rfl⟩ (by decide +kernel) ⟨Nat.le_of_ble_eq_true rfl, Nat.le_of_ble_eq_true rfl⟩ rfl rfl (Nat.le_of_ble_eq_true rfl) ⟨Nat.zero_le _, Nat.zero_le _⟩ dX8_areAlike_9 ?_
    show Z K 0 0 12 [(0, .ref (eA (kZ K) a0)), (1, .int a1), (2, .int a2)] [.int x5, .ref (eA (kZ K) a0)] s6
    refine Z_if_eq hk (tgt := 19) dX8_areAlike_12 (by decide) (fun c8 => ?_) (fun c8 => ?_)
    · have h := if_yes h c8
      refine Z_sub [0, 1, 2] rfl ?_
      exact w_X8_areAlike_19 hk hq F a0 a1 a2 a0 ha0 ha0 s6 h
    · have h := if_no h c8
      refine Z_iconst hk dX8_areAlike_15 zc_iconst_1 ?_
      refine Z_goto hk (tgt := 20) dX8_areAlike_16 (by decide) ?_
      refine Z_sub [0, 1, 2] rfl ?_
      exact w_X8_areAlike_20 hk hq F a0 a1 a2 1 a0 ha0 ha0 s6 h
theorem c_X8_areAlike {l : Launch} {E : zE} (hL : eL E) (hJ : eJ E) (F : Nat) (a0 : Nat) (a1 : Int32) (a2 : Int32) (ha0 : atCanonCoteModel E a0) (σ : zST) {r0 : Int32} {τ0 : zST} (h : m_X8_areAlike F a0 a1 a2 σ = some (r0, τ0)) : Ct l yX8_areAlike wsX8_areAlike r_X8_areAlike E [.ref (eA E a0), .int a1, .int a2] σ (some (.int r0)) τ0 := by
  refine Ct_of (by decide) rfl hL hJ (Nat.le_of_ble_eq_true rfl) (fun K hE hl hk hq => ?_)
  subst hE
  exact w_X8_areAlike hk hq F a0 a1 a2 ha0 σ h
end

-- CanonCoteModel.image (III)I
section
theorem dX8_image_0 : decode cX8_image 0 = .ok (.aload_n 0, 1) := by decide +kernel
theorem dX8_image_1 : decode cX8_image 1 = .ok (.iload_n 2, 1) := by decide +kernel
theorem dX8_image_2 : decode cX8_image 2 = .ok (.invokestatic 62, 3) := by decide +kernel
theorem dX8_image_5 : decode cX8_image 5 = .ok (.ifCond .eq 16, 3) := by decide +kernel
theorem dX8_image_8 : decode cX8_image 8 = .ok (.aload_n 0, 1) := by decide +kernel
theorem dX8_image_9 : decode cX8_image 9 = .ok (.iload_n 1, 1) := by decide +kernel
theorem dX8_image_10 : decode cX8_image 10 = .ok (.iload_n 3, 1) := by decide +kernel
theorem dX8_image_11 : decode cX8_image 11 = .ok (.invokevirtual 66, 3) := by decide +kernel
theorem dX8_image_14 : decode cX8_image 14 = .ok (.ifCond .eq 7, 3) := by decide +kernel
theorem dX8_image_17 : decode cX8_image 17 = .ok (.iconst 1, 1) := by decide +kernel
theorem dX8_image_18 : decode cX8_image 18 = .ok (.goto 4, 3) := by decide +kernel
theorem dX8_image_21 : decode cX8_image 21 = .ok (.iconst 0, 1) := by decide +kernel
theorem dX8_image_22 : decode cX8_image 22 = .ok (.iconst 1, 1) := by decide +kernel
theorem dX8_image_23 : decode cX8_image 23 = .ok (.invokevirtual 73, 3) := by decide +kernel
theorem dX8_image_26 : decode cX8_image 26 = .ok (.ifCond .ne 5, 3) := by decide +kernel
theorem dX8_image_29 : decode cX8_image 29 = .ok (.iconst 0, 1) := by decide +kernel
theorem dX8_image_30 : decode cX8_image 30 = .ok (.ireturn, 1) := by decide +kernel
theorem dX8_image_31 : decode cX8_image 31 = .ok (.aload_n 0, 1) := by decide +kernel
theorem dX8_image_32 : decode cX8_image 32 = .ok (.iload_n 1, 1) := by decide +kernel
theorem dX8_image_33 : decode cX8_image 33 = .ok (.iload_n 2, 1) := by decide +kernel
theorem dX8_image_34 : decode cX8_image 34 = .ok (.invokevirtual 137, 3) := by decide +kernel
theorem dX8_image_37 : decode cX8_image 37 = .ok (.ifCond .eq 12, 3) := by decide +kernel
theorem dX8_image_40 : decode cX8_image 40 = .ok (.aload_n 0, 1) := by decide +kernel
theorem dX8_image_41 : decode cX8_image 41 = .ok (.getfield 19, 3) := by decide +kernel
theorem dX8_image_44 : decode cX8_image 44 = .ok (.iload_n 3, 1) := by decide +kernel
theorem dX8_image_45 : decode cX8_image 45 = .ok (.iaload, 1) := by decide +kernel
theorem dX8_image_46 : decode cX8_image 46 = .ok (.goto 4, 3) := by decide +kernel
theorem dX8_image_49 : decode cX8_image 49 = .ok (.iconst (-1), 1) := by decide +kernel
theorem dX8_image_50 : decode cX8_image 50 = .ok (.ireturn, 1) := by decide +kernel
set_option maxRecDepth 20000 in
theorem ggX8_image_X8_isGraph : GoodIn wsX8_image wsX8_isGraph := goodIn_r _ [5, 6, 7, 4, 8] (by decide +kernel) (by decide +kernel)
set_option maxRecDepth 20000 in
theorem gX8_image_X8_isGraph : GoodIn wsX8_image (va_wsS RX8 62 yX8_isGraph wsX8_isGraph) := goodIn_app (goodIn_of _ (by decide +kernel)) ggX8_image_X8_isGraph
set_option maxRecDepth 20000 in
theorem ggX8_image_X8_isVertex : GoodIn wsX8_image wsX8_isVertex := goodIn_r _ [12, 13, 2, 3, 4, 5, 6, 7, 8, 50, 51, 52, 53, 54, 55, 56, 57, 58, 59, 60, 61, 62, 63, 64, 65, 66] (by decide +kernel) (by decide +kernel)
set_option maxRecDepth 20000 in
theorem gX8_image_X8_isVertex : GoodIn wsX8_image (wsV RX8 66 RX8 yX8_isVertex wsX8_isVertex) := goodIn_app (goodIn_of _ (by decide +kernel)) ggX8_image_X8_isVertex
set_option maxRecDepth 20000 in
theorem ggX8_image_X8_goes : GoodIn wsX8_image wsX8_goes := goodIn_r _ [17, 18, 50, 51, 52, 53, 54, 55, 56, 57, 58, 59, 60, 61, 62, 63, 64, 65, 66] (by decide +kernel) (by decide +kernel)
set_option maxRecDepth 20000 in
theorem gX8_image_X8_goes : GoodIn wsX8_image (wsV RX8 73 RX8 yX8_goes wsX8_goes) := goodIn_app (goodIn_of _ (by decide +kernel)) ggX8_image_X8_goes
set_option maxRecDepth 20000 in
theorem ggX8_image_X8_alike : GoodIn wsX8_image wsX8_alike := goodIn_r _ [22, 13, 23, 24, 25, 4, 26, 27, 28, 29, 30, 31, 32, 33, 34, 35, 1, 36, 37, 38, 39, 40, 41, 42, 43, 44, 45, 46, 47, 48, 49, 50, 51, 52, 53, 54, 55, 56, 57, 58, 59, 60, 61, 62, 63, 64, 65, 66] (by decide +kernel) (by decide +kernel)
set_option maxRecDepth 20000 in
theorem gX8_image_X8_alike : GoodIn wsX8_image (wsV RX8 137 RX8 yX8_alike wsX8_alike) := goodIn_app (goodIn_of _ (by decide +kernel)) ggX8_image_X8_alike
theorem in_X8_image_CanonCoteModel : ∀ w ∈ u_ws RX8 TX8 17, w ∈ wsX8_image := by decide +kernel
theorem wd_X8_image_1 : Cond.fieldLink RX8 19 (TX8 3).1 (TX8 3).2.1 (TX8 3).2.2.1 ∈ wsX8_image := by decide +kernel
def r_X8_image : Room := { frames := 5, cells := 0, slots := 0, locals := 105 }
set_option maxRecDepth 100000 in
set_option maxHeartbeats 4000000 in
theorem w_X8_image_22 {K : zK} (hk : zIs K RX8 cX8_image 4 wsX8_image (some .int) r_X8_image) {r0 : Int32} {τ0 : zST} (hq : zQ K (some (.int r0)) τ0) (F : Nat) (a0 : Nat) (a1 : Int32) (a2 : Int32) (a3 : Int32) (t0 : Int32) (t1 : Nat) (ha0 : atCanonCoteModel (kZ K) a0) (ht1 : atCanonCoteModel (kZ K) t1) (σ : zST) (h : m_X8_image_22 F a0 a1 a2 a3 t0 t1 σ = some (r0, τ0)) : Z K 0 0 22 [(0, .ref (eA (kZ K) a0)), (1, .int a1), (2, .int a2), (3, .int a3)] [.int t0, .ref (eA (kZ K) t1)] σ := by
  unfold m_X8_image_22 at h
  refine Z_iconst hk dX8_image_22 zc_iconst_1 ?_
  obtain ⟨x9, s10, h11, h⟩ := bd_ok h
  refine Z_callV 2 hk [.int t0, .int 1] (c_X8_goes hk.loc hk.inj F t1 t0 1 ht1 σ h11) gX8_image_X8_goes rfl ⟨rfl, rfl⟩ (by decide +kernel) ⟨Nat.le_of_ble_eq_true rfl, Nat.le_of_ble_eq_true rfl⟩ ht1.cell.1 (ht1.cell.2 _) rfl rfl rfl (Nat.le_of_ble_eq_true rfl) ⟨Nat.zero_le _, Nat.zero_le _⟩ dX8_image_23 ?_
  show Z K 0 0 26 [(0, .ref (eA (kZ K) a0)), (1, .int a1), (2, .int a2), (3, .int a3)] [.int x9] s10
  refine Z_if_ne hk (tgt := 31) dX8_image_26 (by decide) (fun c12 => ?_) (fun c12 => ?_)
  · have h := if_yes h c12
    refine Z_iconst hk dX8_image_29 zc_iconst_0 ?_
    cases h
    exact Z_iret hk hq dX8_image_30
  · have h := if_no h c12
    refine Z_aload_n hk 0 dX8_image_31 rfl rfl ?_
    refine Z_iload_n hk 1 dX8_image_32 rfl rfl ?_
    refine Z_iload_n hk 2 dX8_image_33 rfl rfl ?_
    obtain ⟨x13, s14, h15, h⟩ := bd_ok h
    refine Z_callV 2 hk [.int a1, .int a2] (c_X8_alike hk.loc hk.inj F a0 a1 a2 ha0 s10 h15) gX8_image_X8_alike rfl ⟨rfl, rfl⟩ (by decide +kernel) ⟨Nat.le_of_ble_eq_true rfl, Nat.le_of_ble_eq_true rfl⟩ ha0.cell.1 (ha0.cell.2 _) rfl rfl rfl (Nat.le_of_ble_eq_true rfl) ⟨Nat.zero_le _, Nat.zero_le _⟩ dX8_image_34 ?_
    show Z K 0 0 37 [(0, .ref (eA (kZ K) a0)), (1, .int a1), (2, .int a2), (3, .int a3)] [.int x13] s14
    refine Z_if_eq hk (tgt := 49) dX8_image_37 (by decide) (fun c16 => ?_) (fun c16 => ?_)
    · have h := if_yes h c16
      refine Z_iconst hk dX8_image_49 zc_iconst_m1 ?_
      cases h
      exact Z_iret hk hq dX8_image_50
    · have h := if_no h c16
      refine Z_aload_n hk 0 dX8_image_40 rfl rfl ?_
      refine Z_get hk in_X8_image_CanonCoteModel rfl ha0.cell.1 (ha0.cell.2 _) 3 (by decide) wd_X8_image_1 rfl dX8_image_41 ?_
      refine Z_iload_n hk 3 dX8_image_44 rfl rfl ?_
      obtain ⟨i19, x17, e18, h⟩ := ldI_get h
      refine Z_iald hk (ha0.map) i19 dX8_image_45 ?_
      refine Z_eqI e18 ?_
      refine Z_goto hk (tgt := 50) dX8_image_46 (by decide) ?_
      cases h
      exact Z_iret hk hq dX8_image_50
set_option maxRecDepth 100000 in
set_option maxHeartbeats 4000000 in
theorem w_X8_image_21 {K : zK} (hk : zIs K RX8 cX8_image 4 wsX8_image (some .int) r_X8_image) {r0 : Int32} {τ0 : zST} (hq : zQ K (some (.int r0)) τ0) (F : Nat) (a0 : Nat) (a1 : Int32) (a2 : Int32) (a3 : Int32) (t0 : Nat) (ha0 : atCanonCoteModel (kZ K) a0) (ht0 : atCanonCoteModel (kZ K) t0) (σ : zST) (h : m_X8_image_21 F a0 a1 a2 a3 t0 σ = some (r0, τ0)) : Z K 0 0 21 [(0, .ref (eA (kZ K) a0)), (1, .int a1), (2, .int a2), (3, .int a3)] [.ref (eA (kZ K) t0)] σ := by
  unfold m_X8_image_21 at h
  refine Z_iconst hk dX8_image_21 zc_iconst_0 ?_
  refine Z_sub [0, 1, 2, 3] rfl ?_
  exact w_X8_image_22 hk hq F a0 a1 a2 a3 0 t0 ha0 ht0 σ h
set_option maxRecDepth 100000 in
set_option maxHeartbeats 4000000 in
theorem w_X8_image {K : zK} (hk : zIs K RX8 cX8_image 4 wsX8_image (some .int) r_X8_image) {r0 : Int32} {τ0 : zST} (hq : zQ K (some (.int r0)) τ0) (F : Nat) (a0 : Nat) (a1 : Int32) (a2 : Int32) (a3 : Int32) (ha0 : atCanonCoteModel (kZ K) a0) (σ : zST) (h : m_X8_image F a0 a1 a2 a3 σ = some (r0, τ0)) : Z K 0 0 0 [(0, .ref (eA (kZ K) a0)), (1, .int a1), (2, .int a2), (3, .int a3)] [] σ := by
  unfold m_X8_image at h
  refine Z_aload_n hk 0 dX8_image_0 rfl rfl ?_
  refine Z_iload_n hk 2 dX8_image_1 rfl rfl ?_
  obtain ⟨x1, s2, h3, h⟩ := bd_ok h
  refine Z_callT 1 hk [.int a2] (c_X8_isGraph hk.loc hk.inj F a2 σ h3) gX8_image_X8_isGraph rfl ⟨rfl, rfl⟩ (by decide +kernel) ⟨Nat.le_of_ble_eq_true rfl, Nat.le_of_ble_eq_true rfl⟩ rfl rfl (Nat.le_of_ble_eq_true rfl) ⟨Nat.zero_le _, Nat.zero_le _⟩ dX8_image_2 ?_
  show Z K 0 0 5 [(0, .ref (eA (kZ K) a0)), (1, .int a1), (2, .int a2), (3, .int a3)] [.int x1, .ref (eA (kZ K) a0)] s2
  refine Z_if_eq hk (tgt := 21) dX8_image_5 (by decide) (fun c4 => ?_) (fun c4 => ?_)
  · have h := if_yes h c4
    refine Z_sub [0, 1, 2, 3] rfl ?_
    exact w_X8_image_21 hk hq F a0 a1 a2 a3 a0 ha0 ha0 s2 h
  · have h := if_no h c4
    refine Z_aload_n hk 0 dX8_image_8 rfl rfl ?_
    refine Z_iload_n hk 1 dX8_image_9 rfl rfl ?_
    refine Z_iload_n hk 3 dX8_image_10 rfl rfl ?_
    obtain ⟨x5, s6, h7, h⟩ := bd_ok h
    refine Z_callV 2 hk [.int a1, .int a3] (c_X8_isVertex hk.loc hk.inj F a0 a1 a3 ha0 s2 h7) gX8_image_X8_isVertex rfl ⟨rfl, rfl⟩ (by decide +kernel) ⟨Nat.le_of_ble_eq_true rfl, Nat.le_of_ble_eq_true rfl⟩ ha0.cell.1 (ha0.cell.2 _) rfl rfl rfl (Nat.le_of_ble_eq_true rfl) ⟨Nat.zero_le _, Nat.zero_le _⟩ dX8_image_11 ?_
    show Z K 0 0 14 [(0, .ref (eA (kZ K) a0)), (1, .int a1), (2, .int a2), (3, .int a3)] [.int x5, .ref (eA (kZ K) a0)] s6
    refine Z_if_eq hk (tgt := 21) dX8_image_14 (by decide) (fun c8 => ?_) (fun c8 => ?_)
    · have h := if_yes h c8
      refine Z_sub [0, 1, 2, 3] rfl ?_
      exact w_X8_image_21 hk hq F a0 a1 a2 a3 a0 ha0 ha0 s6 h
    · have h := if_no h c8
      refine Z_iconst hk dX8_image_17 zc_iconst_1 ?_
      refine Z_goto hk (tgt := 22) dX8_image_18 (by decide) ?_
      refine Z_sub [0, 1, 2, 3] rfl ?_
      exact w_X8_image_22 hk hq F a0 a1 a2 a3 1 a0 ha0 ha0 s6 h
theorem c_X8_image {l : Launch} {E : zE} (hL : eL E) (hJ : eJ E) (F : Nat) (a0 : Nat) (a1 : Int32) (a2 : Int32) (a3 : Int32) (ha0 : atCanonCoteModel E a0) (σ : zST) {r0 : Int32} {τ0 : zST} (h : m_X8_image F a0 a1 a2 a3 σ = some (r0, τ0)) : Ct l yX8_image wsX8_image r_X8_image E [.ref (eA E a0), .int a1, .int a2, .int a3] σ (some (.int r0)) τ0 := by
  refine Ct_of (by decide) rfl hL hJ (Nat.le_of_ble_eq_true rfl) (fun K hE hl hk hq => ?_)
  subst hE
  exact w_X8_image hk hq F a0 a1 a2 a3 ha0 σ h
end

-- CanonCoteModel.copies (II)I
section
theorem dX8_copies_0 : decode cX8_copies 0 = .ok (.aload_n 0, 1) := by decide +kernel
theorem dX8_copies_1 : decode cX8_copies 1 = .ok (.iload_n 1, 1) := by decide +kernel
theorem dX8_copies_2 : decode cX8_copies 2 = .ok (.invokestatic 62, 3) := by decide +kernel
theorem dX8_copies_5 : decode cX8_copies 5 = .ok (.ifCond .eq 14, 3) := by decide +kernel
theorem dX8_copies_8 : decode cX8_copies 8 = .ok (.iload_n 2, 1) := by decide +kernel
theorem dX8_copies_9 : decode cX8_copies 9 = .ok (.invokestatic 62, 3) := by decide +kernel
theorem dX8_copies_12 : decode cX8_copies 12 = .ok (.ifCond .eq 7, 3) := by decide +kernel
theorem dX8_copies_15 : decode cX8_copies 15 = .ok (.iconst 1, 1) := by decide +kernel
theorem dX8_copies_16 : decode cX8_copies 16 = .ok (.goto 4, 3) := by decide +kernel
theorem dX8_copies_19 : decode cX8_copies 19 = .ok (.iconst 0, 1) := by decide +kernel
theorem dX8_copies_20 : decode cX8_copies 20 = .ok (.iconst 1, 1) := by decide +kernel
theorem dX8_copies_21 : decode cX8_copies 21 = .ok (.invokevirtual 73, 3) := by decide +kernel
theorem dX8_copies_24 : decode cX8_copies 24 = .ok (.ifCond .ne 5, 3) := by decide +kernel
theorem dX8_copies_27 : decode cX8_copies 27 = .ok (.iconst 0, 1) := by decide +kernel
theorem dX8_copies_28 : decode cX8_copies 28 = .ok (.ireturn, 1) := by decide +kernel
theorem dX8_copies_29 : decode cX8_copies 29 = .ok (.iconst 0, 1) := by decide +kernel
theorem dX8_copies_30 : decode cX8_copies 30 = .ok (.istore_n 3, 1) := by decide +kernel
theorem dX8_copies_31 : decode cX8_copies 31 = .ok (.iconst 0, 1) := by decide +kernel
theorem dX8_copies_32 : decode cX8_copies 32 = .ok (.istore 4, 2) := by decide +kernel
theorem dX8_copies_34 : decode cX8_copies 34 = .ok (.iload 4, 2) := by decide +kernel
theorem dX8_copies_36 : decode cX8_copies 36 = .ok (.iconst 1, 1) := by decide +kernel
theorem dX8_copies_37 : decode cX8_copies 37 = .ok (.aload_n 0, 1) := by decide +kernel
theorem dX8_copies_38 : decode cX8_copies 38 = .ok (.getfield 7, 3) := by decide +kernel
theorem dX8_copies_41 : decode cX8_copies 41 = .ok (.iload_n 2, 1) := by decide +kernel
theorem dX8_copies_42 : decode cX8_copies 42 = .ok (.iaload, 1) := by decide +kernel
theorem dX8_copies_43 : decode cX8_copies 43 = .ok (.ishl, 1) := by decide +kernel
theorem dX8_copies_44 : decode cX8_copies 44 = .ok (.if_icmp .ge 41, 3) := by decide +kernel
theorem dX8_copies_47 : decode cX8_copies 47 = .ok (.iload_n 3, 1) := by decide +kernel
theorem dX8_copies_48 : decode cX8_copies 48 = .ok (.aload_n 0, 1) := by decide +kernel
theorem dX8_copies_49 : decode cX8_copies 49 = .ok (.iload 4, 2) := by decide +kernel
theorem dX8_copies_51 : decode cX8_copies 51 = .ok (.invokevirtual 131, 3) := by decide +kernel
theorem dX8_copies_54 : decode cX8_copies 54 = .ok (.aload_n 0, 1) := by decide +kernel
theorem dX8_copies_55 : decode cX8_copies 55 = .ok (.getfield 7, 3) := by decide +kernel
theorem dX8_copies_58 : decode cX8_copies 58 = .ok (.iload_n 1, 1) := by decide +kernel
theorem dX8_copies_59 : decode cX8_copies 59 = .ok (.iaload, 1) := by decide +kernel
theorem dX8_copies_60 : decode cX8_copies 60 = .ok (.if_icmp .ne 16, 3) := by decide +kernel
theorem dX8_copies_63 : decode cX8_copies 63 = .ok (.aload_n 0, 1) := by decide +kernel
theorem dX8_copies_64 : decode cX8_copies 64 = .ok (.iload_n 1, 1) := by decide +kernel
theorem dX8_copies_65 : decode cX8_copies 65 = .ok (.iload_n 2, 1) := by decide +kernel
theorem dX8_copies_66 : decode cX8_copies 66 = .ok (.invokevirtual 134, 3) := by decide +kernel
theorem dX8_copies_69 : decode cX8_copies 69 = .ok (.ifCond .eq 7, 3) := by decide +kernel
theorem dX8_copies_72 : decode cX8_copies 72 = .ok (.iconst 1, 1) := by decide +kernel
theorem dX8_copies_73 : decode cX8_copies 73 = .ok (.goto 4, 3) := by decide +kernel
theorem dX8_copies_76 : decode cX8_copies 76 = .ok (.iconst 0, 1) := by decide +kernel
theorem dX8_copies_77 : decode cX8_copies 77 = .ok (.iadd, 1) := by decide +kernel
theorem dX8_copies_78 : decode cX8_copies 78 = .ok (.istore_n 3, 1) := by decide +kernel
theorem dX8_copies_79 : decode cX8_copies 79 = .ok (.iinc 4 1, 3) := by decide +kernel
theorem dX8_copies_82 : decode cX8_copies 82 = .ok (.goto (-48), 3) := by decide +kernel
theorem dX8_copies_85 : decode cX8_copies 85 = .ok (.iload_n 3, 1) := by decide +kernel
theorem dX8_copies_86 : decode cX8_copies 86 = .ok (.ireturn, 1) := by decide +kernel
set_option maxRecDepth 20000 in
theorem ggX8_copies_X8_isGraph : GoodIn wsX8_copies wsX8_isGraph := goodIn_r _ [5, 6, 7, 4, 8] (by decide +kernel) (by decide +kernel)
set_option maxRecDepth 20000 in
theorem gX8_copies_X8_isGraph : GoodIn wsX8_copies (va_wsS RX8 62 yX8_isGraph wsX8_isGraph) := goodIn_app (goodIn_of _ (by decide +kernel)) ggX8_copies_X8_isGraph
set_option maxRecDepth 20000 in
theorem ggX8_copies_X8_goes : GoodIn wsX8_copies wsX8_goes := goodIn_r _ [12, 13, 42, 43, 44, 45, 46, 47, 48, 49, 50, 51, 52, 53, 54, 55, 56, 57, 58] (by decide +kernel) (by decide +kernel)
set_option maxRecDepth 20000 in
theorem gX8_copies_X8_goes : GoodIn wsX8_copies (wsV RX8 73 RX8 yX8_goes wsX8_goes) := goodIn_app (goodIn_of _ (by decide +kernel)) ggX8_copies_X8_goes
set_option maxRecDepth 20000 in
theorem ggX8_copies_X8_chooses : GoodIn wsX8_copies wsX8_chooses := goodIn_r _ [17, 18, 42, 43, 44, 45, 46, 47, 48, 49, 50, 51, 52, 53, 54, 55, 56, 57, 58] (by decide +kernel) (by decide +kernel)
set_option maxRecDepth 20000 in
theorem gX8_copies_X8_chooses : GoodIn wsX8_copies (wsV RX8 131 RX8 yX8_chooses wsX8_chooses) := goodIn_app (goodIn_of _ (by decide +kernel)) ggX8_copies_X8_chooses
set_option maxRecDepth 20000 in
theorem ggX8_copies_X8_isMapped : GoodIn wsX8_copies wsX8_isMapped := goodIn_r _ [22, 1, 23, 24, 25, 4, 26, 27, 28, 29, 30, 31, 32, 18, 33, 34, 35, 36, 37, 38, 39, 40, 41, 42, 43, 44, 45, 46, 47, 48, 49, 50, 51, 52, 53, 54, 55, 56, 57, 58] (by decide +kernel) (by decide +kernel)
set_option maxRecDepth 20000 in
theorem gX8_copies_X8_isMapped : GoodIn wsX8_copies (wsV RX8 134 RX8 yX8_isMapped wsX8_isMapped) := goodIn_app (goodIn_of _ (by decide +kernel)) ggX8_copies_X8_isMapped
theorem in_X8_copies_CanonCoteModel : ∀ w ∈ u_ws RX8 TX8 17, w ∈ wsX8_copies := by decide +kernel
theorem wd_X8_copies_1 : Cond.fieldLink RX8 7 (TX8 0).1 (TX8 0).2.1 (TX8 0).2.2.1 ∈ wsX8_copies := by decide +kernel
def r_X8_copies : Room := { frames := 4, cells := 0, slots := 0, locals := 83 }
set_option maxRecDepth 100000 in
set_option maxHeartbeats 4000000 in
theorem w_X8_copies_77 {K : zK} (hk : zIs K RX8 cX8_copies 5 wsX8_copies (some .int) r_X8_copies) {r0 : Int32} {τ0 : zST} (hq : zQ K (some (.int r0)) τ0) (F : Nat) (k34 : Nat → Int32 → Int32 → Int32 → Int32 → zST → Option (Int32 × zST)) (hk34 : ∀ (a0 : Nat) (a1 : Int32) (a2 : Int32) (a3 : Int32) (a4 : Int32) (ha0 : atCanonCoteModel (kZ K) a0) (σ : zST), k34 a0 a1 a2 a3 a4 σ = some (r0, τ0) → Z K 0 0 34 [(0, .ref (eA (kZ K) a0)), (1, .int a1), (2, .int a2), (3, .int a3), (4, .int a4)] [] σ) (a0 : Nat) (a1 : Int32) (a2 : Int32) (a4 : Int32) (t0 : Int32) (t1 : Int32) (ha0 : atCanonCoteModel (kZ K) a0) (σ : zST) (h : m_X8_copies_77 F k34 a0 a1 a2 a4 t0 t1 σ = some (r0, τ0)) : Z K 0 0 77 [(0, .ref (eA (kZ K) a0)), (1, .int a1), (2, .int a2), (4, .int a4)] [.int t0, .int t1] σ := by
  unfold m_X8_copies_77 at h
  refine Z_iadd hk dX8_copies_77 ?_
  obtain ⟨x28, e29, h⟩ := nm_get h
  refine Z_eqI e29 ?_
  refine Z_istore_n hk (lv' := [(3, .int x28), (0, .ref (eA (kZ K) a0)), (1, .int a1), (2, .int a2), (4, .int a4)]) dX8_copies_78 rfl (by decide) rfl ?_
  obtain ⟨x30, e31, h⟩ := nm_get h
  refine Z_iinc hk 4 (v := x30) (lv' := [(4, .int x30), (3, .int x28), (0, .ref (eA (kZ K) a0)), (1, .int a1), (2, .int a2)]) dX8_copies_79 rfl (by rw [zc_iinc_1]; exact e31) (by decide) rfl ?_
  refine Z_goto hk (tgt := 34) dX8_copies_82 (by decide) ?_
  refine Z_sub [2, 3, 4, 1, 0] rfl ?_
  exact hk34 a0 a1 a2 x28 x30 ha0 σ h
set_option maxRecDepth 100000 in
set_option maxHeartbeats 4000000 in
theorem w_X8_copies_76 {K : zK} (hk : zIs K RX8 cX8_copies 5 wsX8_copies (some .int) r_X8_copies) {r0 : Int32} {τ0 : zST} (hq : zQ K (some (.int r0)) τ0) (F : Nat) (k34 : Nat → Int32 → Int32 → Int32 → Int32 → zST → Option (Int32 × zST)) (hk34 : ∀ (a0 : Nat) (a1 : Int32) (a2 : Int32) (a3 : Int32) (a4 : Int32) (ha0 : atCanonCoteModel (kZ K) a0) (σ : zST), k34 a0 a1 a2 a3 a4 σ = some (r0, τ0) → Z K 0 0 34 [(0, .ref (eA (kZ K) a0)), (1, .int a1), (2, .int a2), (3, .int a3), (4, .int a4)] [] σ) (a0 : Nat) (a1 : Int32) (a2 : Int32) (a4 : Int32) (t0 : Int32) (ha0 : atCanonCoteModel (kZ K) a0) (σ : zST) (h : m_X8_copies_76 F k34 a0 a1 a2 a4 t0 σ = some (r0, τ0)) : Z K 0 0 76 [(0, .ref (eA (kZ K) a0)), (1, .int a1), (2, .int a2), (4, .int a4)] [.int t0] σ := by
  unfold m_X8_copies_76 at h
  refine Z_iconst hk dX8_copies_76 zc_iconst_0 ?_
  refine Z_sub [0, 1, 2, 3] rfl ?_
  exact w_X8_copies_77 hk hq F k34 hk34 a0 a1 a2 a4 0 t0 ha0 σ h
set_option maxRecDepth 100000 in
set_option maxHeartbeats 4000000 in
theorem w_X8_copies_34 {K : zK} (hk : zIs K RX8 cX8_copies 5 wsX8_copies (some .int) r_X8_copies) {r0 : Int32} {τ0 : zST} (hq : zQ K (some (.int r0)) τ0) (F : Nat) : ∀ (n : Nat) (a0 : Nat) (a1 : Int32) (a2 : Int32) (a3 : Int32) (a4 : Int32) (ha0 : atCanonCoteModel (kZ K) a0) (σ : zST), m_X8_copies_34 F n a0 a1 a2 a3 a4 σ = some (r0, τ0) → Z K 0 0 34 [(0, .ref (eA (kZ K) a0)), (1, .int a1), (2, .int a2), (3, .int a3), (4, .int a4)] [] σ := by
  intro n
  induction n with
  | zero => intro a0 a1 a2 a3 a4 ha0 σ h; cases h
  | succ n ih =>
    intro a0 a1 a2 a3 a4 ha0 σ h
    rw [m_X8_copies_34] at h
    refine Z_iload hk 4 dX8_copies_34 rfl ?_
    refine Z_iconst hk dX8_copies_36 zc_iconst_1 ?_
    refine Z_aload_n hk 0 dX8_copies_37 rfl rfl ?_
    refine Z_get hk in_X8_copies_CanonCoteModel rfl ha0.cell.1 (ha0.cell.2 _) 0 (by decide) wd_X8_copies_1 rfl dX8_copies_38 ?_
    refine Z_iload_n hk 2 dX8_copies_41 rfl rfl ?_
    obtain ⟨i15, x13, e14, h⟩ := ldI_get h
    refine Z_iald hk (ha0.sizes) i15 dX8_copies_42 ?_
    refine Z_eqI e14 ?_
    refine Z_ishl hk dX8_copies_43 ?_
    refine Z_icmp_ge hk (tgt := 85) dX8_copies_44 (by decide) (fun c16 => ?_) (fun c16 => ?_)
    · have h := if_yes h c16
      refine Z_iload_n hk 3 dX8_copies_85 rfl rfl ?_
      cases h
      exact Z_iret hk hq dX8_copies_86
    · have h := if_no h c16
      refine Z_iload_n hk 3 dX8_copies_47 rfl rfl ?_
      refine Z_aload_n hk 0 dX8_copies_48 rfl rfl ?_
      refine Z_iload hk 4 dX8_copies_49 rfl ?_
      obtain ⟨x17, s18, h19, h⟩ := bd_ok h
      refine Z_callV 1 hk [.int a4] (c_X8_chooses hk.loc hk.inj F a0 a4 ha0 σ h19) gX8_copies_X8_chooses rfl ⟨rfl, rfl⟩ (by decide +kernel) ⟨Nat.le_of_ble_eq_true rfl, Nat.le_of_ble_eq_true rfl⟩ ha0.cell.1 (ha0.cell.2 _) rfl rfl rfl (Nat.le_of_ble_eq_true rfl) ⟨Nat.zero_le _, Nat.zero_le _⟩ dX8_copies_51 ?_
      show Z K 0 0 54 [(0, .ref (eA (kZ K) a0)), (1, .int a1), (2, .int a2), (3, .int a3), (4, .int a4)] [.int x17, .int a3] s18
      refine Z_aload_n hk 0 dX8_copies_54 rfl rfl ?_
      refine Z_get hk in_X8_copies_CanonCoteModel rfl ha0.cell.1 (ha0.cell.2 _) 0 (by decide) wd_X8_copies_1 rfl dX8_copies_55 ?_
      refine Z_iload_n hk 1 dX8_copies_58 rfl rfl ?_
      obtain ⟨i22, x20, e21, h⟩ := ldI_get h
      refine Z_iald hk (ha0.sizes) i22 dX8_copies_59 ?_
      refine Z_eqI e21 ?_
      refine Z_icmp_ne hk (tgt := 76) dX8_copies_60 (by decide) (fun c23 => ?_) (fun c23 => ?_)
      · have h := if_yes h c23
        refine Z_aload_n hk 0 dX8_copies_63 rfl rfl ?_
        refine Z_iload_n hk 1 dX8_copies_64 rfl rfl ?_
        refine Z_iload_n hk 2 dX8_copies_65 rfl rfl ?_
        obtain ⟨x24, s25, h26, h⟩ := bd_ok h
        refine Z_callV 2 hk [.int a1, .int a2] (c_X8_isMapped hk.loc hk.inj F a0 a1 a2 ha0 s18 h26) gX8_copies_X8_isMapped rfl ⟨rfl, rfl⟩ (by decide +kernel) ⟨Nat.le_of_ble_eq_true rfl, Nat.le_of_ble_eq_true rfl⟩ ha0.cell.1 (ha0.cell.2 _) rfl rfl rfl (Nat.le_of_ble_eq_true rfl) ⟨Nat.zero_le _, Nat.zero_le _⟩ dX8_copies_66 ?_
        show Z K 0 0 69 [(0, .ref (eA (kZ K) a0)), (1, .int a1), (2, .int a2), (3, .int a3), (4, .int a4)] [.int x24, .int a3] s25
        refine Z_if_eq hk (tgt := 76) dX8_copies_69 (by decide) (fun c27 => ?_) (fun c27 => ?_)
        · have h := if_yes h c27
          refine Z_sub [0, 1, 2, 4] rfl ?_
          exact w_X8_copies_76 hk hq F (m_X8_copies_34 F n) ih a0 a1 a2 a4 a3 ha0 s25 h
        · have h := if_no h c27
          refine Z_iconst hk dX8_copies_72 zc_iconst_1 ?_
          refine Z_goto hk (tgt := 77) dX8_copies_73 (by decide) ?_
          refine Z_sub [0, 1, 2, 4] rfl ?_
          exact w_X8_copies_77 hk hq F (m_X8_copies_34 F n) ih a0 a1 a2 a4 1 a3 ha0 s25 h
      · have h := if_no h c23
        refine Z_sub [0, 1, 2, 4] rfl ?_
        exact w_X8_copies_76 hk hq F (m_X8_copies_34 F n) ih a0 a1 a2 a4 a3 ha0 s18 h
set_option maxRecDepth 100000 in
set_option maxHeartbeats 4000000 in
theorem w_X8_copies_20 {K : zK} (hk : zIs K RX8 cX8_copies 5 wsX8_copies (some .int) r_X8_copies) {r0 : Int32} {τ0 : zST} (hq : zQ K (some (.int r0)) τ0) (F : Nat) (a0 : Nat) (a1 : Int32) (a2 : Int32) (t0 : Int32) (t1 : Nat) (ha0 : atCanonCoteModel (kZ K) a0) (ht1 : atCanonCoteModel (kZ K) t1) (σ : zST) (h : m_X8_copies_20 F a0 a1 a2 t0 t1 σ = some (r0, τ0)) : Z K 0 0 20 [(0, .ref (eA (kZ K) a0)), (1, .int a1), (2, .int a2)] [.int t0, .ref (eA (kZ K) t1)] σ := by
  unfold m_X8_copies_20 at h
  refine Z_iconst hk dX8_copies_20 zc_iconst_1 ?_
  obtain ⟨x9, s10, h11, h⟩ := bd_ok h
  refine Z_callV 2 hk [.int t0, .int 1] (c_X8_goes hk.loc hk.inj F t1 t0 1 ht1 σ h11) gX8_copies_X8_goes rfl ⟨rfl, rfl⟩ (by decide +kernel) ⟨Nat.le_of_ble_eq_true rfl, Nat.le_of_ble_eq_true rfl⟩ ht1.cell.1 (ht1.cell.2 _) rfl rfl rfl (Nat.le_of_ble_eq_true rfl) ⟨Nat.zero_le _, Nat.zero_le _⟩ dX8_copies_21 ?_
  show Z K 0 0 24 [(0, .ref (eA (kZ K) a0)), (1, .int a1), (2, .int a2)] [.int x9] s10
  refine Z_if_ne hk (tgt := 29) dX8_copies_24 (by decide) (fun c12 => ?_) (fun c12 => ?_)
  · have h := if_yes h c12
    refine Z_iconst hk dX8_copies_27 zc_iconst_0 ?_
    cases h
    exact Z_iret hk hq dX8_copies_28
  · have h := if_no h c12
    refine Z_iconst hk dX8_copies_29 zc_iconst_0 ?_
    refine Z_istore_n hk (lv' := [(3, .int 0), (0, .ref (eA (kZ K) a0)), (1, .int a1), (2, .int a2)]) dX8_copies_30 rfl (by decide) rfl ?_
    refine Z_iconst hk dX8_copies_31 zc_iconst_0 ?_
    refine Z_istore hk (lv' := [(4, .int 0), (3, .int 0), (0, .ref (eA (kZ K) a0)), (1, .int a1), (2, .int a2)]) dX8_copies_32 (by decide) rfl ?_
    refine Z_sub [2, 3, 4, 1, 0] rfl ?_
    exact w_X8_copies_34 hk hq F F a0 a1 a2 0 0 ha0 s10 h
set_option maxRecDepth 100000 in
set_option maxHeartbeats 4000000 in
theorem w_X8_copies_19 {K : zK} (hk : zIs K RX8 cX8_copies 5 wsX8_copies (some .int) r_X8_copies) {r0 : Int32} {τ0 : zST} (hq : zQ K (some (.int r0)) τ0) (F : Nat) (a0 : Nat) (a1 : Int32) (a2 : Int32) (t0 : Nat) (ha0 : atCanonCoteModel (kZ K) a0) (ht0 : atCanonCoteModel (kZ K) t0) (σ : zST) (h : m_X8_copies_19 F a0 a1 a2 t0 σ = some (r0, τ0)) : Z K 0 0 19 [(0, .ref (eA (kZ K) a0)), (1, .int a1), (2, .int a2)] [.ref (eA (kZ K) t0)] σ := by
  unfold m_X8_copies_19 at h
  refine Z_iconst hk dX8_copies_19 zc_iconst_0 ?_
  refine Z_sub [0, 1, 2] rfl ?_
  exact w_X8_copies_20 hk hq F a0 a1 a2 0 t0 ha0 ht0 σ h
set_option maxRecDepth 100000 in
set_option maxHeartbeats 4000000 in
theorem w_X8_copies {K : zK} (hk : zIs K RX8 cX8_copies 5 wsX8_copies (some .int) r_X8_copies) {r0 : Int32} {τ0 : zST} (hq : zQ K (some (.int r0)) τ0) (F : Nat) (a0 : Nat) (a1 : Int32) (a2 : Int32) (ha0 : atCanonCoteModel (kZ K) a0) (σ : zST) (h : m_X8_copies F a0 a1 a2 σ = some (r0, τ0)) : Z K 0 0 0 [(0, .ref (eA (kZ K) a0)), (1, .int a1), (2, .int a2)] [] σ := by
  unfold m_X8_copies at h
  refine Z_aload_n hk 0 dX8_copies_0 rfl rfl ?_
  refine Z_iload_n hk 1 dX8_copies_1 rfl rfl ?_
  obtain ⟨x1, s2, h3, h⟩ := bd_ok h
  refine Z_callT 1 hk [.int a1] (c_X8_isGraph hk.loc hk.inj F a1 σ h3) gX8_copies_X8_isGraph rfl ⟨rfl, rfl⟩ (by decide +kernel) ⟨Nat.le_of_ble_eq_true rfl, Nat.le_of_ble_eq_true rfl⟩ rfl rfl (Nat.le_of_ble_eq_true rfl) ⟨Nat.zero_le _, Nat.zero_le _⟩ dX8_copies_2 ?_
  show Z K 0 0 5 [(0, .ref (eA (kZ K) a0)), (1, .int a1), (2, .int a2)] [.int x1, .ref (eA (kZ K) a0)] s2
  refine Z_if_eq hk (tgt := 19) dX8_copies_5 (by decide) (fun c4 => ?_) (fun c4 => ?_)
  · have h := if_yes h c4
    refine Z_sub [0, 1, 2] rfl ?_
    exact w_X8_copies_19 hk hq F a0 a1 a2 a0 ha0 ha0 s2 h
  · have h := if_no h c4
    refine Z_iload_n hk 2 dX8_copies_8 rfl rfl ?_
    obtain ⟨x5, s6, h7, h⟩ := bd_ok h
    refine Z_callT 1 hk [.int a2] (c_X8_isGraph hk.loc hk.inj F a2 s2 h7) gX8_copies_X8_isGraph rfl ⟨rfl, rfl⟩ (by decide +kernel) ⟨Nat.le_of_ble_eq_true rfl, Nat.le_of_ble_eq_true rfl⟩ rfl rfl (Nat.le_of_ble_eq_true rfl) ⟨Nat.zero_le _, Nat.zero_le _⟩ dX8_copies_9 ?_
    show Z K 0 0 12 [(0, .ref (eA (kZ K) a0)), (1, .int a1), (2, .int a2)] [.int x5, .ref (eA (kZ K) a0)] s6
    refine Z_if_eq hk (tgt := 19) dX8_copies_12 (by decide) (fun c8 => ?_) (fun c8 => ?_)
    · have h := if_yes h c8
      refine Z_sub [0, 1, 2] rfl ?_
      exact w_X8_copies_19 hk hq F a0 a1 a2 a0 ha0 ha0 s6 h
    · have h := if_no h c8
      refine Z_iconst hk dX8_copies_15 zc_iconst_1 ?_
      refine Z_goto hk (tgt := 20) dX8_copies_16 (by decide) ?_
      refine Z_sub [0, 1, 2] rfl ?_
      exact w_X8_copies_20 hk hq F a0 a1 a2 1 a0 ha0 ha0 s6 h
theorem c_X8_copies {l : Launch} {E : zE} (hL : eL E) (hJ : eJ E) (F : Nat) (a0 : Nat) (a1 : Int32) (a2 : Int32) (ha0 : atCanonCoteModel E a0) (σ : zST) {r0 : Int32} {τ0 : zST} (h : m_X8_copies F a0 a1 a2 σ = some (r0, τ0)) : Ct l yX8_copies wsX8_copies r_X8_copies E [.ref (eA E a0), .int a1, .int a2] σ (some (.int r0)) τ0 := by
  refine Ct_of (by decide) rfl hL hJ (Nat.le_of_ble_eq_true rfl) (fun K hE hl hk hq => ?_)
  subst hE
  exact w_X8_copies hk hq F a0 a1 a2 ha0 σ h
end

-- CanonCoteModel.turns (I)I
section
theorem dX8_turns_0 : decode cX8_turns 0 = .ok (.iconst 0, 1) := by decide +kernel
theorem dX8_turns_1 : decode cX8_turns 1 = .ok (.istore_n 2, 1) := by decide +kernel
theorem dX8_turns_2 : decode cX8_turns 2 = .ok (.iconst 0, 1) := by decide +kernel
theorem dX8_turns_3 : decode cX8_turns 3 = .ok (.istore_n 3, 1) := by decide +kernel
theorem dX8_turns_4 : decode cX8_turns 4 = .ok (.iload_n 3, 1) := by decide +kernel
theorem dX8_turns_5 : decode cX8_turns 5 = .ok (.aload_n 0, 1) := by decide +kernel
theorem dX8_turns_6 : decode cX8_turns 6 = .ok (.iconst 1, 1) := by decide +kernel
theorem dX8_turns_7 : decode cX8_turns 7 = .ok (.aload_n 0, 1) := by decide +kernel
theorem dX8_turns_8 : decode cX8_turns 8 = .ok (.getfield 7, 3) := by decide +kernel
theorem dX8_turns_11 : decode cX8_turns 11 = .ok (.iload_n 1, 1) := by decide +kernel
theorem dX8_turns_12 : decode cX8_turns 12 = .ok (.iaload, 1) := by decide +kernel
theorem dX8_turns_13 : decode cX8_turns 13 = .ok (.ishl, 1) := by decide +kernel
theorem dX8_turns_14 : decode cX8_turns 14 = .ok (.iconst 1, 1) := by decide +kernel
theorem dX8_turns_15 : decode cX8_turns 15 = .ok (.isub, 1) := by decide +kernel
theorem dX8_turns_16 : decode cX8_turns 16 = .ok (.invokevirtual 131, 3) := by decide +kernel
theorem dX8_turns_19 : decode cX8_turns 19 = .ok (.if_icmp .ge 16, 3) := by decide +kernel
theorem dX8_turns_22 : decode cX8_turns 22 = .ok (.aload_n 0, 1) := by decide +kernel
theorem dX8_turns_23 : decode cX8_turns 23 = .ok (.getfield 34, 3) := by decide +kernel
theorem dX8_turns_26 : decode cX8_turns 26 = .ok (.iload_n 3, 1) := by decide +kernel
theorem dX8_turns_27 : decode cX8_turns 27 = .ok (.iconst 0, 1) := by decide +kernel
theorem dX8_turns_28 : decode cX8_turns 28 = .ok (.iastore, 1) := by decide +kernel
theorem dX8_turns_29 : decode cX8_turns 29 = .ok (.iinc 3 1, 3) := by decide +kernel
theorem dX8_turns_32 : decode cX8_turns 32 = .ok (.goto (-28), 3) := by decide +kernel
theorem dX8_turns_35 : decode cX8_turns 35 = .ok (.aload_n 0, 1) := by decide +kernel
theorem dX8_turns_36 : decode cX8_turns 36 = .ok (.aload_n 0, 1) := by decide +kernel
theorem dX8_turns_37 : decode cX8_turns 37 = .ok (.getfield 7, 3) := by decide +kernel
theorem dX8_turns_40 : decode cX8_turns 40 = .ok (.iload_n 1, 1) := by decide +kernel
theorem dX8_turns_41 : decode cX8_turns 41 = .ok (.iaload, 1) := by decide +kernel
theorem dX8_turns_42 : decode cX8_turns 42 = .ok (.invokevirtual 114, 3) := by decide +kernel
theorem dX8_turns_45 : decode cX8_turns 45 = .ok (.iconst 1, 1) := by decide +kernel
theorem dX8_turns_46 : decode cX8_turns 46 = .ok (.istore_n 3, 1) := by decide +kernel
theorem dX8_turns_47 : decode cX8_turns 47 = .ok (.iload_n 3, 1) := by decide +kernel
theorem dX8_turns_48 : decode cX8_turns 48 = .ok (.ifCond .eq 68, 3) := by decide +kernel
theorem dX8_turns_51 : decode cX8_turns 51 = .ok (.aload_n 0, 1) := by decide +kernel
theorem dX8_turns_52 : decode cX8_turns 52 = .ok (.iload_n 1, 1) := by decide +kernel
theorem dX8_turns_53 : decode cX8_turns 53 = .ok (.iload_n 1, 1) := by decide +kernel
theorem dX8_turns_54 : decode cX8_turns 54 = .ok (.invokevirtual 128, 3) := by decide +kernel
theorem dX8_turns_57 : decode cX8_turns 57 = .ok (.ifCond .eq 45, 3) := by decide +kernel
theorem dX8_turns_60 : decode cX8_turns 60 = .ok (.iinc 2 1, 3) := by decide +kernel
theorem dX8_turns_63 : decode cX8_turns 63 = .ok (.iconst 0, 1) := by decide +kernel
theorem dX8_turns_64 : decode cX8_turns 64 = .ok (.istore 4, 2) := by decide +kernel
theorem dX8_turns_66 : decode cX8_turns 66 = .ok (.iload 4, 2) := by decide +kernel
theorem dX8_turns_68 : decode cX8_turns 68 = .ok (.aload_n 0, 1) := by decide +kernel
theorem dX8_turns_69 : decode cX8_turns 69 = .ok (.getfield 7, 3) := by decide +kernel
theorem dX8_turns_72 : decode cX8_turns 72 = .ok (.iload_n 1, 1) := by decide +kernel
theorem dX8_turns_73 : decode cX8_turns 73 = .ok (.iaload, 1) := by decide +kernel
theorem dX8_turns_74 : decode cX8_turns 74 = .ok (.if_icmp .ge 28, 3) := by decide +kernel
theorem dX8_turns_77 : decode cX8_turns 77 = .ok (.aload_n 0, 1) := by decide +kernel
theorem dX8_turns_78 : decode cX8_turns 78 = .ok (.getfield 34, 3) := by decide +kernel
theorem dX8_turns_81 : decode cX8_turns 81 = .ok (.iload 4, 2) := by decide +kernel
theorem dX8_turns_83 : decode cX8_turns 83 = .ok (.dup2, 1) := by decide +kernel
theorem dX8_turns_84 : decode cX8_turns 84 = .ok (.iaload, 1) := by decide +kernel
theorem dX8_turns_85 : decode cX8_turns 85 = .ok (.iconst 1, 1) := by decide +kernel
theorem dX8_turns_86 : decode cX8_turns 86 = .ok (.aload_n 0, 1) := by decide +kernel
theorem dX8_turns_87 : decode cX8_turns 87 = .ok (.getfield 19, 3) := by decide +kernel
theorem dX8_turns_90 : decode cX8_turns 90 = .ok (.iload 4, 2) := by decide +kernel
theorem dX8_turns_92 : decode cX8_turns 92 = .ok (.iaload, 1) := by decide +kernel
theorem dX8_turns_93 : decode cX8_turns 93 = .ok (.ishl, 1) := by decide +kernel
theorem dX8_turns_94 : decode cX8_turns 94 = .ok (.ior, 1) := by decide +kernel
theorem dX8_turns_95 : decode cX8_turns 95 = .ok (.iastore, 1) := by decide +kernel
theorem dX8_turns_96 : decode cX8_turns 96 = .ok (.iinc 4 1, 3) := by decide +kernel
theorem dX8_turns_99 : decode cX8_turns 99 = .ok (.goto (-33), 3) := by decide +kernel
theorem dX8_turns_102 : decode cX8_turns 102 = .ok (.aload_n 0, 1) := by decide +kernel
theorem dX8_turns_103 : decode cX8_turns 103 = .ok (.aload_n 0, 1) := by decide +kernel
theorem dX8_turns_104 : decode cX8_turns 104 = .ok (.getfield 7, 3) := by decide +kernel
theorem dX8_turns_107 : decode cX8_turns 107 = .ok (.iload_n 1, 1) := by decide +kernel
theorem dX8_turns_108 : decode cX8_turns 108 = .ok (.iaload, 1) := by decide +kernel
theorem dX8_turns_109 : decode cX8_turns 109 = .ok (.invokevirtual 122, 3) := by decide +kernel
theorem dX8_turns_112 : decode cX8_turns 112 = .ok (.istore_n 3, 1) := by decide +kernel
theorem dX8_turns_113 : decode cX8_turns 113 = .ok (.goto (-66), 3) := by decide +kernel
theorem dX8_turns_116 : decode cX8_turns 116 = .ok (.iload_n 2, 1) := by decide +kernel
theorem dX8_turns_117 : decode cX8_turns 117 = .ok (.ireturn, 1) := by decide +kernel
set_option maxRecDepth 20000 in
theorem ggX8_turns_X8_chooses : GoodIn wsX8_turns wsX8_chooses := goodIn_r _ [8, 9, 28, 29, 30, 31, 32, 33, 34, 35, 36, 37, 38, 39, 40, 41, 42, 43, 44] (by decide +kernel) (by decide +kernel)
set_option maxRecDepth 20000 in
theorem gX8_turns_X8_chooses : GoodIn wsX8_turns (wsV RX8 131 RX8 yX8_chooses wsX8_chooses) := goodIn_app (goodIn_of _ (by decide +kernel)) ggX8_turns_X8_chooses
set_option maxRecDepth 20000 in
theorem ggX8_turns_X8_beginsMaps : GoodIn wsX8_turns wsX8_beginsMaps := goodIn_r _ [13, 3, 28, 29, 30, 31, 32, 33, 34, 35, 36, 37, 38, 39, 40, 41, 42, 43, 44] (by decide +kernel) (by decide +kernel)
set_option maxRecDepth 20000 in
theorem gX8_turns_X8_beginsMaps : GoodIn wsX8_turns (wsV RX8 114 RX8 yX8_beginsMaps wsX8_beginsMaps) := goodIn_app (goodIn_of _ (by decide +kernel)) ggX8_turns_X8_beginsMaps
set_option maxRecDepth 20000 in
theorem ggX8_turns_X8_keeps : GoodIn wsX8_turns wsX8_keeps := goodIn_r _ [17, 1, 18, 9, 3, 19, 20, 21, 7, 22, 23, 28, 29, 30, 31, 32, 33, 34, 35, 36, 37, 38, 39, 40, 41, 42, 43, 44] (by decide +kernel) (by decide +kernel)
set_option maxRecDepth 20000 in
theorem gX8_turns_X8_keeps : GoodIn wsX8_turns (wsV RX8 128 RX8 yX8_keeps wsX8_keeps) := goodIn_app (goodIn_of _ (by decide +kernel)) ggX8_turns_X8_keeps
set_option maxRecDepth 20000 in
theorem ggX8_turns_X8_nextMap : GoodIn wsX8_turns wsX8_nextMap := goodIn_r _ [27, 3, 28, 29, 30, 31, 32, 33, 34, 35, 36, 37, 38, 39, 40, 41, 42, 43, 44] (by decide +kernel) (by decide +kernel)
set_option maxRecDepth 20000 in
theorem gX8_turns_X8_nextMap : GoodIn wsX8_turns (wsV RX8 122 RX8 yX8_nextMap wsX8_nextMap) := goodIn_app (goodIn_of _ (by decide +kernel)) ggX8_turns_X8_nextMap
theorem in_X8_turns_CanonCoteModel : ∀ w ∈ u_ws RX8 TX8 17, w ∈ wsX8_turns := by decide +kernel
theorem wd_X8_turns_1 : Cond.fieldLink RX8 7 (TX8 0).1 (TX8 0).2.1 (TX8 0).2.2.1 ∈ wsX8_turns := by decide +kernel
theorem wd_X8_turns_2 : Cond.fieldLink RX8 34 (TX8 8).1 (TX8 8).2.1 (TX8 8).2.2.1 ∈ wsX8_turns := by decide +kernel
theorem wd_X8_turns_3 : Cond.fieldLink RX8 19 (TX8 3).1 (TX8 3).2.1 (TX8 3).2.2.1 ∈ wsX8_turns := by decide +kernel
def r_X8_turns : Room := { frames := 3, cells := 0, slots := 0, locals := 60 }
set_option maxRecDepth 100000 in
set_option maxHeartbeats 4000000 in
theorem w_X8_turns_102 {K : zK} (hk : zIs K RX8 cX8_turns 5 wsX8_turns (some .int) r_X8_turns) {r0 : Int32} {τ0 : zST} (hq : zQ K (some (.int r0)) τ0) (F : Nat) (k47 : Nat → Int32 → Int32 → Int32 → zST → Option (Int32 × zST)) (hk47 : ∀ (a0 : Nat) (a1 : Int32) (a2 : Int32) (a3 : Int32) (ha0 : atCanonCoteModel (kZ K) a0) (σ : zST), k47 a0 a1 a2 a3 σ = some (r0, τ0) → Z K 0 0 47 [(0, .ref (eA (kZ K) a0)), (1, .int a1), (2, .int a2), (3, .int a3)] [] σ) (a0 : Nat) (a1 : Int32) (a2 : Int32) (ha0 : atCanonCoteModel (kZ K) a0) (σ : zST) (h : m_X8_turns_102 F k47 a0 a1 a2 σ = some (r0, τ0)) : Z K 0 0 102 [(0, .ref (eA (kZ K) a0)), (1, .int a1), (2, .int a2)] [] σ := by
  unfold m_X8_turns_102 at h
  refine Z_aload_n hk 0 dX8_turns_102 rfl rfl ?_
  refine Z_aload_n hk 0 dX8_turns_103 rfl rfl ?_
  refine Z_get hk in_X8_turns_CanonCoteModel rfl ha0.cell.1 (ha0.cell.2 _) 0 (by decide) wd_X8_turns_1 rfl dX8_turns_104 ?_
  refine Z_iload_n hk 1 dX8_turns_107 rfl rfl ?_
  obtain ⟨i28, x26, e27, h⟩ := ldI_get h
  refine Z_iald hk (ha0.sizes) i28 dX8_turns_108 ?_
  refine Z_eqI e27 ?_
  obtain ⟨x29, s30, h31, h⟩ := bd_ok h
  refine Z_callV 1 hk [.int x26] (c_X8_nextMap hk.loc hk.inj F a0 x26 ha0 σ h31) gX8_turns_X8_nextMap rfl ⟨rfl, rfl⟩ (by decide +kernel) ⟨Nat.le_of_ble_eq_true rfl, Nat.le_of_ble_eq_true rfl⟩ ha0.cell.1 (ha0.cell.2 _) rfl rfl rfl (Nat.le_of_ble_eq_true rfl) ⟨Nat.zero_le _, Nat.zero_le _⟩ dX8_turns_109 ?_
  show Z K 0 0 112 [(0, .ref (eA (kZ K) a0)), (1, .int a1), (2, .int a2)] [.int x29] s30
  refine Z_istore_n hk (lv' := [(3, .int x29), (0, .ref (eA (kZ K) a0)), (1, .int a1), (2, .int a2)]) dX8_turns_112 rfl (by decide) rfl ?_
  refine Z_goto hk (tgt := 47) dX8_turns_113 (by decide) ?_
  refine Z_sub [1, 2, 3, 0] rfl ?_
  exact hk47 a0 a1 a2 x29 ha0 s30 h
set_option maxRecDepth 100000 in
set_option maxHeartbeats 4000000 in
theorem w_X8_turns_66 {K : zK} (hk : zIs K RX8 cX8_turns 5 wsX8_turns (some .int) r_X8_turns) {r0 : Int32} {τ0 : zST} (hq : zQ K (some (.int r0)) τ0) (F : Nat) (k47 : Nat → Int32 → Int32 → Int32 → zST → Option (Int32 × zST)) (hk47 : ∀ (a0 : Nat) (a1 : Int32) (a2 : Int32) (a3 : Int32) (ha0 : atCanonCoteModel (kZ K) a0) (σ : zST), k47 a0 a1 a2 a3 σ = some (r0, τ0) → Z K 0 0 47 [(0, .ref (eA (kZ K) a0)), (1, .int a1), (2, .int a2), (3, .int a3)] [] σ) : ∀ (n : Nat) (a0 : Nat) (a1 : Int32) (a2 : Int32) (a4 : Int32) (ha0 : atCanonCoteModel (kZ K) a0) (σ : zST), m_X8_turns_66 F k47 n a0 a1 a2 a4 σ = some (r0, τ0) → Z K 0 0 66 [(0, .ref (eA (kZ K) a0)), (1, .int a1), (2, .int a2), (4, .int a4)] [] σ := by
  intro n
  induction n with
  | zero => intro a0 a1 a2 a4 ha0 σ h; cases h
  | succ n ih =>
    intro a0 a1 a2 a4 ha0 σ h
    rw [m_X8_turns_66] at h
    refine Z_iload hk 3 dX8_turns_66 rfl ?_
    refine Z_aload_n hk 0 dX8_turns_68 rfl rfl ?_
    refine Z_get hk in_X8_turns_CanonCoteModel rfl ha0.cell.1 (ha0.cell.2 _) 0 (by decide) wd_X8_turns_1 rfl dX8_turns_69 ?_
    refine Z_iload_n hk 1 dX8_turns_72 rfl rfl ?_
    obtain ⟨i34, x32, e33, h⟩ := ldI_get h
    refine Z_iald hk (ha0.sizes) i34 dX8_turns_73 ?_
    refine Z_eqI e33 ?_
    refine Z_icmp_ge hk (tgt := 102) dX8_turns_74 (by decide) (fun c35 => ?_) (fun c35 => ?_)
    · have h := if_yes h c35
      refine Z_sub [0, 1, 2] rfl ?_
      exact w_X8_turns_102 hk hq F k47 hk47 a0 a1 a2 ha0 σ h
    · have h := if_no h c35
      refine Z_aload_n hk 0 dX8_turns_77 rfl rfl ?_
      refine Z_get hk in_X8_turns_CanonCoteModel rfl ha0.cell.1 (ha0.cell.2 _) 8 (by decide) wd_X8_turns_2 rfl dX8_turns_78 ?_
      refine Z_iload hk 3 dX8_turns_81 rfl ?_
      refine Z_dup2 hk dX8_turns_83 rfl rfl ?_
      obtain ⟨i38, x36, e37, h⟩ := ldI_get h
      refine Z_iald hk (ha0.orbits) i38 dX8_turns_84 ?_
      refine Z_eqI e37 ?_
      refine Z_iconst hk dX8_turns_85 zc_iconst_1 ?_
      refine Z_aload_n hk 0 dX8_turns_86 rfl rfl ?_
      refine Z_get hk in_X8_turns_CanonCoteModel rfl ha0.cell.1 (ha0.cell.2 _) 3 (by decide) wd_X8_turns_3 rfl dX8_turns_87 ?_
      refine Z_iload hk 3 dX8_turns_90 rfl ?_
      obtain ⟨i41, x39, e40, h⟩ := ldI_get h
      refine Z_iald hk (ha0.map) i41 dX8_turns_92 ?_
      refine Z_eqI e40 ?_
      refine Z_ishl hk dX8_turns_93 ?_
      refine Z_ior hk dX8_turns_94 ?_
      obtain ⟨i44, s42, e43, h⟩ := stI_get h
      refine Z_iast hk (ha0.orbits) i44 dX8_turns_95 ?_
      refine Z_eqS e43 ?_
      obtain ⟨x45, e46, h⟩ := nm_get h
      refine Z_iinc hk 3 (v := x45) (lv' := [(4, .int x45), (0, .ref (eA (kZ K) a0)), (1, .int a1), (2, .int a2)]) dX8_turns_96 rfl (by rw [zc_iinc_1]; exact e46) (by decide) rfl ?_
      refine Z_goto hk (tgt := 66) dX8_turns_99 (by decide) ?_
      refine Z_sub [1, 2, 3, 0] rfl ?_
      exact ih a0 a1 a2 x45 ha0 s42 h
set_option maxRecDepth 100000 in
set_option maxHeartbeats 4000000 in
theorem w_X8_turns_47 {K : zK} (hk : zIs K RX8 cX8_turns 5 wsX8_turns (some .int) r_X8_turns) {r0 : Int32} {τ0 : zST} (hq : zQ K (some (.int r0)) τ0) (F : Nat) : ∀ (n : Nat) (a0 : Nat) (a1 : Int32) (a2 : Int32) (a3 : Int32) (ha0 : atCanonCoteModel (kZ K) a0) (σ : zST), m_X8_turns_47 F n a0 a1 a2 a3 σ = some (r0, τ0) → Z K 0 0 47 [(0, .ref (eA (kZ K) a0)), (1, .int a1), (2, .int a2), (3, .int a3)] [] σ := by
  intro n
  induction n with
  | zero => intro a0 a1 a2 a3 ha0 σ h; cases h
  | succ n ih =>
    intro a0 a1 a2 a3 ha0 σ h
    rw [m_X8_turns_47] at h
    refine Z_iload_n hk 3 dX8_turns_47 rfl rfl ?_
    refine Z_if_eq hk (tgt := 116) dX8_turns_48 (by decide) (fun c19 => ?_) (fun c19 => ?_)
    · have h := if_yes h c19
      refine Z_iload_n hk 2 dX8_turns_116 rfl rfl ?_
      cases h
      exact Z_iret hk hq dX8_turns_117
    · have h := if_no h c19
      refine Z_aload_n hk 0 dX8_turns_51 rfl rfl ?_
      refine Z_iload_n hk 1 dX8_turns_52 rfl rfl ?_
      refine Z_iload_n hk 1 dX8_turns_53 rfl rfl ?_
      obtain ⟨x20, s21, h22, h⟩ := bd_ok h
      refine Z_callV 2 hk [.int a1, .int a1] (c_X8_keeps hk.loc hk.inj F a0 a1 a1 ha0 σ h22) gX8_turns_X8_keeps rfl ⟨rfl, rfl⟩ (by decide +kernel) ⟨Nat.le_of_ble_eq_true rfl, Nat.le_of_ble_eq_true rfl⟩ ha0.cell.1 (ha0.cell.2 _) rfl rfl rfl (Nat.le_of_ble_eq_true rfl) ⟨Nat.zero_le _, Nat.zero_le _⟩ dX8_turns_54 ?_
      show Z K 0 0 57 [(0, .ref (eA (kZ K) a0)), (1, .int a1), (2, .int a2), (3, .int a3)] [.int x20] s21
      refine Z_if_eq hk (tgt := 102) dX8_turns_57 (by decide) (fun c23 => ?_) (fun c23 => ?_)
      · have h := if_yes h c23
        refine Z_sub [0, 1, 2] rfl ?_
        exact w_X8_turns_102 hk hq F (m_X8_turns_47 F n) ih a0 a1 a2 ha0 s21 h
      · have h := if_no h c23
        obtain ⟨x24, e25, h⟩ := nm_get h
        refine Z_iinc hk 2 (v := x24) (lv' := [(2, .int x24), (0, .ref (eA (kZ K) a0)), (1, .int a1), (3, .int a3)]) dX8_turns_60 rfl (by rw [zc_iinc_1]; exact e25) (by decide) rfl ?_
        refine Z_iconst hk dX8_turns_63 zc_iconst_0 ?_
        refine Z_istore hk (lv' := [(4, .int 0), (2, .int x24), (0, .ref (eA (kZ K) a0)), (1, .int a1), (3, .int a3)]) dX8_turns_64 (by decide) rfl ?_
        refine Z_sub [2, 3, 1, 0] rfl ?_
        exact w_X8_turns_66 hk hq F (m_X8_turns_47 F n) ih F a0 a1 x24 0 ha0 s21 h
set_option maxRecDepth 100000 in
set_option maxHeartbeats 4000000 in
theorem w_X8_turns_4 {K : zK} (hk : zIs K RX8 cX8_turns 5 wsX8_turns (some .int) r_X8_turns) {r0 : Int32} {τ0 : zST} (hq : zQ K (some (.int r0)) τ0) (F : Nat) : ∀ (n : Nat) (a0 : Nat) (a1 : Int32) (a2 : Int32) (a3 : Int32) (ha0 : atCanonCoteModel (kZ K) a0) (σ : zST), m_X8_turns_4 F n a0 a1 a2 a3 σ = some (r0, τ0) → Z K 0 0 4 [(0, .ref (eA (kZ K) a0)), (1, .int a1), (2, .int a2), (3, .int a3)] [] σ := by
  intro n
  induction n with
  | zero => intro a0 a1 a2 a3 ha0 σ h; cases h
  | succ n ih =>
    intro a0 a1 a2 a3 ha0 σ h
    rw [m_X8_turns_4] at h
    refine Z_iload_n hk 3 dX8_turns_4 rfl rfl ?_
    refine Z_aload_n hk 0 dX8_turns_5 rfl rfl ?_
    refine Z_iconst hk dX8_turns_6 zc_iconst_1 ?_
    refine Z_aload_n hk 0 dX8_turns_7 rfl rfl ?_
    refine Z_get hk in_X8_turns_CanonCoteModel rfl ha0.cell.1 (ha0.cell.2 _) 0 (by decide) wd_X8_turns_1 rfl dX8_turns_8 ?_
    refine Z_iload_n hk 1 dX8_turns_11 rfl rfl ?_
    obtain ⟨i3, x1, e2, h⟩ := ldI_get h
    refine Z_iald hk (ha0.sizes) i3 dX8_turns_12 ?_
    refine Z_eqI e2 ?_
    refine Z_ishl hk dX8_turns_13 ?_
    refine Z_iconst hk dX8_turns_14 zc_iconst_1 ?_
    refine Z_isub hk dX8_turns_15 ?_
    obtain ⟨x4, s5, h6, h⟩ := bd_ok h
    refine Z_callV 1 hk [.int ((jshl 1 x1) - 1)] (c_X8_chooses hk.loc hk.inj F a0 ((jshl 1 x1) - 1) ha0 σ h6) gX8_turns_X8_chooses rfl ⟨rfl, rfl⟩ (by decide +kernel) ⟨Nat.le_of_ble_eq_true rfl, Nat.le_of_ble_eq_true rfl⟩ ha0.cell.1 (ha0.cell.2 _) rfl rfl rfl (Nat.le_of_ble_eq_true rfl) ⟨Nat.zero_le _, Nat.zero_le _⟩ dX8_turns_16 ?_
    show Z K 0 0 19 [(0, .ref (eA (kZ K) a0)), (1, .int a1), (2, .int a2), (3, .int a3)] [.int x4, .int a3] s5
    refine Z_icmp_ge hk (tgt := 35) dX8_turns_19 (by decide) (fun c7 => ?_) (fun c7 => ?_)
    · have h := if_yes h c7
      refine Z_aload_n hk 0 dX8_turns_35 rfl rfl ?_
      refine Z_aload_n hk 0 dX8_turns_36 rfl rfl ?_
      refine Z_get hk in_X8_turns_CanonCoteModel rfl ha0.cell.1 (ha0.cell.2 _) 0 (by decide) wd_X8_turns_1 rfl dX8_turns_37 ?_
      refine Z_iload_n hk 1 dX8_turns_40 rfl rfl ?_
      obtain ⟨i10, x8, e9, h⟩ := ldI_get h
      refine Z_iald hk (ha0.sizes) i10 dX8_turns_41 ?_
      refine Z_eqI e9 ?_
      obtain ⟨s12, h13, h⟩ := bv_ok h
      refine Z_callV 1 hk [.int x8] (c_X8_beginsMaps hk.loc hk.inj F a0 x8 ha0 s5 h13) gX8_turns_X8_beginsMaps rfl ⟨rfl, rfl⟩ (by decide +kernel) ⟨Nat.le_of_ble_eq_true rfl, Nat.le_of_ble_eq_true rfl⟩ ha0.cell.1 (ha0.cell.2 _) rfl rfl rfl (Nat.le_of_ble_eq_true rfl) ⟨Nat.zero_le _, Nat.zero_le _⟩ dX8_turns_42 ?_
      show Z K 0 0 45 [(0, .ref (eA (kZ K) a0)), (1, .int a1), (2, .int a2), (3, .int a3)] [] s12
      refine Z_iconst hk dX8_turns_45 zc_iconst_1 ?_
      refine Z_istore_n hk (lv' := [(3, .int 1), (0, .ref (eA (kZ K) a0)), (1, .int a1), (2, .int a2)]) dX8_turns_46 rfl (by decide) rfl ?_
      refine Z_sub [1, 2, 3, 0] rfl ?_
      exact w_X8_turns_47 hk hq F F a0 a1 a2 1 ha0 s12 h
    · have h := if_no h c7
      refine Z_aload_n hk 0 dX8_turns_22 rfl rfl ?_
      refine Z_get hk in_X8_turns_CanonCoteModel rfl ha0.cell.1 (ha0.cell.2 _) 8 (by decide) wd_X8_turns_2 rfl dX8_turns_23 ?_
      refine Z_iload_n hk 3 dX8_turns_26 rfl rfl ?_
      refine Z_iconst hk dX8_turns_27 zc_iconst_0 ?_
      obtain ⟨i16, s14, e15, h⟩ := stI_get h
      refine Z_iast hk (ha0.orbits) i16 dX8_turns_28 ?_
      refine Z_eqS e15 ?_
      obtain ⟨x17, e18, h⟩ := nm_get h
      refine Z_iinc hk 3 (v := x17) (lv' := [(3, .int x17), (0, .ref (eA (kZ K) a0)), (1, .int a1), (2, .int a2)]) dX8_turns_29 rfl (by rw [zc_iinc_1]; exact e18) (by decide) rfl ?_
      refine Z_goto hk (tgt := 4) dX8_turns_32 (by decide) ?_
      refine Z_sub [1, 2, 3, 0] rfl ?_
      exact ih a0 a1 a2 x17 ha0 s14 h
set_option maxRecDepth 100000 in
set_option maxHeartbeats 4000000 in
theorem w_X8_turns {K : zK} (hk : zIs K RX8 cX8_turns 5 wsX8_turns (some .int) r_X8_turns) {r0 : Int32} {τ0 : zST} (hq : zQ K (some (.int r0)) τ0) (F : Nat) (a0 : Nat) (a1 : Int32) (ha0 : atCanonCoteModel (kZ K) a0) (σ : zST) (h : m_X8_turns F a0 a1 σ = some (r0, τ0)) : Z K 0 0 0 [(0, .ref (eA (kZ K) a0)), (1, .int a1)] [] σ := by
  unfold m_X8_turns at h
  refine Z_iconst hk dX8_turns_0 zc_iconst_0 ?_
  refine Z_istore_n hk (lv' := [(2, .int 0), (0, .ref (eA (kZ K) a0)), (1, .int a1)]) dX8_turns_1 rfl (by decide) rfl ?_
  refine Z_iconst hk dX8_turns_2 zc_iconst_0 ?_
  refine Z_istore_n hk (lv' := [(3, .int 0), (2, .int 0), (0, .ref (eA (kZ K) a0)), (1, .int a1)]) dX8_turns_3 rfl (by decide) rfl ?_
  refine Z_sub [2, 3, 1, 0] rfl ?_
  exact w_X8_turns_4 hk hq F F a0 a1 0 0 ha0 σ h
theorem c_X8_turns {l : Launch} {E : zE} (hL : eL E) (hJ : eJ E) (F : Nat) (a0 : Nat) (a1 : Int32) (ha0 : atCanonCoteModel E a0) (σ : zST) {r0 : Int32} {τ0 : zST} (h : m_X8_turns F a0 a1 σ = some (r0, τ0)) : Ct l yX8_turns wsX8_turns r_X8_turns E [.ref (eA E a0), .int a1] σ (some (.int r0)) τ0 := by
  refine Ct_of (by decide) rfl hL hJ (Nat.le_of_ble_eq_true rfl) (fun K hE hl hk hq => ?_)
  subst hE
  exact w_X8_turns hk hq F a0 a1 ha0 σ h
end

-- CanonCoteModel.symmetries (I)I
section
theorem dX8_symmetries_0 : decode cX8_symmetries 0 = .ok (.aload_n 0, 1) := by decide +kernel
theorem dX8_symmetries_1 : decode cX8_symmetries 1 = .ok (.iload_n 1, 1) := by decide +kernel
theorem dX8_symmetries_2 : decode cX8_symmetries 2 = .ok (.invokestatic 62, 3) := by decide +kernel
theorem dX8_symmetries_5 : decode cX8_symmetries 5 = .ok (.iconst 1, 1) := by decide +kernel
theorem dX8_symmetries_6 : decode cX8_symmetries 6 = .ok (.invokevirtual 73, 3) := by decide +kernel
theorem dX8_symmetries_9 : decode cX8_symmetries 9 = .ok (.ifCond .eq 11, 3) := by decide +kernel
theorem dX8_symmetries_12 : decode cX8_symmetries 12 = .ok (.aload_n 0, 1) := by decide +kernel
theorem dX8_symmetries_13 : decode cX8_symmetries 13 = .ok (.iload_n 1, 1) := by decide +kernel
theorem dX8_symmetries_14 : decode cX8_symmetries 14 = .ok (.invokevirtual 140, 3) := by decide +kernel
theorem dX8_symmetries_17 : decode cX8_symmetries 17 = .ok (.goto 4, 3) := by decide +kernel
theorem dX8_symmetries_20 : decode cX8_symmetries 20 = .ok (.iconst 0, 1) := by decide +kernel
theorem dX8_symmetries_21 : decode cX8_symmetries 21 = .ok (.ireturn, 1) := by decide +kernel
set_option maxRecDepth 20000 in
theorem ggX8_symmetries_X8_isGraph : GoodIn wsX8_symmetries wsX8_isGraph := goodIn_r _ [4, 5, 6, 3, 7] (by decide +kernel) (by decide +kernel)
set_option maxRecDepth 20000 in
theorem gX8_symmetries_X8_isGraph : GoodIn wsX8_symmetries (va_wsS RX8 62 yX8_isGraph wsX8_isGraph) := goodIn_app (goodIn_of _ (by decide +kernel)) ggX8_symmetries_X8_isGraph
set_option maxRecDepth 20000 in
theorem ggX8_symmetries_X8_goes : GoodIn wsX8_symmetries wsX8_goes := goodIn_r _ [11, 12, 43, 44, 45, 46, 47, 48, 49, 50, 51, 52, 53, 54, 55, 56, 57, 58, 59] (by decide +kernel) (by decide +kernel)
set_option maxRecDepth 20000 in
theorem gX8_symmetries_X8_goes : GoodIn wsX8_symmetries (wsV RX8 73 RX8 yX8_goes wsX8_goes) := goodIn_app (goodIn_of _ (by decide +kernel)) ggX8_symmetries_X8_goes
set_option maxRecDepth 20000 in
theorem ggX8_symmetries_X8_turns : GoodIn wsX8_symmetries wsX8_turns := goodIn_r _ [16, 17, 18, 19, 20, 21, 22, 3, 23, 24, 25, 26, 27, 28, 29, 30, 31, 32, 33, 34, 35, 36, 37, 38, 39, 40, 41, 42, 43, 44, 45, 46, 47, 48, 49, 50, 51, 52, 53, 54, 55, 56, 57, 58, 59] (by decide +kernel) (by decide +kernel)
set_option maxRecDepth 20000 in
theorem gX8_symmetries_X8_turns : GoodIn wsX8_symmetries (wsV RX8 140 RX8 yX8_turns wsX8_turns) := goodIn_app (goodIn_of _ (by decide +kernel)) ggX8_symmetries_X8_turns
def r_X8_symmetries : Room := { frames := 4, cells := 0, slots := 0, locals := 84 }
set_option maxRecDepth 100000 in
set_option maxHeartbeats 4000000 in
theorem w_X8_symmetries {K : zK} (hk : zIs K RX8 cX8_symmetries 2 wsX8_symmetries (some .int) r_X8_symmetries) {r0 : Int32} {τ0 : zST} (hq : zQ K (some (.int r0)) τ0) (F : Nat) (a0 : Nat) (a1 : Int32) (ha0 : atCanonCoteModel (kZ K) a0) (σ : zST) (h : m_X8_symmetries F a0 a1 σ = some (r0, τ0)) : Z K 0 0 0 [(0, .ref (eA (kZ K) a0)), (1, .int a1)] [] σ := by
  unfold m_X8_symmetries at h
  refine Z_aload_n hk 0 dX8_symmetries_0 rfl rfl ?_
  refine Z_iload_n hk 1 dX8_symmetries_1 rfl rfl ?_
  obtain ⟨x1, s2, h3, h⟩ := bd_ok h
  refine Z_callT 1 hk [.int a1] (c_X8_isGraph hk.loc hk.inj F a1 σ h3) gX8_symmetries_X8_isGraph rfl ⟨rfl, rfl⟩ (by decide +kernel) ⟨Nat.le_of_ble_eq_true rfl, Nat.le_of_ble_eq_true rfl⟩ rfl rfl (Nat.le_of_ble_eq_true rfl) ⟨Nat.zero_le _, Nat.zero_le _⟩ dX8_symmetries_2 ?_
  show Z K 0 0 5 [(0, .ref (eA (kZ K) a0)), (1, .int a1)] [.int x1, .ref (eA (kZ K) a0)] s2
  refine Z_iconst hk dX8_symmetries_5 zc_iconst_1 ?_
  obtain ⟨x4, s5, h6, h⟩ := bd_ok h
  refine Z_callV 2 hk [.int x1, .int 1] (c_X8_goes hk.loc hk.inj F a0 x1 1 ha0 s2 h6) gX8_symmetries_X8_goes rfl ⟨rfl, rfl⟩ (by decide +kernel) ⟨Nat.le_of_ble_eq_true rfl, Nat.le_of_ble_eq_true rfl⟩ ha0.cell.1 (ha0.cell.2 _) rfl rfl rfl (Nat.le_of_ble_eq_true rfl) ⟨Nat.zero_le _, Nat.zero_le _⟩ dX8_symmetries_6 ?_
  show Z K 0 0 9 [(0, .ref (eA (kZ K) a0)), (1, .int a1)] [.int x4] s5
  refine Z_if_eq hk (tgt := 20) dX8_symmetries_9 (by decide) (fun c7 => ?_) (fun c7 => ?_)
  · have h := if_yes h c7
    refine Z_iconst hk dX8_symmetries_20 zc_iconst_0 ?_
    cases h
    exact Z_iret hk hq dX8_symmetries_21
  · have h := if_no h c7
    refine Z_aload_n hk 0 dX8_symmetries_12 rfl rfl ?_
    refine Z_iload_n hk 1 dX8_symmetries_13 rfl rfl ?_
    obtain ⟨x8, s9, h10, h⟩ := bd_ok h
    refine Z_callV 1 hk [.int a1] (c_X8_turns hk.loc hk.inj F a0 a1 ha0 s5 h10) gX8_symmetries_X8_turns rfl ⟨rfl, rfl⟩ (by decide +kernel) ⟨Nat.le_of_ble_eq_true rfl, Nat.le_of_ble_eq_true rfl⟩ ha0.cell.1 (ha0.cell.2 _) rfl rfl rfl (Nat.le_of_ble_eq_true rfl) ⟨Nat.zero_le _, Nat.zero_le _⟩ dX8_symmetries_14 ?_
    show Z K 0 0 17 [(0, .ref (eA (kZ K) a0)), (1, .int a1)] [.int x8] s9
    refine Z_goto hk (tgt := 21) dX8_symmetries_17 (by decide) ?_
    cases h
    exact Z_iret hk hq dX8_symmetries_21
theorem c_X8_symmetries {l : Launch} {E : zE} (hL : eL E) (hJ : eJ E) (F : Nat) (a0 : Nat) (a1 : Int32) (ha0 : atCanonCoteModel E a0) (σ : zST) {r0 : Int32} {τ0 : zST} (h : m_X8_symmetries F a0 a1 σ = some (r0, τ0)) : Ct l yX8_symmetries wsX8_symmetries r_X8_symmetries E [.ref (eA E a0), .int a1] σ (some (.int r0)) τ0 := by
  refine Ct_of (by decide) rfl hL hJ (Nat.le_of_ble_eq_true rfl) (fun K hE hl hk hq => ?_)
  subst hE
  exact w_X8_symmetries hk hq F a0 a1 ha0 σ h
end

-- CanonCoteModel.orbits (I)I
section
theorem dX8_orbits_0 : decode cX8_orbits 0 = .ok (.iconst 0, 1) := by decide +kernel
theorem dX8_orbits_1 : decode cX8_orbits 1 = .ok (.istore_n 2, 1) := by decide +kernel
theorem dX8_orbits_2 : decode cX8_orbits 2 = .ok (.aload_n 0, 1) := by decide +kernel
theorem dX8_orbits_3 : decode cX8_orbits 3 = .ok (.iload_n 1, 1) := by decide +kernel
theorem dX8_orbits_4 : decode cX8_orbits 4 = .ok (.invokestatic 62, 3) := by decide +kernel
theorem dX8_orbits_7 : decode cX8_orbits 7 = .ok (.iconst 1, 1) := by decide +kernel
theorem dX8_orbits_8 : decode cX8_orbits 8 = .ok (.invokevirtual 73, 3) := by decide +kernel
theorem dX8_orbits_11 : decode cX8_orbits 11 = .ok (.ifCond .eq 52, 3) := by decide +kernel
theorem dX8_orbits_14 : decode cX8_orbits 14 = .ok (.aload_n 0, 1) := by decide +kernel
theorem dX8_orbits_15 : decode cX8_orbits 15 = .ok (.iload_n 1, 1) := by decide +kernel
theorem dX8_orbits_16 : decode cX8_orbits 16 = .ok (.invokevirtual 140, 3) := by decide +kernel
theorem dX8_orbits_19 : decode cX8_orbits 19 = .ok (.ifCond .le 44, 3) := by decide +kernel
theorem dX8_orbits_22 : decode cX8_orbits 22 = .ok (.iconst 0, 1) := by decide +kernel
theorem dX8_orbits_23 : decode cX8_orbits 23 = .ok (.istore_n 3, 1) := by decide +kernel
theorem dX8_orbits_24 : decode cX8_orbits 24 = .ok (.iload_n 3, 1) := by decide +kernel
theorem dX8_orbits_25 : decode cX8_orbits 25 = .ok (.aload_n 0, 1) := by decide +kernel
theorem dX8_orbits_26 : decode cX8_orbits 26 = .ok (.getfield 7, 3) := by decide +kernel
theorem dX8_orbits_29 : decode cX8_orbits 29 = .ok (.iload_n 1, 1) := by decide +kernel
theorem dX8_orbits_30 : decode cX8_orbits 30 = .ok (.iaload, 1) := by decide +kernel
theorem dX8_orbits_31 : decode cX8_orbits 31 = .ok (.if_icmp .ge 32, 3) := by decide +kernel
theorem dX8_orbits_34 : decode cX8_orbits 34 = .ok (.iload_n 2, 1) := by decide +kernel
theorem dX8_orbits_35 : decode cX8_orbits 35 = .ok (.aload_n 0, 1) := by decide +kernel
theorem dX8_orbits_36 : decode cX8_orbits 36 = .ok (.getfield 34, 3) := by decide +kernel
theorem dX8_orbits_39 : decode cX8_orbits 39 = .ok (.iload_n 3, 1) := by decide +kernel
theorem dX8_orbits_40 : decode cX8_orbits 40 = .ok (.iaload, 1) := by decide +kernel
theorem dX8_orbits_41 : decode cX8_orbits 41 = .ok (.iconst 1, 1) := by decide +kernel
theorem dX8_orbits_42 : decode cX8_orbits 42 = .ok (.iload_n 3, 1) := by decide +kernel
theorem dX8_orbits_43 : decode cX8_orbits 43 = .ok (.ishl, 1) := by decide +kernel
theorem dX8_orbits_44 : decode cX8_orbits 44 = .ok (.iconst 1, 1) := by decide +kernel
theorem dX8_orbits_45 : decode cX8_orbits 45 = .ok (.isub, 1) := by decide +kernel
theorem dX8_orbits_46 : decode cX8_orbits 46 = .ok (.iand, 1) := by decide +kernel
theorem dX8_orbits_47 : decode cX8_orbits 47 = .ok (.ifCond .ne 7, 3) := by decide +kernel
theorem dX8_orbits_50 : decode cX8_orbits 50 = .ok (.iconst 1, 1) := by decide +kernel
theorem dX8_orbits_51 : decode cX8_orbits 51 = .ok (.goto 4, 3) := by decide +kernel
theorem dX8_orbits_54 : decode cX8_orbits 54 = .ok (.iconst 0, 1) := by decide +kernel
theorem dX8_orbits_55 : decode cX8_orbits 55 = .ok (.iadd, 1) := by decide +kernel
theorem dX8_orbits_56 : decode cX8_orbits 56 = .ok (.istore_n 2, 1) := by decide +kernel
theorem dX8_orbits_57 : decode cX8_orbits 57 = .ok (.iinc 3 1, 3) := by decide +kernel
theorem dX8_orbits_60 : decode cX8_orbits 60 = .ok (.goto (-36), 3) := by decide +kernel
theorem dX8_orbits_63 : decode cX8_orbits 63 = .ok (.iload_n 2, 1) := by decide +kernel
theorem dX8_orbits_64 : decode cX8_orbits 64 = .ok (.ireturn, 1) := by decide +kernel
set_option maxRecDepth 20000 in
theorem ggX8_orbits_X8_isGraph : GoodIn wsX8_orbits wsX8_isGraph := goodIn_r _ [6, 7, 8, 5, 9] (by decide +kernel) (by decide +kernel)
set_option maxRecDepth 20000 in
theorem gX8_orbits_X8_isGraph : GoodIn wsX8_orbits (va_wsS RX8 62 yX8_isGraph wsX8_isGraph) := goodIn_app (goodIn_of _ (by decide +kernel)) ggX8_orbits_X8_isGraph
set_option maxRecDepth 20000 in
theorem ggX8_orbits_X8_goes : GoodIn wsX8_orbits wsX8_goes := goodIn_r _ [13, 14, 43, 44, 45, 46, 47, 48, 49, 50, 51, 52, 53, 54, 55, 56, 57, 58, 59] (by decide +kernel) (by decide +kernel)
set_option maxRecDepth 20000 in
theorem gX8_orbits_X8_goes : GoodIn wsX8_orbits (wsV RX8 73 RX8 yX8_goes wsX8_goes) := goodIn_app (goodIn_of _ (by decide +kernel)) ggX8_orbits_X8_goes
set_option maxRecDepth 20000 in
theorem ggX8_orbits_X8_turns : GoodIn wsX8_orbits wsX8_turns := goodIn_r _ [18, 1, 2, 19, 20, 21, 22, 5, 23, 24, 25, 26, 27, 28, 29, 30, 31, 32, 33, 34, 35, 36, 37, 38, 39, 40, 41, 42, 43, 44, 45, 46, 47, 48, 49, 50, 51, 52, 53, 54, 55, 56, 57, 58, 59] (by decide +kernel) (by decide +kernel)
set_option maxRecDepth 20000 in
theorem gX8_orbits_X8_turns : GoodIn wsX8_orbits (wsV RX8 140 RX8 yX8_turns wsX8_turns) := goodIn_app (goodIn_of _ (by decide +kernel)) ggX8_orbits_X8_turns
theorem in_X8_orbits_CanonCoteModel : ∀ w ∈ u_ws RX8 TX8 17, w ∈ wsX8_orbits := by decide +kernel
theorem wd_X8_orbits_1 : Cond.fieldLink RX8 7 (TX8 0).1 (TX8 0).2.1 (TX8 0).2.2.1 ∈ wsX8_orbits := by decide +kernel
theorem wd_X8_orbits_2 : Cond.fieldLink RX8 34 (TX8 8).1 (TX8 8).2.1 (TX8 8).2.2.1 ∈ wsX8_orbits := by decide +kernel
def r_X8_orbits : Room := { frames := 4, cells := 0, slots := 0, locals := 84 }
set_option maxRecDepth 100000 in
set_option maxHeartbeats 4000000 in
theorem w_X8_orbits_55 {K : zK} (hk : zIs K RX8 cX8_orbits 4 wsX8_orbits (some .int) r_X8_orbits) {r0 : Int32} {τ0 : zST} (hq : zQ K (some (.int r0)) τ0) (F : Nat) (k24 : Nat → Int32 → Int32 → Int32 → zST → Option (Int32 × zST)) (hk24 : ∀ (a0 : Nat) (a1 : Int32) (a2 : Int32) (a3 : Int32) (ha0 : atCanonCoteModel (kZ K) a0) (σ : zST), k24 a0 a1 a2 a3 σ = some (r0, τ0) → Z K 0 0 24 [(0, .ref (eA (kZ K) a0)), (1, .int a1), (2, .int a2), (3, .int a3)] [] σ) (a0 : Nat) (a1 : Int32) (a3 : Int32) (t0 : Int32) (t1 : Int32) (ha0 : atCanonCoteModel (kZ K) a0) (σ : zST) (h : m_X8_orbits_55 F k24 a0 a1 a3 t0 t1 σ = some (r0, τ0)) : Z K 0 0 55 [(0, .ref (eA (kZ K) a0)), (1, .int a1), (3, .int a3)] [.int t0, .int t1] σ := by
  unfold m_X8_orbits_55 at h
  refine Z_iadd hk dX8_orbits_55 ?_
  obtain ⟨x20, e21, h⟩ := nm_get h
  refine Z_eqI e21 ?_
  refine Z_istore_n hk (lv' := [(2, .int x20), (0, .ref (eA (kZ K) a0)), (1, .int a1), (3, .int a3)]) dX8_orbits_56 rfl (by decide) rfl ?_
  obtain ⟨x22, e23, h⟩ := nm_get h
  refine Z_iinc hk 3 (v := x22) (lv' := [(3, .int x22), (2, .int x20), (0, .ref (eA (kZ K) a0)), (1, .int a1)]) dX8_orbits_57 rfl (by rw [zc_iinc_1]; exact e23) (by decide) rfl ?_
  refine Z_goto hk (tgt := 24) dX8_orbits_60 (by decide) ?_
  refine Z_sub [2, 3, 1, 0] rfl ?_
  exact hk24 a0 a1 x20 x22 ha0 σ h
set_option maxRecDepth 100000 in
set_option maxHeartbeats 4000000 in
theorem w_X8_orbits_63 {K : zK} (hk : zIs K RX8 cX8_orbits 4 wsX8_orbits (some .int) r_X8_orbits) {r0 : Int32} {τ0 : zST} (hq : zQ K (some (.int r0)) τ0) (F : Nat) (a2 : Int32) (σ : zST) (h : m_X8_orbits_63 F a2 σ = some (r0, τ0)) : Z K 0 0 63 [(2, .int a2)] [] σ := by
  unfold m_X8_orbits_63 at h
  refine Z_iload_n hk 0 dX8_orbits_63 rfl rfl ?_
  cases h
  exact Z_iret hk hq dX8_orbits_64
set_option maxRecDepth 100000 in
set_option maxHeartbeats 4000000 in
theorem w_X8_orbits_24 {K : zK} (hk : zIs K RX8 cX8_orbits 4 wsX8_orbits (some .int) r_X8_orbits) {r0 : Int32} {τ0 : zST} (hq : zQ K (some (.int r0)) τ0) (F : Nat) : ∀ (n : Nat) (a0 : Nat) (a1 : Int32) (a2 : Int32) (a3 : Int32) (ha0 : atCanonCoteModel (kZ K) a0) (σ : zST), m_X8_orbits_24 F n a0 a1 a2 a3 σ = some (r0, τ0) → Z K 0 0 24 [(0, .ref (eA (kZ K) a0)), (1, .int a1), (2, .int a2), (3, .int a3)] [] σ := by
  intro n
  induction n with
  | zero => intro a0 a1 a2 a3 ha0 σ h; cases h
  | succ n ih =>
    intro a0 a1 a2 a3 ha0 σ h
    rw [m_X8_orbits_24] at h
    refine Z_iload_n hk 3 dX8_orbits_24 rfl rfl ?_
    refine Z_aload_n hk 0 dX8_orbits_25 rfl rfl ?_
    refine Z_get hk in_X8_orbits_CanonCoteModel rfl ha0.cell.1 (ha0.cell.2 _) 0 (by decide) wd_X8_orbits_1 rfl dX8_orbits_26 ?_
    refine Z_iload_n hk 1 dX8_orbits_29 rfl rfl ?_
    obtain ⟨i14, x12, e13, h⟩ := ldI_get h
    refine Z_iald hk (ha0.sizes) i14 dX8_orbits_30 ?_
    refine Z_eqI e13 ?_
    refine Z_icmp_ge hk (tgt := 63) dX8_orbits_31 (by decide) (fun c15 => ?_) (fun c15 => ?_)
    · have h := if_yes h c15
      refine Z_sub [2] rfl ?_
      exact w_X8_orbits_63 hk hq F a2 σ h
    · have h := if_no h c15
      refine Z_iload_n hk 2 dX8_orbits_34 rfl rfl ?_
      refine Z_aload_n hk 0 dX8_orbits_35 rfl rfl ?_
      refine Z_get hk in_X8_orbits_CanonCoteModel rfl ha0.cell.1 (ha0.cell.2 _) 8 (by decide) wd_X8_orbits_2 rfl dX8_orbits_36 ?_
      refine Z_iload_n hk 3 dX8_orbits_39 rfl rfl ?_
      obtain ⟨i18, x16, e17, h⟩ := ldI_get h
      refine Z_iald hk (ha0.orbits) i18 dX8_orbits_40 ?_
      refine Z_eqI e17 ?_
      refine Z_iconst hk dX8_orbits_41 zc_iconst_1 ?_
      refine Z_iload_n hk 3 dX8_orbits_42 rfl rfl ?_
      refine Z_ishl hk dX8_orbits_43 ?_
      refine Z_iconst hk dX8_orbits_44 zc_iconst_1 ?_
      refine Z_isub hk dX8_orbits_45 ?_
      refine Z_iand hk dX8_orbits_46 ?_
      refine Z_if_ne hk (tgt := 54) dX8_orbits_47 (by decide) (fun c19 => ?_) (fun c19 => ?_)
      · have h := if_yes h c19
        refine Z_iconst hk dX8_orbits_50 zc_iconst_1 ?_
        refine Z_goto hk (tgt := 55) dX8_orbits_51 (by decide) ?_
        refine Z_sub [0, 1, 3] rfl ?_
        exact w_X8_orbits_55 hk hq F (m_X8_orbits_24 F n) ih a0 a1 a3 1 a2 ha0 σ h
      · have h := if_no h c19
        refine Z_iconst hk dX8_orbits_54 zc_iconst_0 ?_
        refine Z_sub [0, 1, 3] rfl ?_
        exact w_X8_orbits_55 hk hq F (m_X8_orbits_24 F n) ih a0 a1 a3 0 a2 ha0 σ h
set_option maxRecDepth 100000 in
set_option maxHeartbeats 4000000 in
theorem w_X8_orbits {K : zK} (hk : zIs K RX8 cX8_orbits 4 wsX8_orbits (some .int) r_X8_orbits) {r0 : Int32} {τ0 : zST} (hq : zQ K (some (.int r0)) τ0) (F : Nat) (a0 : Nat) (a1 : Int32) (ha0 : atCanonCoteModel (kZ K) a0) (σ : zST) (h : m_X8_orbits F a0 a1 σ = some (r0, τ0)) : Z K 0 0 0 [(0, .ref (eA (kZ K) a0)), (1, .int a1)] [] σ := by
  unfold m_X8_orbits at h
  refine Z_iconst hk dX8_orbits_0 zc_iconst_0 ?_
  refine Z_istore_n hk (lv' := [(2, .int 0), (0, .ref (eA (kZ K) a0)), (1, .int a1)]) dX8_orbits_1 rfl (by decide) rfl ?_
  refine Z_aload_n hk 1 dX8_orbits_2 rfl rfl ?_
  refine Z_iload_n hk 2 dX8_orbits_3 rfl rfl ?_
  obtain ⟨x1, s2, h3, h⟩ := bd_ok h
  refine Z_callT 1 hk [.int a1] (c_X8_isGraph hk.loc hk.inj F a1 σ h3) gX8_orbits_X8_isGraph rfl ⟨rfl, rfl⟩ (by decide +kernel) ⟨Nat.le_of_ble_eq_true rfl, Nat.le_of_ble_eq_true rfl⟩ rfl rfl (Nat.le_of_ble_eq_true rfl) ⟨Nat.zero_le _, Nat.zero_le _⟩ dX8_orbits_4 ?_
  show Z K 0 0 7 [(2, .int 0), (0, .ref (eA (kZ K) a0)), (1, .int a1)] [.int x1, .ref (eA (kZ K) a0)] s2
  refine Z_iconst hk dX8_orbits_7 zc_iconst_1 ?_
  obtain ⟨x4, s5, h6, h⟩ := bd_ok h
  refine Z_callV 2 hk [.int x1, .int 1] (c_X8_goes hk.loc hk.inj F a0 x1 1 ha0 s2 h6) gX8_orbits_X8_goes rfl ⟨rfl, rfl⟩ (by decide +kernel) ⟨Nat.le_of_ble_eq_true rfl, Nat.le_of_ble_eq_true rfl⟩ ha0.cell.1 (ha0.cell.2 _) rfl rfl rfl (Nat.le_of_ble_eq_true rfl) ⟨Nat.zero_le _, Nat.zero_le _⟩ dX8_orbits_8 ?_
  show Z K 0 0 11 [(2, .int 0), (0, .ref (eA (kZ K) a0)), (1, .int a1)] [.int x4] s5
  refine Z_if_eq hk (tgt := 63) dX8_orbits_11 (by decide) (fun c7 => ?_) (fun c7 => ?_)
  · have h := if_yes h c7
    refine Z_sub [0] rfl ?_
    exact w_X8_orbits_63 hk hq F 0 s5 h
  · have h := if_no h c7
    refine Z_aload_n hk 1 dX8_orbits_14 rfl rfl ?_
    refine Z_iload_n hk 2 dX8_orbits_15 rfl rfl ?_
    obtain ⟨x8, s9, h10, h⟩ := bd_ok h
    refine Z_callV 1 hk [.int a1] (c_X8_turns hk.loc hk.inj F a0 a1 ha0 s5 h10) gX8_orbits_X8_turns rfl ⟨rfl, rfl⟩ (by decide +kernel) ⟨Nat.le_of_ble_eq_true rfl, Nat.le_of_ble_eq_true rfl⟩ ha0.cell.1 (ha0.cell.2 _) rfl rfl rfl (Nat.le_of_ble_eq_true rfl) ⟨Nat.zero_le _, Nat.zero_le _⟩ dX8_orbits_16 ?_
    show Z K 0 0 19 [(2, .int 0), (0, .ref (eA (kZ K) a0)), (1, .int a1)] [.int x8] s9
    refine Z_if_le hk (tgt := 63) dX8_orbits_19 (by decide) (fun c11 => ?_) (fun c11 => ?_)
    · have h := if_yes h c11
      refine Z_sub [0] rfl ?_
      exact w_X8_orbits_63 hk hq F 0 s9 h
    · have h := if_no h c11
      refine Z_iconst hk dX8_orbits_22 zc_iconst_0 ?_
      refine Z_istore_n hk (lv' := [(3, .int 0), (2, .int 0), (0, .ref (eA (kZ K) a0)), (1, .int a1)]) dX8_orbits_23 rfl (by decide) rfl ?_
      refine Z_sub [2, 3, 1, 0] rfl ?_
      exact w_X8_orbits_24 hk hq F F a0 a1 0 0 ha0 s9 h
theorem c_X8_orbits {l : Launch} {E : zE} (hL : eL E) (hJ : eJ E) (F : Nat) (a0 : Nat) (a1 : Int32) (ha0 : atCanonCoteModel E a0) (σ : zST) {r0 : Int32} {τ0 : zST} (h : m_X8_orbits F a0 a1 σ = some (r0, τ0)) : Ct l yX8_orbits wsX8_orbits r_X8_orbits E [.ref (eA E a0), .int a1] σ (some (.int r0)) τ0 := by
  refine Ct_of (by decide) rfl hL hJ (Nat.le_of_ble_eq_true rfl) (fun K hE hl hk hq => ?_)
  subst hE
  exact w_X8_orbits hk hq F a0 a1 ha0 σ h
end

-- CanonCoteModel.orbit (II)I
section
theorem dX8_orbit_0 : decode cX8_orbit 0 = .ok (.aload_n 0, 1) := by decide +kernel
theorem dX8_orbit_1 : decode cX8_orbit 1 = .ok (.aload_n 0, 1) := by decide +kernel
theorem dX8_orbit_2 : decode cX8_orbit 2 = .ok (.iload_n 1, 1) := by decide +kernel
theorem dX8_orbit_3 : decode cX8_orbit 3 = .ok (.iload_n 2, 1) := by decide +kernel
theorem dX8_orbit_4 : decode cX8_orbit 4 = .ok (.invokevirtual 66, 3) := by decide +kernel
theorem dX8_orbit_7 : decode cX8_orbit 7 = .ok (.iconst 1, 1) := by decide +kernel
theorem dX8_orbit_8 : decode cX8_orbit 8 = .ok (.invokevirtual 73, 3) := by decide +kernel
theorem dX8_orbit_11 : decode cX8_orbit 11 = .ok (.ifCond .eq 20, 3) := by decide +kernel
theorem dX8_orbit_14 : decode cX8_orbit 14 = .ok (.aload_n 0, 1) := by decide +kernel
theorem dX8_orbit_15 : decode cX8_orbit 15 = .ok (.iload_n 1, 1) := by decide +kernel
theorem dX8_orbit_16 : decode cX8_orbit 16 = .ok (.invokevirtual 140, 3) := by decide +kernel
theorem dX8_orbit_19 : decode cX8_orbit 19 = .ok (.ifCond .le 12, 3) := by decide +kernel
theorem dX8_orbit_22 : decode cX8_orbit 22 = .ok (.aload_n 0, 1) := by decide +kernel
theorem dX8_orbit_23 : decode cX8_orbit 23 = .ok (.getfield 34, 3) := by decide +kernel
theorem dX8_orbit_26 : decode cX8_orbit 26 = .ok (.iload_n 2, 1) := by decide +kernel
theorem dX8_orbit_27 : decode cX8_orbit 27 = .ok (.iaload, 1) := by decide +kernel
theorem dX8_orbit_28 : decode cX8_orbit 28 = .ok (.goto 4, 3) := by decide +kernel
theorem dX8_orbit_31 : decode cX8_orbit 31 = .ok (.iconst 0, 1) := by decide +kernel
theorem dX8_orbit_32 : decode cX8_orbit 32 = .ok (.ireturn, 1) := by decide +kernel
set_option maxRecDepth 20000 in
theorem ggX8_orbit_X8_isVertex : GoodIn wsX8_orbit wsX8_isVertex := goodIn_r _ [6, 7, 8, 9, 5, 10, 11, 12, 13, 47, 48, 49, 50, 51, 52, 53, 54, 55, 56, 57, 58, 59, 60, 61, 62, 63] (by decide +kernel) (by decide +kernel)
set_option maxRecDepth 20000 in
theorem gX8_orbit_X8_isVertex : GoodIn wsX8_orbit (wsV RX8 66 RX8 yX8_isVertex wsX8_isVertex) := goodIn_app (goodIn_of _ (by decide +kernel)) ggX8_orbit_X8_isVertex
set_option maxRecDepth 20000 in
theorem ggX8_orbit_X8_goes : GoodIn wsX8_orbit wsX8_goes := goodIn_r _ [17, 18, 47, 48, 49, 50, 51, 52, 53, 54, 55, 56, 57, 58, 59, 60, 61, 62, 63] (by decide +kernel) (by decide +kernel)
set_option maxRecDepth 20000 in
theorem gX8_orbit_X8_goes : GoodIn wsX8_orbit (wsV RX8 73 RX8 yX8_goes wsX8_goes) := goodIn_app (goodIn_of _ (by decide +kernel)) ggX8_orbit_X8_goes
set_option maxRecDepth 20000 in
theorem ggX8_orbit_X8_turns : GoodIn wsX8_orbit wsX8_turns := goodIn_r _ [22, 7, 1, 23, 24, 25, 26, 5, 27, 28, 29, 30, 31, 32, 33, 34, 35, 36, 37, 38, 39, 40, 41, 42, 43, 44, 45, 46, 47, 48, 49, 50, 51, 52, 53, 54, 55, 56, 57, 58, 59, 60, 61, 62, 63] (by decide +kernel) (by decide +kernel)
set_option maxRecDepth 20000 in
theorem gX8_orbit_X8_turns : GoodIn wsX8_orbit (wsV RX8 140 RX8 yX8_turns wsX8_turns) := goodIn_app (goodIn_of _ (by decide +kernel)) ggX8_orbit_X8_turns
theorem in_X8_orbit_CanonCoteModel : ∀ w ∈ u_ws RX8 TX8 17, w ∈ wsX8_orbit := by decide +kernel
theorem wd_X8_orbit_1 : Cond.fieldLink RX8 34 (TX8 8).1 (TX8 8).2.1 (TX8 8).2.2.1 ∈ wsX8_orbit := by decide +kernel
def r_X8_orbit : Room := { frames := 4, cells := 0, slots := 0, locals := 84 }
set_option maxRecDepth 100000 in
set_option maxHeartbeats 4000000 in
theorem w_X8_orbit_31 {K : zK} (hk : zIs K RX8 cX8_orbit 3 wsX8_orbit (some .int) r_X8_orbit) {r0 : Int32} {τ0 : zST} (hq : zQ K (some (.int r0)) τ0) (F : Nat)  (σ : zST) (h : m_X8_orbit_31 F σ = some (r0, τ0)) : Z K 0 0 31 [] [] σ := by
  unfold m_X8_orbit_31 at h
  refine Z_iconst hk dX8_orbit_31 zc_iconst_0 ?_
  cases h
  exact Z_iret hk hq dX8_orbit_32
set_option maxRecDepth 100000 in
set_option maxHeartbeats 4000000 in
theorem w_X8_orbit {K : zK} (hk : zIs K RX8 cX8_orbit 3 wsX8_orbit (some .int) r_X8_orbit) {r0 : Int32} {τ0 : zST} (hq : zQ K (some (.int r0)) τ0) (F : Nat) (a0 : Nat) (a1 : Int32) (a2 : Int32) (ha0 : atCanonCoteModel (kZ K) a0) (σ : zST) (h : m_X8_orbit F a0 a1 a2 σ = some (r0, τ0)) : Z K 0 0 0 [(0, .ref (eA (kZ K) a0)), (1, .int a1), (2, .int a2)] [] σ := by
  unfold m_X8_orbit at h
  refine Z_aload_n hk 0 dX8_orbit_0 rfl rfl ?_
  refine Z_aload_n hk 0 dX8_orbit_1 rfl rfl ?_
  refine Z_iload_n hk 1 dX8_orbit_2 rfl rfl ?_
  refine Z_iload_n hk 2 dX8_orbit_3 rfl rfl ?_
  obtain ⟨x1, s2, h3, h⟩ := bd_ok h
  refine Z_callV 2 hk [.int a1, .int a2] (c_X8_isVertex hk.loc hk.inj F a0 a1 a2 ha0 σ h3) gX8_orbit_X8_isVertex rfl ⟨rfl, rfl⟩ (by decide +kernel) ⟨Nat.le_of_ble_eq_true rfl, Nat.le_of_ble_eq_true rfl⟩ ha0.cell.1 (ha0.cell.2 _) rfl rfl rfl (Nat.le_of_ble_eq_true rfl) ⟨Nat.zero_le _, Nat.zero_le _⟩ dX8_orbit_4 ?_
  show Z K 0 0 7 [(0, .ref (eA (kZ K) a0)), (1, .int a1), (2, .int a2)] [.int x1, .ref (eA (kZ K) a0)] s2
  refine Z_iconst hk dX8_orbit_7 zc_iconst_1 ?_
  obtain ⟨x4, s5, h6, h⟩ := bd_ok h
  refine Z_callV 2 hk [.int x1, .int 1] (c_X8_goes hk.loc hk.inj F a0 x1 1 ha0 s2 h6) gX8_orbit_X8_goes rfl ⟨rfl, rfl⟩ (by decide +kernel) ⟨Nat.le_of_ble_eq_true rfl, Nat.le_of_ble_eq_true rfl⟩ ha0.cell.1 (ha0.cell.2 _) rfl rfl rfl (Nat.le_of_ble_eq_true rfl) ⟨Nat.zero_le _, Nat.zero_le _⟩ dX8_orbit_8 ?_
  show Z K 0 0 11 [(0, .ref (eA (kZ K) a0)), (1, .int a1), (2, .int a2)] [.int x4] s5
  refine Z_if_eq hk (tgt := 31) dX8_orbit_11 (by decide) (fun c7 => ?_) (fun c7 => ?_)
  · have h := if_yes h c7
    refine Z_sub [] rfl ?_
    exact w_X8_orbit_31 hk hq F s5 h
  · have h := if_no h c7
    refine Z_aload_n hk 0 dX8_orbit_14 rfl rfl ?_
    refine Z_iload_n hk 1 dX8_orbit_15 rfl rfl ?_
    obtain ⟨x8, s9, h10, h⟩ := bd_ok h
    refine Z_callV 1 hk [.int a1] (c_X8_turns hk.loc hk.inj F a0 a1 ha0 s5 h10) gX8_orbit_X8_turns rfl ⟨rfl, rfl⟩ (by decide +kernel) ⟨Nat.le_of_ble_eq_true rfl, Nat.le_of_ble_eq_true rfl⟩ ha0.cell.1 (ha0.cell.2 _) rfl rfl rfl (Nat.le_of_ble_eq_true rfl) ⟨Nat.zero_le _, Nat.zero_le _⟩ dX8_orbit_16 ?_
    show Z K 0 0 19 [(0, .ref (eA (kZ K) a0)), (1, .int a1), (2, .int a2)] [.int x8] s9
    refine Z_if_le hk (tgt := 31) dX8_orbit_19 (by decide) (fun c11 => ?_) (fun c11 => ?_)
    · have h := if_yes h c11
      refine Z_sub [] rfl ?_
      exact w_X8_orbit_31 hk hq F s9 h
    · have h := if_no h c11
      refine Z_aload_n hk 0 dX8_orbit_22 rfl rfl ?_
      refine Z_get hk in_X8_orbit_CanonCoteModel rfl ha0.cell.1 (ha0.cell.2 _) 8 (by decide) wd_X8_orbit_1 rfl dX8_orbit_23 ?_
      refine Z_iload_n hk 2 dX8_orbit_26 rfl rfl ?_
      obtain ⟨i14, x12, e13, h⟩ := ldI_get h
      refine Z_iald hk (ha0.orbits) i14 dX8_orbit_27 ?_
      refine Z_eqI e13 ?_
      refine Z_goto hk (tgt := 32) dX8_orbit_28 (by decide) ?_
      cases h
      exact Z_iret hk hq dX8_orbit_32
theorem c_X8_orbit {l : Launch} {E : zE} (hL : eL E) (hJ : eJ E) (F : Nat) (a0 : Nat) (a1 : Int32) (a2 : Int32) (ha0 : atCanonCoteModel E a0) (σ : zST) {r0 : Int32} {τ0 : zST} (h : m_X8_orbit F a0 a1 a2 σ = some (r0, τ0)) : Ct l yX8_orbit wsX8_orbit r_X8_orbit E [.ref (eA E a0), .int a1, .int a2] σ (some (.int r0)) τ0 := by
  refine Ct_of (by decide) rfl hL hJ (Nat.le_of_ble_eq_true rfl) (fun K hE hl hk hq => ?_)
  subst hE
  exact w_X8_orbit hk hq F a0 a1 a2 ha0 σ h
end

-- CanonCoteModel.isPermutation (J)Z
section
theorem dX8_isPermutation_0 : decode cX8_isPermutation 0 = .ok (.iconst 0, 1) := by decide +kernel
theorem dX8_isPermutation_1 : decode cX8_isPermutation 1 = .ok (.istore_n 2, 1) := by decide +kernel
theorem dX8_isPermutation_2 : decode cX8_isPermutation 2 = .ok (.iconst 0, 1) := by decide +kernel
theorem dX8_isPermutation_3 : decode cX8_isPermutation 3 = .ok (.istore_n 3, 1) := by decide +kernel
theorem dX8_isPermutation_4 : decode cX8_isPermutation 4 = .ok (.iload_n 3, 1) := by decide +kernel
theorem dX8_isPermutation_5 : decode cX8_isPermutation 5 = .ok (.bipush 8, 2) := by decide +kernel
theorem dX8_isPermutation_7 : decode cX8_isPermutation 7 = .ok (.if_icmp .ge 41, 3) := by decide +kernel
theorem dX8_isPermutation_10 : decode cX8_isPermutation 10 = .ok (.lload_n 0, 1) := by decide +kernel
theorem dX8_isPermutation_11 : decode cX8_isPermutation 11 = .ok (.iconst 4, 1) := by decide +kernel
theorem dX8_isPermutation_12 : decode cX8_isPermutation 12 = .ok (.iload_n 3, 1) := by decide +kernel
theorem dX8_isPermutation_13 : decode cX8_isPermutation 13 = .ok (.imul, 1) := by decide +kernel
theorem dX8_isPermutation_14 : decode cX8_isPermutation 14 = .ok (.lshr, 1) := by decide +kernel
theorem dX8_isPermutation_15 : decode cX8_isPermutation 15 = .ok (.ldc2_w 143, 3) := by decide +kernel
theorem dX8_isPermutation_18 : decode cX8_isPermutation 18 = .ok (.land, 1) := by decide +kernel
theorem dX8_isPermutation_19 : decode cX8_isPermutation 19 = .ok (.lstore 4, 2) := by decide +kernel
theorem dX8_isPermutation_21 : decode cX8_isPermutation 21 = .ok (.iload_n 2, 1) := by decide +kernel
theorem dX8_isPermutation_22 : decode cX8_isPermutation 22 = .ok (.lload 4, 2) := by decide +kernel
theorem dX8_isPermutation_24 : decode cX8_isPermutation 24 = .ok (.ldc2_w 145, 3) := by decide +kernel
theorem dX8_isPermutation_27 : decode cX8_isPermutation 27 = .ok (.lcmp, 1) := by decide +kernel
theorem dX8_isPermutation_28 : decode cX8_isPermutation 28 = .ok (.ifCond .ge 11, 3) := by decide +kernel
theorem dX8_isPermutation_31 : decode cX8_isPermutation 31 = .ok (.iconst 1, 1) := by decide +kernel
theorem dX8_isPermutation_32 : decode cX8_isPermutation 32 = .ok (.lload 4, 2) := by decide +kernel
theorem dX8_isPermutation_34 : decode cX8_isPermutation 34 = .ok (.l2i, 1) := by decide +kernel
theorem dX8_isPermutation_35 : decode cX8_isPermutation 35 = .ok (.ishl, 1) := by decide +kernel
theorem dX8_isPermutation_36 : decode cX8_isPermutation 36 = .ok (.goto 4, 3) := by decide +kernel
theorem dX8_isPermutation_39 : decode cX8_isPermutation 39 = .ok (.iconst 0, 1) := by decide +kernel
theorem dX8_isPermutation_40 : decode cX8_isPermutation 40 = .ok (.ior, 1) := by decide +kernel
theorem dX8_isPermutation_41 : decode cX8_isPermutation 41 = .ok (.istore_n 2, 1) := by decide +kernel
theorem dX8_isPermutation_42 : decode cX8_isPermutation 42 = .ok (.iinc 3 1, 3) := by decide +kernel
theorem dX8_isPermutation_45 : decode cX8_isPermutation 45 = .ok (.goto (-41), 3) := by decide +kernel
theorem dX8_isPermutation_48 : decode cX8_isPermutation 48 = .ok (.lload_n 0, 1) := by decide +kernel
theorem dX8_isPermutation_49 : decode cX8_isPermutation 49 = .ok (.lconst 0, 1) := by decide +kernel
theorem dX8_isPermutation_50 : decode cX8_isPermutation 50 = .ok (.lcmp, 1) := by decide +kernel
theorem dX8_isPermutation_51 : decode cX8_isPermutation 51 = .ok (.ifCond .lt 22, 3) := by decide +kernel
theorem dX8_isPermutation_54 : decode cX8_isPermutation 54 = .ok (.lload_n 0, 1) := by decide +kernel
theorem dX8_isPermutation_55 : decode cX8_isPermutation 55 = .ok (.ldc2_w 147, 3) := by decide +kernel
theorem dX8_isPermutation_58 : decode cX8_isPermutation 58 = .ok (.lcmp, 1) := by decide +kernel
theorem dX8_isPermutation_59 : decode cX8_isPermutation 59 = .ok (.ifCond .ge 14, 3) := by decide +kernel
theorem dX8_isPermutation_62 : decode cX8_isPermutation 62 = .ok (.iload_n 2, 1) := by decide +kernel
theorem dX8_isPermutation_63 : decode cX8_isPermutation 63 = .ok (.sipush 255, 3) := by decide +kernel
theorem dX8_isPermutation_66 : decode cX8_isPermutation 66 = .ok (.if_icmp .ne 7, 3) := by decide +kernel
theorem dX8_isPermutation_69 : decode cX8_isPermutation 69 = .ok (.iconst 1, 1) := by decide +kernel
theorem dX8_isPermutation_70 : decode cX8_isPermutation 70 = .ok (.goto 4, 3) := by decide +kernel
theorem dX8_isPermutation_73 : decode cX8_isPermutation 73 = .ok (.iconst 0, 1) := by decide +kernel
theorem dX8_isPermutation_74 : decode cX8_isPermutation 74 = .ok (.ireturn, 1) := by decide +kernel
theorem wd_X8_isPermutation_0 : Cond.constantLong RX8 147 4294967296 ∈ wsX8_isPermutation := by decide +kernel
theorem wd_X8_isPermutation_1 : Cond.constantLong RX8 143 15 ∈ wsX8_isPermutation := by decide +kernel
theorem wd_X8_isPermutation_2 : Cond.constantLong RX8 145 8 ∈ wsX8_isPermutation := by decide +kernel
def r_X8_isPermutation : Room := { frames := 1, cells := 0, slots := 0, locals := 12 }
set_option maxRecDepth 100000 in
set_option maxHeartbeats 4000000 in
theorem w_X8_isPermutation_40 {K : zK} (hk : zIs K RX8 cX8_isPermutation 6 wsX8_isPermutation (some .boolean) r_X8_isPermutation) {r0 : Int32} {τ0 : zST} (hq : zQ K (some (.int r0)) τ0) (F : Nat) (k4 : Int64 → Int32 → Int32 → zST → Option (Int32 × zST)) (hk4 : ∀ (a0 : Int64) (a2 : Int32) (a3 : Int32) (σ : zST), k4 a0 a2 a3 σ = some (r0, τ0) → Z K 0 0 4 [(0, .long a0), (2, .int a2), (3, .int a3)] [] σ) (a0 : Int64) (a3 : Int32) (t0 : Int32) (t1 : Int32) (σ : zST) (h : m_X8_isPermutation_40 F k4 a0 a3 t0 t1 σ = some (r0, τ0)) : Z K 0 0 40 [(0, .long a0), (3, .int a3)] [.int t0, .int t1] σ := by
  unfold m_X8_isPermutation_40 at h
  refine Z_ior hk dX8_isPermutation_40 ?_
  obtain ⟨x8, e9, h⟩ := nm_get h
  refine Z_eqI e9 ?_
  refine Z_istore_n hk (lv' := [(2, .int x8), (0, .long a0), (3, .int a3)]) dX8_isPermutation_41 rfl (by decide) rfl ?_
  obtain ⟨x10, e11, h⟩ := nm_get h
  refine Z_iinc hk 2 (v := x10) (lv' := [(3, .int x10), (2, .int x8), (0, .long a0)]) dX8_isPermutation_42 rfl (by rw [zc_iinc_1]; exact e11) (by decide) rfl ?_
  refine Z_goto hk (tgt := 4) dX8_isPermutation_45 (by decide) ?_
  refine Z_sub [2, 1, 0] rfl ?_
  exact hk4 a0 x8 x10 σ h
set_option maxRecDepth 100000 in
set_option maxHeartbeats 4000000 in
theorem w_X8_isPermutation_73 {K : zK} (hk : zIs K RX8 cX8_isPermutation 6 wsX8_isPermutation (some .boolean) r_X8_isPermutation) {r0 : Int32} {τ0 : zST} (hq : zQ K (some (.int r0)) τ0) (F : Nat)  (σ : zST) (h : m_X8_isPermutation_73 F σ = some (r0, τ0)) : Z K 0 0 73 [] [] σ := by
  unfold m_X8_isPermutation_73 at h
  refine Z_iconst hk dX8_isPermutation_73 zc_iconst_0 ?_
  cases h
  exact Z_zret hk (by decide) hq dX8_isPermutation_74
set_option maxRecDepth 100000 in
set_option maxHeartbeats 4000000 in
theorem w_X8_isPermutation_4 {K : zK} (hk : zIs K RX8 cX8_isPermutation 6 wsX8_isPermutation (some .boolean) r_X8_isPermutation) {r0 : Int32} {τ0 : zST} (hq : zQ K (some (.int r0)) τ0) (F : Nat) : ∀ (n : Nat) (a0 : Int64) (a2 : Int32) (a3 : Int32) (σ : zST), m_X8_isPermutation_4 F n a0 a2 a3 σ = some (r0, τ0) → Z K 0 0 4 [(0, .long a0), (2, .int a2), (3, .int a3)] [] σ := by
  intro n
  induction n with
  | zero => intro a0 a2 a3 σ h; cases h
  | succ n ih =>
    intro a0 a2 a3 σ h
    rw [m_X8_isPermutation_4] at h
    refine Z_iload_n hk 2 dX8_isPermutation_4 rfl rfl ?_
    refine Z_bipush hk dX8_isPermutation_5 zc_bipush_8 ?_
    refine Z_icmp_ge hk (tgt := 48) dX8_isPermutation_7 (by decide) (fun c1 => ?_) (fun c1 => ?_)
    · have h := if_yes h c1
      refine Z_lload_n hk 0 dX8_isPermutation_48 rfl rfl ?_
      refine Z_lconst hk dX8_isPermutation_49 (v := 0) rfl ?_
      refine Z_lcmp hk dX8_isPermutation_50 ?_
      refine Z_if_lt hk (tgt := 73) dX8_isPermutation_51 (by decide) (fun c2 => ?_) (fun c2 => ?_)
      · have h := if_yes h c2
        refine Z_sub [] rfl ?_
        exact w_X8_isPermutation_73 hk hq F σ h
      · have h := if_no h c2
        refine Z_lload_n hk 0 dX8_isPermutation_54 rfl rfl ?_
        refine Z_ldc2 hk (v := 4294967296) dX8_isPermutation_55 wd_X8_isPermutation_0 ?_
        refine Z_lcmp hk dX8_isPermutation_58 ?_
        refine Z_if_ge hk (tgt := 73) dX8_isPermutation_59 (by decide) (fun c3 => ?_) (fun c3 => ?_)
        · have h := if_yes h c3
          refine Z_sub [] rfl ?_
          exact w_X8_isPermutation_73 hk hq F σ h
        · have h := if_no h c3
          refine Z_iload_n hk 1 dX8_isPermutation_62 rfl rfl ?_
          refine Z_sipush hk dX8_isPermutation_63 zc_sipush_255 ?_
          refine Z_icmp_ne hk (tgt := 73) dX8_isPermutation_66 (by decide) (fun c4 => ?_) (fun c4 => ?_)
          · have h := if_yes h c4
            refine Z_iconst hk dX8_isPermutation_69 zc_iconst_1 ?_
            refine Z_goto hk (tgt := 74) dX8_isPermutation_70 (by decide) ?_
            cases h
            exact Z_zret hk (by decide) hq dX8_isPermutation_74
          · have h := if_no h c4
            refine Z_sub [] rfl ?_
            exact w_X8_isPermutation_73 hk hq F σ h
    · have h := if_no h c1
      refine Z_lload_n hk 0 dX8_isPermutation_10 rfl rfl ?_
      refine Z_iconst hk dX8_isPermutation_11 zc_iconst_4 ?_
      refine Z_iload_n hk 2 dX8_isPermutation_12 rfl rfl ?_
      refine Z_imul hk dX8_isPermutation_13 ?_
      refine Z_lshr hk dX8_isPermutation_14 ?_
      refine Z_ldc2 hk (v := 15) dX8_isPermutation_15 wd_X8_isPermutation_1 ?_
      refine Z_land hk dX8_isPermutation_18 ?_
      obtain ⟨x5, e6, h⟩ := nm_get h
      refine Z_eqL e6 ?_
      refine Z_lstore hk (lv' := [(4, .long x5), (0, .long a0), (2, .int a2), (3, .int a3)]) dX8_isPermutation_19 (by decide) rfl ?_
      refine Z_iload_n hk 2 dX8_isPermutation_21 rfl rfl ?_
      refine Z_lload hk 0 dX8_isPermutation_22 rfl ?_
      refine Z_ldc2 hk (v := 8) dX8_isPermutation_24 wd_X8_isPermutation_2 ?_
      refine Z_lcmp hk dX8_isPermutation_27 ?_
      refine Z_if_ge hk (tgt := 39) dX8_isPermutation_28 (by decide) (fun c7 => ?_) (fun c7 => ?_)
      · have h := if_yes h c7
        refine Z_iconst hk dX8_isPermutation_39 zc_iconst_0 ?_
        refine Z_sub [1, 3] rfl ?_
        exact w_X8_isPermutation_40 hk hq F (m_X8_isPermutation_4 F n) ih a0 a3 0 a2 σ h
      · have h := if_no h c7
        refine Z_iconst hk dX8_isPermutation_31 zc_iconst_1 ?_
        refine Z_lload hk 0 dX8_isPermutation_32 rfl ?_
        refine Z_l2i hk dX8_isPermutation_34 ?_
        refine Z_ishl hk dX8_isPermutation_35 ?_
        refine Z_goto hk (tgt := 40) dX8_isPermutation_36 (by decide) ?_
        refine Z_sub [1, 3] rfl ?_
        exact w_X8_isPermutation_40 hk hq F (m_X8_isPermutation_4 F n) ih a0 a3 (jshl 1 (x5.toInt32)) a2 σ h
set_option maxRecDepth 100000 in
set_option maxHeartbeats 4000000 in
theorem w_X8_isPermutation {K : zK} (hk : zIs K RX8 cX8_isPermutation 6 wsX8_isPermutation (some .boolean) r_X8_isPermutation) {r0 : Int32} {τ0 : zST} (hq : zQ K (some (.int r0)) τ0) (F : Nat) (a0 : Int64) (σ : zST) (h : m_X8_isPermutation F a0 σ = some (r0, τ0)) : Z K 0 0 0 [(0, .long a0)] [] σ := by
  unfold m_X8_isPermutation at h
  refine Z_iconst hk dX8_isPermutation_0 zc_iconst_0 ?_
  refine Z_istore_n hk (lv' := [(2, .int 0), (0, .long a0)]) dX8_isPermutation_1 rfl (by decide) rfl ?_
  refine Z_iconst hk dX8_isPermutation_2 zc_iconst_0 ?_
  refine Z_istore_n hk (lv' := [(3, .int 0), (2, .int 0), (0, .long a0)]) dX8_isPermutation_3 rfl (by decide) rfl ?_
  refine Z_sub [2, 1, 0] rfl ?_
  exact w_X8_isPermutation_4 hk hq F F a0 0 0 σ h
theorem c_X8_isPermutation {l : Launch} {E : zE} (hL : eL E) (hJ : eJ E) (F : Nat) (a0 : Int64) (σ : zST) {r0 : Int32} {τ0 : zST} (h : m_X8_isPermutation F a0 σ = some (r0, τ0)) : Ct l yX8_isPermutation wsX8_isPermutation r_X8_isPermutation E [.long a0] σ (some (.int r0)) τ0 := by
  refine Ct_of (by decide) rfl hL hJ (Nat.le_of_ble_eq_true rfl) (fun K hE hl hk hq => ?_)
  subst hE
  exact w_X8_isPermutation hk hq F a0 σ h
end

-- CanonCoteModel.images (J)V
section
theorem dX8_images_0 : decode cX8_images 0 = .ok (.iconst 0, 1) := by decide +kernel
theorem dX8_images_1 : decode cX8_images 1 = .ok (.istore_n 3, 1) := by decide +kernel
theorem dX8_images_2 : decode cX8_images 2 = .ok (.iload_n 3, 1) := by decide +kernel
theorem dX8_images_3 : decode cX8_images 3 = .ok (.bipush 8, 2) := by decide +kernel
theorem dX8_images_5 : decode cX8_images 5 = .ok (.if_icmp .ge 25, 3) := by decide +kernel
theorem dX8_images_8 : decode cX8_images 8 = .ok (.aload_n 0, 1) := by decide +kernel
theorem dX8_images_9 : decode cX8_images 9 = .ok (.getfield 48, 3) := by decide +kernel
theorem dX8_images_12 : decode cX8_images 12 = .ok (.iload_n 3, 1) := by decide +kernel
theorem dX8_images_13 : decode cX8_images 13 = .ok (.lload_n 1, 1) := by decide +kernel
theorem dX8_images_14 : decode cX8_images 14 = .ok (.iconst 4, 1) := by decide +kernel
theorem dX8_images_15 : decode cX8_images 15 = .ok (.iload_n 3, 1) := by decide +kernel
theorem dX8_images_16 : decode cX8_images 16 = .ok (.imul, 1) := by decide +kernel
theorem dX8_images_17 : decode cX8_images 17 = .ok (.lshr, 1) := by decide +kernel
theorem dX8_images_18 : decode cX8_images 18 = .ok (.ldc2_w 143, 3) := by decide +kernel
theorem dX8_images_21 : decode cX8_images 21 = .ok (.land, 1) := by decide +kernel
theorem dX8_images_22 : decode cX8_images 22 = .ok (.l2i, 1) := by decide +kernel
theorem dX8_images_23 : decode cX8_images 23 = .ok (.iastore, 1) := by decide +kernel
theorem dX8_images_24 : decode cX8_images 24 = .ok (.iinc 3 1, 3) := by decide +kernel
theorem dX8_images_27 : decode cX8_images 27 = .ok (.goto (-25), 3) := by decide +kernel
theorem dX8_images_30 : decode cX8_images 30 = .ok (.return_, 1) := by decide +kernel
theorem in_X8_images_CanonCoteModel : ∀ w ∈ u_ws RX8 TX8 17, w ∈ wsX8_images := by decide +kernel
theorem wd_X8_images_1 : Cond.fieldLink RX8 48 (TX8 15).1 (TX8 15).2.1 (TX8 15).2.2.1 ∈ wsX8_images := by decide +kernel
theorem wd_X8_images_2 : Cond.constantLong RX8 143 15 ∈ wsX8_images := by decide +kernel
def r_X8_images : Room := { frames := 1, cells := 0, slots := 0, locals := 12 }
set_option maxRecDepth 100000 in
set_option maxHeartbeats 4000000 in
theorem w_X8_images_2 {K : zK} (hk : zIs K RX8 cX8_images 4 wsX8_images none r_X8_images) {τ0 : zST} (hq : zQ K none τ0) (F : Nat) : ∀ (n : Nat) (a0 : Nat) (a1 : Int64) (a3 : Int32) (ha0 : atCanonCoteModel (kZ K) a0) (σ : zST), m_X8_images_2 F n a0 a1 a3 σ = some τ0 → Z K 0 0 2 [(0, .ref (eA (kZ K) a0)), (1, .long a1), (3, .int a3)] [] σ := by
  intro n
  induction n with
  | zero => intro a0 a1 a3 ha0 σ h; cases h
  | succ n ih =>
    intro a0 a1 a3 ha0 σ h
    rw [m_X8_images_2] at h
    refine Z_iload_n hk 2 dX8_images_2 rfl rfl ?_
    refine Z_bipush hk dX8_images_3 zc_bipush_8 ?_
    refine Z_icmp_ge hk (tgt := 30) dX8_images_5 (by decide) (fun c1 => ?_) (fun c1 => ?_)
    · have h := if_yes h c1
      cases h
      exact Z_vret hk hq dX8_images_30
    · have h := if_no h c1
      refine Z_aload_n hk 0 dX8_images_8 rfl rfl ?_
      refine Z_get hk in_X8_images_CanonCoteModel rfl ha0.cell.1 (ha0.cell.2 _) 15 (by decide) wd_X8_images_1 rfl dX8_images_9 ?_
      refine Z_iload_n hk 2 dX8_images_12 rfl rfl ?_
      refine Z_lload_n hk 1 dX8_images_13 rfl rfl ?_
      refine Z_iconst hk dX8_images_14 zc_iconst_4 ?_
      refine Z_iload_n hk 2 dX8_images_15 rfl rfl ?_
      refine Z_imul hk dX8_images_16 ?_
      refine Z_lshr hk dX8_images_17 ?_
      refine Z_ldc2 hk (v := 15) dX8_images_18 wd_X8_images_2 ?_
      refine Z_land hk dX8_images_21 ?_
      refine Z_l2i hk dX8_images_22 ?_
      obtain ⟨i4, s2, e3, h⟩ := stI_get h
      refine Z_iast hk (ha0.images) i4 dX8_images_23 ?_
      refine Z_eqS e3 ?_
      obtain ⟨x5, e6, h⟩ := nm_get h
      refine Z_iinc hk 2 (v := x5) (lv' := [(3, .int x5), (0, .ref (eA (kZ K) a0)), (1, .long a1)]) dX8_images_24 rfl (by rw [zc_iinc_1]; exact e6) (by decide) rfl ?_
      refine Z_goto hk (tgt := 2) dX8_images_27 (by decide) ?_
      refine Z_sub [1, 2, 0] rfl ?_
      exact ih a0 a1 x5 ha0 s2 h
set_option maxRecDepth 100000 in
set_option maxHeartbeats 4000000 in
theorem w_X8_images {K : zK} (hk : zIs K RX8 cX8_images 4 wsX8_images none r_X8_images) {τ0 : zST} (hq : zQ K none τ0) (F : Nat) (a0 : Nat) (a1 : Int64) (ha0 : atCanonCoteModel (kZ K) a0) (σ : zST) (h : m_X8_images F a0 a1 σ = some τ0) : Z K 0 0 0 [(0, .ref (eA (kZ K) a0)), (1, .long a1)] [] σ := by
  unfold m_X8_images at h
  refine Z_iconst hk dX8_images_0 zc_iconst_0 ?_
  refine Z_istore_n hk (lv' := [(3, .int 0), (0, .ref (eA (kZ K) a0)), (1, .long a1)]) dX8_images_1 rfl (by decide) rfl ?_
  refine Z_sub [1, 2, 0] rfl ?_
  exact w_X8_images_2 hk hq F F a0 a1 0 ha0 σ h
theorem c_X8_images {l : Launch} {E : zE} (hL : eL E) (hJ : eJ E) (F : Nat) (a0 : Nat) (a1 : Int64) (ha0 : atCanonCoteModel E a0) (σ : zST) {τ0 : zST} (h : m_X8_images F a0 a1 σ = some τ0) : Ct l yX8_images wsX8_images r_X8_images E [.ref (eA E a0), .long a1] σ none τ0 := by
  refine Ct_of (by decide) rfl hL hJ (Nat.le_of_ble_eq_true rfl) (fun K hE hl hk hq => ?_)
  subst hE
  exact w_X8_images hk hq F a0 a1 ha0 σ h
end

-- CanonCoteModel.addGenerator (J)I
section
theorem dX8_addGenerator_0 : decode cX8_addGenerator 0 = .ok (.aload_n 0, 1) := by decide +kernel
theorem dX8_addGenerator_1 : decode cX8_addGenerator 1 = .ok (.lload_n 1, 1) := by decide +kernel
theorem dX8_addGenerator_2 : decode cX8_addGenerator 2 = .ok (.invokestatic 162, 3) := by decide +kernel
theorem dX8_addGenerator_5 : decode cX8_addGenerator 5 = .ok (.ifCond .ne 7, 3) := by decide +kernel
theorem dX8_addGenerator_8 : decode cX8_addGenerator 8 = .ok (.iconst 1, 1) := by decide +kernel
theorem dX8_addGenerator_9 : decode cX8_addGenerator 9 = .ok (.goto 17, 3) := by decide +kernel
theorem dX8_addGenerator_12 : decode cX8_addGenerator 12 = .ok (.aload_n 0, 1) := by decide +kernel
theorem dX8_addGenerator_13 : decode cX8_addGenerator 13 = .ok (.getfield 159, 3) := by decide +kernel
theorem dX8_addGenerator_16 : decode cX8_addGenerator 16 = .ok (.bipush 6, 2) := by decide +kernel
theorem dX8_addGenerator_18 : decode cX8_addGenerator 18 = .ok (.if_icmp .ne 7, 3) := by decide +kernel
theorem dX8_addGenerator_21 : decode cX8_addGenerator 21 = .ok (.iconst 2, 1) := by decide +kernel
theorem dX8_addGenerator_22 : decode cX8_addGenerator 22 = .ok (.goto 4, 3) := by decide +kernel
theorem dX8_addGenerator_25 : decode cX8_addGenerator 25 = .ok (.iconst 0, 1) := by decide +kernel
theorem dX8_addGenerator_26 : decode cX8_addGenerator 26 = .ok (.putfield 54, 3) := by decide +kernel
theorem dX8_addGenerator_29 : decode cX8_addGenerator 29 = .ok (.aload_n 0, 1) := by decide +kernel
theorem dX8_addGenerator_30 : decode cX8_addGenerator 30 = .ok (.getfield 54, 3) := by decide +kernel
theorem dX8_addGenerator_33 : decode cX8_addGenerator 33 = .ok (.ifCond .le 5, 3) := by decide +kernel
theorem dX8_addGenerator_36 : decode cX8_addGenerator 36 = .ok (.iconst 0, 1) := by decide +kernel
theorem dX8_addGenerator_37 : decode cX8_addGenerator 37 = .ok (.ireturn, 1) := by decide +kernel
theorem dX8_addGenerator_38 : decode cX8_addGenerator 38 = .ok (.aload_n 0, 1) := by decide +kernel
theorem dX8_addGenerator_39 : decode cX8_addGenerator 39 = .ok (.lload_n 1, 1) := by decide +kernel
theorem dX8_addGenerator_40 : decode cX8_addGenerator 40 = .ok (.invokevirtual 166, 3) := by decide +kernel
theorem dX8_addGenerator_43 : decode cX8_addGenerator 43 = .ok (.iconst 0, 1) := by decide +kernel
theorem dX8_addGenerator_44 : decode cX8_addGenerator 44 = .ok (.istore_n 3, 1) := by decide +kernel
theorem dX8_addGenerator_45 : decode cX8_addGenerator 45 = .ok (.iload_n 3, 1) := by decide +kernel
theorem dX8_addGenerator_46 : decode cX8_addGenerator 46 = .ok (.bipush 8, 2) := by decide +kernel
theorem dX8_addGenerator_48 : decode cX8_addGenerator 48 = .ok (.if_icmp .ge 29, 3) := by decide +kernel
theorem dX8_addGenerator_51 : decode cX8_addGenerator 51 = .ok (.aload_n 0, 1) := by decide +kernel
theorem dX8_addGenerator_52 : decode cX8_addGenerator 52 = .ok (.getfield 37, 3) := by decide +kernel
theorem dX8_addGenerator_55 : decode cX8_addGenerator 55 = .ok (.bipush 8, 2) := by decide +kernel
theorem dX8_addGenerator_57 : decode cX8_addGenerator 57 = .ok (.aload_n 0, 1) := by decide +kernel
theorem dX8_addGenerator_58 : decode cX8_addGenerator 58 = .ok (.getfield 159, 3) := by decide +kernel
theorem dX8_addGenerator_61 : decode cX8_addGenerator 61 = .ok (.imul, 1) := by decide +kernel
theorem dX8_addGenerator_62 : decode cX8_addGenerator 62 = .ok (.iload_n 3, 1) := by decide +kernel
theorem dX8_addGenerator_63 : decode cX8_addGenerator 63 = .ok (.iadd, 1) := by decide +kernel
theorem dX8_addGenerator_64 : decode cX8_addGenerator 64 = .ok (.aload_n 0, 1) := by decide +kernel
theorem dX8_addGenerator_65 : decode cX8_addGenerator 65 = .ok (.getfield 48, 3) := by decide +kernel
theorem dX8_addGenerator_68 : decode cX8_addGenerator 68 = .ok (.iload_n 3, 1) := by decide +kernel
theorem dX8_addGenerator_69 : decode cX8_addGenerator 69 = .ok (.iaload, 1) := by decide +kernel
theorem dX8_addGenerator_70 : decode cX8_addGenerator 70 = .ok (.iastore, 1) := by decide +kernel
theorem dX8_addGenerator_71 : decode cX8_addGenerator 71 = .ok (.iinc 3 1, 3) := by decide +kernel
theorem dX8_addGenerator_74 : decode cX8_addGenerator 74 = .ok (.goto (-29), 3) := by decide +kernel
theorem dX8_addGenerator_77 : decode cX8_addGenerator 77 = .ok (.aload_n 0, 1) := by decide +kernel
theorem dX8_addGenerator_78 : decode cX8_addGenerator 78 = .ok (.dup, 1) := by decide +kernel
theorem dX8_addGenerator_79 : decode cX8_addGenerator 79 = .ok (.getfield 159, 3) := by decide +kernel
theorem dX8_addGenerator_82 : decode cX8_addGenerator 82 = .ok (.iconst 1, 1) := by decide +kernel
theorem dX8_addGenerator_83 : decode cX8_addGenerator 83 = .ok (.iadd, 1) := by decide +kernel
theorem dX8_addGenerator_84 : decode cX8_addGenerator 84 = .ok (.putfield 159, 3) := by decide +kernel
theorem dX8_addGenerator_87 : decode cX8_addGenerator 87 = .ok (.aload_n 0, 1) := by decide +kernel
theorem dX8_addGenerator_88 : decode cX8_addGenerator 88 = .ok (.invokevirtual 51, 3) := by decide +kernel
theorem dX8_addGenerator_91 : decode cX8_addGenerator 91 = .ok (.aload_n 0, 1) := by decide +kernel
theorem dX8_addGenerator_92 : decode cX8_addGenerator 92 = .ok (.getfield 153, 3) := by decide +kernel
theorem dX8_addGenerator_95 : decode cX8_addGenerator 95 = .ok (.ireturn, 1) := by decide +kernel
set_option maxRecDepth 20000 in
theorem ggX8_addGenerator_X8_isPermutation : GoodIn wsX8_addGenerator wsX8_isPermutation := goodIn_r _ [9, 10, 11, 12] (by decide +kernel) (by decide +kernel)
set_option maxRecDepth 20000 in
theorem gX8_addGenerator_X8_isPermutation : GoodIn wsX8_addGenerator (va_wsS RX8 162 yX8_isPermutation wsX8_isPermutation) := goodIn_app (goodIn_of _ (by decide +kernel)) ggX8_addGenerator_X8_isPermutation
set_option maxRecDepth 20000 in
theorem ggX8_addGenerator_X8_images : GoodIn wsX8_addGenerator wsX8_images := goodIn_r _ [16, 4, 10, 32, 33, 34, 35, 36, 37, 38, 39, 40, 41, 42, 43, 44, 45, 46, 47, 48] (by decide +kernel) (by decide +kernel)
set_option maxRecDepth 20000 in
theorem gX8_addGenerator_X8_images : GoodIn wsX8_addGenerator (wsV RX8 166 RX8 yX8_images wsX8_images) := goodIn_app (goodIn_of _ (by decide +kernel)) ggX8_addGenerator_X8_images
set_option maxRecDepth 20000 in
theorem ggX8_addGenerator_X8_closes : GoodIn wsX8_addGenerator wsX8_closes := goodIn_r _ [20, 21, 22, 5, 4, 1, 3, 23, 24, 25, 26, 8, 27, 28, 29, 30, 31, 32, 33, 34, 35, 36, 37, 38, 39, 40, 41, 42, 43, 44, 45, 46, 47, 48] (by decide +kernel) (by decide +kernel)
set_option maxRecDepth 20000 in
theorem gX8_addGenerator_X8_closes : GoodIn wsX8_addGenerator (wsV RX8 51 RX8 yX8_closes wsX8_closes) := goodIn_app (goodIn_of _ (by decide +kernel)) ggX8_addGenerator_X8_closes
theorem in_X8_addGenerator_CanonCoteModel : ∀ w ∈ u_ws RX8 TX8 17, w ∈ wsX8_addGenerator := by decide +kernel
theorem wd_X8_addGenerator_1 : Cond.fieldLink RX8 159 (TX8 11).1 (TX8 11).2.1 (TX8 11).2.2.1 ∈ wsX8_addGenerator := by decide +kernel
theorem wd_X8_addGenerator_2 : Cond.fieldLink RX8 54 (TX8 16).1 (TX8 16).2.1 (TX8 16).2.2.1 ∈ wsX8_addGenerator := by decide +kernel
theorem wd_X8_addGenerator_3 : Cond.fieldLink RX8 153 (TX8 14).1 (TX8 14).2.1 (TX8 14).2.2.1 ∈ wsX8_addGenerator := by decide +kernel
theorem wd_X8_addGenerator_4 : Cond.fieldLink RX8 37 (TX8 10).1 (TX8 10).2.1 (TX8 10).2.2.1 ∈ wsX8_addGenerator := by decide +kernel
theorem wd_X8_addGenerator_5 : Cond.fieldLink RX8 48 (TX8 15).1 (TX8 15).2.1 (TX8 15).2.2.1 ∈ wsX8_addGenerator := by decide +kernel
def r_X8_addGenerator : Room := { frames := 4, cells := 0, slots := 0, locals := 82 }
set_option maxRecDepth 100000 in
set_option maxHeartbeats 4000000 in
theorem w_X8_addGenerator_45 {K : zK} (hk : zIs K RX8 cX8_addGenerator 4 wsX8_addGenerator (some .int) r_X8_addGenerator) {r0 : Int32} {τ0 : zST} (hq : zQ K (some (.int r0)) τ0) (F : Nat) : ∀ (n : Nat) (a0 : Nat) (a3 : Int32) (ha0 : atCanonCoteModel (kZ K) a0) (σ : zST), m_X8_addGenerator_45 F n a0 a3 σ = some (r0, τ0) → Z K 0 0 45 [(0, .ref (eA (kZ K) a0)), (3, .int a3)] [] σ := by
  intro n
  induction n with
  | zero => intro a0 a3 ha0 σ h; cases h
  | succ n ih =>
    intro a0 a3 ha0 σ h
    rw [m_X8_addGenerator_45] at h
    refine Z_iload_n hk 1 dX8_addGenerator_45 rfl rfl ?_
    refine Z_bipush hk dX8_addGenerator_46 zc_bipush_8 ?_
    refine Z_icmp_ge hk (tgt := 77) dX8_addGenerator_48 (by decide) (fun c12 => ?_) (fun c12 => ?_)
    · have h := if_yes h c12
      refine Z_aload_n hk 0 dX8_addGenerator_77 rfl rfl ?_
      refine Z_dup hk dX8_addGenerator_78 rfl ?_
      refine Z_get hk in_X8_addGenerator_CanonCoteModel rfl ha0.cell.1 (ha0.cell.2 _) 11 (by decide) wd_X8_addGenerator_1 rfl dX8_addGenerator_79 ?_
      refine Z_iconst hk dX8_addGenerator_82 zc_iconst_1 ?_
      refine Z_iadd hk dX8_addGenerator_83 ?_
      obtain ⟨s13, e14, h⟩ := nm_get h
      refine Z_put hk in_X8_addGenerator_CanonCoteModel tyX8 tok_TX8 tnm_TX8 rfl ha0.cell.1 (ha0.cell.2 _) 11 (by decide) wd_X8_addGenerator_1 rfl (by decide) (Nat.le_of_ble_eq_true rfl) (ha0.put_generated _ _) dX8_addGenerator_84 ?_
      refine Z_eqS e14 ?_
      refine Z_aload_n hk 0 dX8_addGenerator_87 rfl rfl ?_
      obtain ⟨s16, h17, h⟩ := bv_ok h
      refine Z_callV 0 hk [] (c_X8_closes hk.loc hk.inj F a0 ha0 s13 h17) gX8_addGenerator_X8_closes rfl ⟨rfl, rfl⟩ (by decide +kernel) ⟨Nat.le_of_ble_eq_true rfl, Nat.le_of_ble_eq_true rfl⟩ ha0.cell.1 (ha0.cell.2 _) rfl rfl rfl (Nat.le_of_ble_eq_true rfl) ⟨Nat.zero_le _, Nat.zero_le _⟩ dX8_addGenerator_88 ?_
      show Z K 0 0 91 [(0, .ref (eA (kZ K) a0)), (3, .int a3)] [] s16
      refine Z_aload_n hk 0 dX8_addGenerator_91 rfl rfl ?_
      refine Z_get hk in_X8_addGenerator_CanonCoteModel rfl ha0.cell.1 (ha0.cell.2 _) 14 (by decide) wd_X8_addGenerator_3 rfl dX8_addGenerator_92 ?_
      cases h
      exact Z_iret hk hq dX8_addGenerator_95
    · have h := if_no h c12
      refine Z_aload_n hk 0 dX8_addGenerator_51 rfl rfl ?_
      refine Z_get hk in_X8_addGenerator_CanonCoteModel rfl ha0.cell.1 (ha0.cell.2 _) 10 (by decide) wd_X8_addGenerator_4 rfl dX8_addGenerator_52 ?_
      refine Z_bipush hk dX8_addGenerator_55 zc_bipush_8 ?_
      refine Z_aload_n hk 0 dX8_addGenerator_57 rfl rfl ?_
      refine Z_get hk in_X8_addGenerator_CanonCoteModel rfl ha0.cell.1 (ha0.cell.2 _) 11 (by decide) wd_X8_addGenerator_1 rfl dX8_addGenerator_58 ?_
      refine Z_imul hk dX8_addGenerator_61 ?_
      refine Z_iload_n hk 1 dX8_addGenerator_62 rfl rfl ?_
      refine Z_iadd hk dX8_addGenerator_63 ?_
      refine Z_aload_n hk 0 dX8_addGenerator_64 rfl rfl ?_
      refine Z_get hk in_X8_addGenerator_CanonCoteModel rfl ha0.cell.1 (ha0.cell.2 _) 15 (by decide) wd_X8_addGenerator_5 rfl dX8_addGenerator_65 ?_
      refine Z_iload_n hk 1 dX8_addGenerator_68 rfl rfl ?_
      obtain ⟨i20, x18, e19, h⟩ := ldI_get h
      refine Z_iald hk (ha0.images) i20 dX8_addGenerator_69 ?_
      refine Z_eqI e19 ?_
      obtain ⟨i23, s21, e22, h⟩ := stI_get h
      refine Z_iast hk (ha0.generators) i23 dX8_addGenerator_70 ?_
      refine Z_eqS e22 ?_
      obtain ⟨x24, e25, h⟩ := nm_get h
      refine Z_iinc hk 1 (v := x24) (lv' := [(3, .int x24), (0, .ref (eA (kZ K) a0))]) dX8_addGenerator_71 rfl (by rw [zc_iinc_1]; exact e25) (by decide) rfl ?_
      refine Z_goto hk (tgt := 45) dX8_addGenerator_74 (by decide) ?_
      refine Z_sub [1, 0] rfl ?_
      exact ih a0 x24 ha0 s21 h
set_option maxRecDepth 100000 in
set_option maxHeartbeats 4000000 in
theorem w_X8_addGenerator_26 {K : zK} (hk : zIs K RX8 cX8_addGenerator 4 wsX8_addGenerator (some .int) r_X8_addGenerator) {r0 : Int32} {τ0 : zST} (hq : zQ K (some (.int r0)) τ0) (F : Nat) (a0 : Nat) (a1 : Int64) (t0 : Int32) (t1 : Nat) (ha0 : atCanonCoteModel (kZ K) a0) (ht1 : atCanonCoteModel (kZ K) t1) (σ : zST) (h : m_X8_addGenerator_26 F a0 a1 t0 t1 σ = some (r0, τ0)) : Z K 0 0 26 [(0, .ref (eA (kZ K) a0)), (1, .long a1)] [.int t0, .ref (eA (kZ K) t1)] σ := by
  unfold m_X8_addGenerator_26 at h
  obtain ⟨s6, e7, h⟩ := nm_get h
  refine Z_put hk in_X8_addGenerator_CanonCoteModel tyX8 tok_TX8 tnm_TX8 rfl ht1.cell.1 (ht1.cell.2 _) 16 (by decide) wd_X8_addGenerator_2 rfl (by decide) (Nat.le_of_ble_eq_true rfl) (ht1.put_last _ _) dX8_addGenerator_26 ?_
  refine Z_eqS e7 ?_
  refine Z_aload_n hk 0 dX8_addGenerator_29 rfl rfl ?_
  refine Z_get hk in_X8_addGenerator_CanonCoteModel rfl ha0.cell.1 (ha0.cell.2 _) 16 (by decide) wd_X8_addGenerator_2 rfl dX8_addGenerator_30 ?_
  refine Z_if_le hk (tgt := 38) dX8_addGenerator_33 (by decide) (fun c8 => ?_) (fun c8 => ?_)
  · have h := if_yes h c8
    refine Z_aload_n hk 0 dX8_addGenerator_38 rfl rfl ?_
    refine Z_lload_n hk 1 dX8_addGenerator_39 rfl rfl ?_
    obtain ⟨s10, h11, h⟩ := bv_ok h
    refine Z_callV 1 hk [.long a1] (c_X8_images hk.loc hk.inj F a0 a1 ha0 s6 h11) gX8_addGenerator_X8_images rfl ⟨rfl, rfl⟩ (by decide +kernel) ⟨Nat.le_of_ble_eq_true rfl, Nat.le_of_ble_eq_true rfl⟩ ha0.cell.1 (ha0.cell.2 _) rfl rfl rfl (Nat.le_of_ble_eq_true rfl) ⟨Nat.zero_le _, Nat.zero_le _⟩ dX8_addGenerator_40 ?_
    show Z K 0 0 43 [(0, .ref (eA (kZ K) a0)), (1, .long a1)] [] s10
    refine Z_iconst hk dX8_addGenerator_43 zc_iconst_0 ?_
    refine Z_istore_n hk (lv' := [(3, .int 0), (0, .ref (eA (kZ K) a0)), (1, .long a1)]) dX8_addGenerator_44 rfl (by decide) rfl ?_
    refine Z_sub [1, 0] rfl ?_
    exact w_X8_addGenerator_45 hk hq F F a0 0 ha0 s10 h
  · have h := if_no h c8
    refine Z_iconst hk dX8_addGenerator_36 zc_iconst_0 ?_
    cases h
    exact Z_iret hk hq dX8_addGenerator_37
set_option maxRecDepth 100000 in
set_option maxHeartbeats 4000000 in
theorem w_X8_addGenerator {K : zK} (hk : zIs K RX8 cX8_addGenerator 4 wsX8_addGenerator (some .int) r_X8_addGenerator) {r0 : Int32} {τ0 : zST} (hq : zQ K (some (.int r0)) τ0) (F : Nat) (a0 : Nat) (a1 : Int64) (ha0 : atCanonCoteModel (kZ K) a0) (σ : zST) (h : m_X8_addGenerator F a0 a1 σ = some (r0, τ0)) : Z K 0 0 0 [(0, .ref (eA (kZ K) a0)), (1, .long a1)] [] σ := by
  unfold m_X8_addGenerator at h
  refine Z_aload_n hk 0 dX8_addGenerator_0 rfl rfl ?_
  refine Z_lload_n hk 1 dX8_addGenerator_1 rfl rfl ?_
  obtain ⟨x1, s2, h3, h⟩ := bd_ok h
  refine Z_callT 1 hk [.long a1] (c_X8_isPermutation hk.loc hk.inj F a1 σ h3) gX8_addGenerator_X8_isPermutation rfl ⟨rfl, rfl⟩ (by decide +kernel) ⟨Nat.le_of_ble_eq_true rfl, Nat.le_of_ble_eq_true rfl⟩ rfl rfl (Nat.le_of_ble_eq_true rfl) ⟨Nat.zero_le _, Nat.zero_le _⟩ dX8_addGenerator_2 ?_
  show Z K 0 0 5 [(0, .ref (eA (kZ K) a0)), (1, .long a1)] [.int x1, .ref (eA (kZ K) a0)] s2
  refine Z_if_ne hk (tgt := 12) dX8_addGenerator_5 (by decide) (fun c4 => ?_) (fun c4 => ?_)
  · have h := if_yes h c4
    refine Z_iconst hk dX8_addGenerator_8 zc_iconst_1 ?_
    refine Z_goto hk (tgt := 26) dX8_addGenerator_9 (by decide) ?_
    refine Z_sub [0, 1] rfl ?_
    exact w_X8_addGenerator_26 hk hq F a0 a1 1 a0 ha0 ha0 s2 h
  · have h := if_no h c4
    refine Z_aload_n hk 0 dX8_addGenerator_12 rfl rfl ?_
    refine Z_get hk in_X8_addGenerator_CanonCoteModel rfl ha0.cell.1 (ha0.cell.2 _) 11 (by decide) wd_X8_addGenerator_1 rfl dX8_addGenerator_13 ?_
    refine Z_bipush hk dX8_addGenerator_16 zc_bipush_6 ?_
    refine Z_icmp_ne hk (tgt := 25) dX8_addGenerator_18 (by decide) (fun c5 => ?_) (fun c5 => ?_)
    · have h := if_yes h c5
      refine Z_iconst hk dX8_addGenerator_21 zc_iconst_2 ?_
      refine Z_goto hk (tgt := 26) dX8_addGenerator_22 (by decide) ?_
      refine Z_sub [0, 1] rfl ?_
      exact w_X8_addGenerator_26 hk hq F a0 a1 2 a0 ha0 ha0 s2 h
    · have h := if_no h c5
      refine Z_iconst hk dX8_addGenerator_25 zc_iconst_0 ?_
      refine Z_sub [0, 1] rfl ?_
      exact w_X8_addGenerator_26 hk hq F a0 a1 0 a0 ha0 ha0 s2 h
theorem c_X8_addGenerator {l : Launch} {E : zE} (hL : eL E) (hJ : eJ E) (F : Nat) (a0 : Nat) (a1 : Int64) (ha0 : atCanonCoteModel E a0) (σ : zST) {r0 : Int32} {τ0 : zST} (h : m_X8_addGenerator F a0 a1 σ = some (r0, τ0)) : Ct l yX8_addGenerator wsX8_addGenerator r_X8_addGenerator E [.ref (eA E a0), .long a1] σ (some (.int r0)) τ0 := by
  refine Ct_of (by decide) rfl hL hJ (Nat.le_of_ble_eq_true rfl) (fun K hE hl hk hq => ?_)
  subst hE
  exact w_X8_addGenerator hk hq F a0 a1 ha0 σ h
end

-- CanonCoteModel.forgetGenerators ()I
section
theorem dX8_forgetGenerators_0 : decode cX8_forgetGenerators 0 = .ok (.aload_n 0, 1) := by decide +kernel
theorem dX8_forgetGenerators_1 : decode cX8_forgetGenerators 1 = .ok (.iconst 0, 1) := by decide +kernel
theorem dX8_forgetGenerators_2 : decode cX8_forgetGenerators 2 = .ok (.putfield 54, 3) := by decide +kernel
theorem dX8_forgetGenerators_5 : decode cX8_forgetGenerators 5 = .ok (.aload_n 0, 1) := by decide +kernel
theorem dX8_forgetGenerators_6 : decode cX8_forgetGenerators 6 = .ok (.getfield 159, 3) := by decide +kernel
theorem dX8_forgetGenerators_9 : decode cX8_forgetGenerators 9 = .ok (.istore_n 1, 1) := by decide +kernel
theorem dX8_forgetGenerators_10 : decode cX8_forgetGenerators 10 = .ok (.aload_n 0, 1) := by decide +kernel
theorem dX8_forgetGenerators_11 : decode cX8_forgetGenerators 11 = .ok (.iconst 0, 1) := by decide +kernel
theorem dX8_forgetGenerators_12 : decode cX8_forgetGenerators 12 = .ok (.putfield 159, 3) := by decide +kernel
theorem dX8_forgetGenerators_15 : decode cX8_forgetGenerators 15 = .ok (.aload_n 0, 1) := by decide +kernel
theorem dX8_forgetGenerators_16 : decode cX8_forgetGenerators 16 = .ok (.invokevirtual 51, 3) := by decide +kernel
theorem dX8_forgetGenerators_19 : decode cX8_forgetGenerators 19 = .ok (.iload_n 1, 1) := by decide +kernel
theorem dX8_forgetGenerators_20 : decode cX8_forgetGenerators 20 = .ok (.ireturn, 1) := by decide +kernel
set_option maxRecDepth 20000 in
theorem ggX8_forgetGenerators_X8_closes : GoodIn wsX8_forgetGenerators wsX8_closes := goodIn_r _ [7, 8, 9, 10, 11, 2, 12, 13, 14, 15, 16, 6, 17, 18, 19, 20, 21, 22, 23, 24, 25, 26, 27, 28, 29, 30, 31, 32, 33, 34, 35, 36, 37, 38] (by decide +kernel) (by decide +kernel)
set_option maxRecDepth 20000 in
theorem gX8_forgetGenerators_X8_closes : GoodIn wsX8_forgetGenerators (wsV RX8 51 RX8 yX8_closes wsX8_closes) := goodIn_app (goodIn_of _ (by decide +kernel)) ggX8_forgetGenerators_X8_closes
theorem in_X8_forgetGenerators_CanonCoteModel : ∀ w ∈ u_ws RX8 TX8 17, w ∈ wsX8_forgetGenerators := by decide +kernel
theorem wd_X8_forgetGenerators_1 : Cond.fieldLink RX8 54 (TX8 16).1 (TX8 16).2.1 (TX8 16).2.2.1 ∈ wsX8_forgetGenerators := by decide +kernel
theorem wd_X8_forgetGenerators_2 : Cond.fieldLink RX8 159 (TX8 11).1 (TX8 11).2.1 (TX8 11).2.2.1 ∈ wsX8_forgetGenerators := by decide +kernel
def r_X8_forgetGenerators : Room := { frames := 4, cells := 0, slots := 0, locals := 82 }
set_option maxRecDepth 100000 in
set_option maxHeartbeats 4000000 in
theorem w_X8_forgetGenerators {K : zK} (hk : zIs K RX8 cX8_forgetGenerators 2 wsX8_forgetGenerators (some .int) r_X8_forgetGenerators) {r0 : Int32} {τ0 : zST} (hq : zQ K (some (.int r0)) τ0) (F : Nat) (a0 : Nat) (ha0 : atCanonCoteModel (kZ K) a0) (σ : zST) (h : m_X8_forgetGenerators F a0 σ = some (r0, τ0)) : Z K 0 0 0 [(0, .ref (eA (kZ K) a0))] [] σ := by
  unfold m_X8_forgetGenerators at h
  refine Z_aload_n hk 0 dX8_forgetGenerators_0 rfl rfl ?_
  refine Z_iconst hk dX8_forgetGenerators_1 zc_iconst_0 ?_
  obtain ⟨s1, e2, h⟩ := nm_get h
  refine Z_put hk in_X8_forgetGenerators_CanonCoteModel tyX8 tok_TX8 tnm_TX8 rfl ha0.cell.1 (ha0.cell.2 _) 16 (by decide) wd_X8_forgetGenerators_1 rfl (by decide) (Nat.le_of_ble_eq_true rfl) (ha0.put_last _ _) dX8_forgetGenerators_2 ?_
  refine Z_eqS e2 ?_
  refine Z_aload_n hk 0 dX8_forgetGenerators_5 rfl rfl ?_
  refine Z_get hk in_X8_forgetGenerators_CanonCoteModel rfl ha0.cell.1 (ha0.cell.2 _) 11 (by decide) wd_X8_forgetGenerators_2 rfl dX8_forgetGenerators_6 ?_
  obtain ⟨x3, e4, h⟩ := nm_get h
  refine Z_eqI e4 ?_
  refine Z_istore_n hk (lv' := [(1, .int x3), (0, .ref (eA (kZ K) a0))]) dX8_forgetGenerators_9 rfl (by decide) rfl ?_
  refine Z_aload_n hk 1 dX8_forgetGenerators_10 rfl rfl ?_
  refine Z_iconst hk dX8_forgetGenerators_11 zc_iconst_0 ?_
  obtain ⟨s5, e6, h⟩ := nm_get h
  refine Z_put hk in_X8_forgetGenerators_CanonCoteModel tyX8 tok_TX8 tnm_TX8 rfl ha0.cell.1 (ha0.cell.2 _) 11 (by decide) wd_X8_forgetGenerators_2 rfl (by decide) (Nat.le_of_ble_eq_true rfl) (ha0.put_generated _ _) dX8_forgetGenerators_12 ?_
  refine Z_eqS e6 ?_
  refine Z_aload_n hk 1 dX8_forgetGenerators_15 rfl rfl ?_
  obtain ⟨s8, h9, h⟩ := bv_ok h
  refine Z_callV 0 hk [] (c_X8_closes hk.loc hk.inj F a0 ha0 s5 h9) gX8_forgetGenerators_X8_closes rfl ⟨rfl, rfl⟩ (by decide +kernel) ⟨Nat.le_of_ble_eq_true rfl, Nat.le_of_ble_eq_true rfl⟩ ha0.cell.1 (ha0.cell.2 _) rfl rfl rfl (Nat.le_of_ble_eq_true rfl) ⟨Nat.zero_le _, Nat.zero_le _⟩ dX8_forgetGenerators_16 ?_
  show Z K 0 0 19 [(1, .int x3), (0, .ref (eA (kZ K) a0))] [] s8
  refine Z_iload_n hk 0 dX8_forgetGenerators_19 rfl rfl ?_
  cases h
  exact Z_iret hk hq dX8_forgetGenerators_20
theorem c_X8_forgetGenerators {l : Launch} {E : zE} (hL : eL E) (hJ : eJ E) (F : Nat) (a0 : Nat) (ha0 : atCanonCoteModel E a0) (σ : zST) {r0 : Int32} {τ0 : zST} (h : m_X8_forgetGenerators F a0 σ = some (r0, τ0)) : Ct l yX8_forgetGenerators wsX8_forgetGenerators r_X8_forgetGenerators E [.ref (eA E a0)] σ (some (.int r0)) τ0 := by
  refine Ct_of (by decide) rfl hL hJ (Nat.le_of_ble_eq_true rfl) (fun K hE hl hk hq => ?_)
  subst hE
  exact w_X8_forgetGenerators hk hq F a0 ha0 σ h
end

-- CanonCoteModel.order ()I
section
theorem dX8_order_0 : decode cX8_order 0 = .ok (.aload_n 0, 1) := by decide +kernel
theorem dX8_order_1 : decode cX8_order 1 = .ok (.iconst 0, 1) := by decide +kernel
theorem dX8_order_2 : decode cX8_order 2 = .ok (.putfield 54, 3) := by decide +kernel
theorem dX8_order_5 : decode cX8_order 5 = .ok (.aload_n 0, 1) := by decide +kernel
theorem dX8_order_6 : decode cX8_order 6 = .ok (.getfield 153, 3) := by decide +kernel
theorem dX8_order_9 : decode cX8_order 9 = .ok (.ireturn, 1) := by decide +kernel
theorem in_X8_order_CanonCoteModel : ∀ w ∈ u_ws RX8 TX8 17, w ∈ wsX8_order := by decide +kernel
theorem wd_X8_order_1 : Cond.fieldLink RX8 54 (TX8 16).1 (TX8 16).2.1 (TX8 16).2.2.1 ∈ wsX8_order := by decide +kernel
theorem wd_X8_order_2 : Cond.fieldLink RX8 153 (TX8 14).1 (TX8 14).2.1 (TX8 14).2.2.1 ∈ wsX8_order := by decide +kernel
def r_X8_order : Room := { frames := 1, cells := 0, slots := 0, locals := 12 }
set_option maxRecDepth 100000 in
set_option maxHeartbeats 4000000 in
theorem w_X8_order {K : zK} (hk : zIs K RX8 cX8_order 1 wsX8_order (some .int) r_X8_order) {r0 : Int32} {τ0 : zST} (hq : zQ K (some (.int r0)) τ0) (F : Nat) (a0 : Nat) (ha0 : atCanonCoteModel (kZ K) a0) (σ : zST) (h : m_X8_order F a0 σ = some (r0, τ0)) : Z K 0 0 0 [(0, .ref (eA (kZ K) a0))] [] σ := by
  unfold m_X8_order at h
  refine Z_aload_n hk 0 dX8_order_0 rfl rfl ?_
  refine Z_iconst hk dX8_order_1 zc_iconst_0 ?_
  obtain ⟨s1, e2, h⟩ := nm_get h
  refine Z_put hk in_X8_order_CanonCoteModel tyX8 tok_TX8 tnm_TX8 rfl ha0.cell.1 (ha0.cell.2 _) 16 (by decide) wd_X8_order_1 rfl (by decide) (Nat.le_of_ble_eq_true rfl) (ha0.put_last _ _) dX8_order_2 ?_
  refine Z_eqS e2 ?_
  refine Z_aload_n hk 0 dX8_order_5 rfl rfl ?_
  refine Z_get hk in_X8_order_CanonCoteModel rfl ha0.cell.1 (ha0.cell.2 _) 14 (by decide) wd_X8_order_2 rfl dX8_order_6 ?_
  cases h
  exact Z_iret hk hq dX8_order_9
theorem c_X8_order {l : Launch} {E : zE} (hL : eL E) (hJ : eJ E) (F : Nat) (a0 : Nat) (ha0 : atCanonCoteModel E a0) (σ : zST) {r0 : Int32} {τ0 : zST} (h : m_X8_order F a0 σ = some (r0, τ0)) : Ct l yX8_order wsX8_order r_X8_order E [.ref (eA E a0)] σ (some (.int r0)) τ0 := by
  refine Ct_of (by decide) rfl hL hJ (Nat.le_of_ble_eq_true rfl) (fun K hE hl hk hq => ?_)
  subst hE
  exact w_X8_order hk hq F a0 ha0 σ h
end

-- CanonCoteModel.isInGroup (J)Z
section
theorem dX8_isInGroup_0 : decode cX8_isInGroup 0 = .ok (.aload_n 0, 1) := by decide +kernel
theorem dX8_isInGroup_1 : decode cX8_isInGroup 1 = .ok (.lload_n 1, 1) := by decide +kernel
theorem dX8_isInGroup_2 : decode cX8_isInGroup 2 = .ok (.invokestatic 162, 3) := by decide +kernel
theorem dX8_isInGroup_5 : decode cX8_isInGroup 5 = .ok (.ifCond .eq 7, 3) := by decide +kernel
theorem dX8_isInGroup_8 : decode cX8_isInGroup 8 = .ok (.iconst 0, 1) := by decide +kernel
theorem dX8_isInGroup_9 : decode cX8_isInGroup 9 = .ok (.goto 4, 3) := by decide +kernel
theorem dX8_isInGroup_12 : decode cX8_isInGroup 12 = .ok (.iconst 1, 1) := by decide +kernel
theorem dX8_isInGroup_13 : decode cX8_isInGroup 13 = .ok (.putfield 54, 3) := by decide +kernel
theorem dX8_isInGroup_16 : decode cX8_isInGroup 16 = .ok (.aload_n 0, 1) := by decide +kernel
theorem dX8_isInGroup_17 : decode cX8_isInGroup 17 = .ok (.getfield 54, 3) := by decide +kernel
theorem dX8_isInGroup_20 : decode cX8_isInGroup 20 = .ok (.ifCond .le 5, 3) := by decide +kernel
theorem dX8_isInGroup_23 : decode cX8_isInGroup 23 = .ok (.iconst 0, 1) := by decide +kernel
theorem dX8_isInGroup_24 : decode cX8_isInGroup 24 = .ok (.ireturn, 1) := by decide +kernel
theorem dX8_isInGroup_25 : decode cX8_isInGroup 25 = .ok (.aload_n 0, 1) := by decide +kernel
theorem dX8_isInGroup_26 : decode cX8_isInGroup 26 = .ok (.lload_n 1, 1) := by decide +kernel
theorem dX8_isInGroup_27 : decode cX8_isInGroup 27 = .ok (.invokevirtual 166, 3) := by decide +kernel
theorem dX8_isInGroup_30 : decode cX8_isInGroup 30 = .ok (.aload_n 0, 1) := by decide +kernel
theorem dX8_isInGroup_31 : decode cX8_isInGroup 31 = .ok (.getfield 44, 3) := by decide +kernel
theorem dX8_isInGroup_34 : decode cX8_isInGroup 34 = .ok (.aload_n 0, 1) := by decide +kernel
theorem dX8_isInGroup_35 : decode cX8_isInGroup 35 = .ok (.invokevirtual 149, 3) := by decide +kernel
theorem dX8_isInGroup_38 : decode cX8_isInGroup 38 = .ok (.baload, 1) := by decide +kernel
theorem dX8_isInGroup_39 : decode cX8_isInGroup 39 = .ok (.ireturn, 1) := by decide +kernel
set_option maxRecDepth 20000 in
theorem ggX8_isInGroup_X8_isPermutation : GoodIn wsX8_isInGroup wsX8_isPermutation := goodIn_r _ [6, 7, 8, 9] (by decide +kernel) (by decide +kernel)
set_option maxRecDepth 20000 in
theorem gX8_isInGroup_X8_isPermutation : GoodIn wsX8_isInGroup (va_wsS RX8 162 yX8_isPermutation wsX8_isPermutation) := goodIn_app (goodIn_of _ (by decide +kernel)) ggX8_isInGroup_X8_isPermutation
set_option maxRecDepth 20000 in
theorem ggX8_isInGroup_X8_images : GoodIn wsX8_isInGroup wsX8_images := goodIn_r _ [13, 14, 7, 19, 20, 21, 22, 23, 24, 25, 26, 27, 28, 29, 30, 31, 32, 33, 34, 35] (by decide +kernel) (by decide +kernel)
set_option maxRecDepth 20000 in
theorem gX8_isInGroup_X8_images : GoodIn wsX8_isInGroup (wsV RX8 166 RX8 yX8_images wsX8_images) := goodIn_app (goodIn_of _ (by decide +kernel)) ggX8_isInGroup_X8_images
set_option maxRecDepth 20000 in
theorem ggX8_isInGroup_X8_numbered : GoodIn wsX8_isInGroup wsX8_numbered := goodIn_r _ [18, 14, 19, 20, 21, 22, 23, 24, 25, 26, 27, 28, 29, 30, 31, 32, 33, 34, 35] (by decide +kernel) (by decide +kernel)
set_option maxRecDepth 20000 in
theorem gX8_isInGroup_X8_numbered : GoodIn wsX8_isInGroup (wsV RX8 149 RX8 yX8_numbered wsX8_numbered) := goodIn_app (goodIn_of _ (by decide +kernel)) ggX8_isInGroup_X8_numbered
theorem in_X8_isInGroup_CanonCoteModel : ∀ w ∈ u_ws RX8 TX8 17, w ∈ wsX8_isInGroup := by decide +kernel
theorem wd_X8_isInGroup_1 : Cond.fieldLink RX8 54 (TX8 16).1 (TX8 16).2.1 (TX8 16).2.2.1 ∈ wsX8_isInGroup := by decide +kernel
theorem wd_X8_isInGroup_2 : Cond.fieldLink RX8 44 (TX8 13).1 (TX8 13).2.1 (TX8 13).2.2.1 ∈ wsX8_isInGroup := by decide +kernel
def r_X8_isInGroup : Room := { frames := 2, cells := 0, slots := 0, locals := 37 }
set_option maxRecDepth 100000 in
set_option maxHeartbeats 4000000 in
theorem w_X8_isInGroup_13 {K : zK} (hk : zIs K RX8 cX8_isInGroup 3 wsX8_isInGroup (some .boolean) r_X8_isInGroup) {r0 : Int32} {τ0 : zST} (hq : zQ K (some (.int r0)) τ0) (F : Nat) (a0 : Nat) (a1 : Int64) (t0 : Int32) (t1 : Nat) (ha0 : atCanonCoteModel (kZ K) a0) (ht1 : atCanonCoteModel (kZ K) t1) (σ : zST) (h : m_X8_isInGroup_13 F a0 a1 t0 t1 σ = some (r0, τ0)) : Z K 0 0 13 [(0, .ref (eA (kZ K) a0)), (1, .long a1)] [.int t0, .ref (eA (kZ K) t1)] σ := by
  unfold m_X8_isInGroup_13 at h
  obtain ⟨s5, e6, h⟩ := nm_get h
  refine Z_put hk in_X8_isInGroup_CanonCoteModel tyX8 tok_TX8 tnm_TX8 rfl ht1.cell.1 (ht1.cell.2 _) 16 (by decide) wd_X8_isInGroup_1 rfl (by decide) (Nat.le_of_ble_eq_true rfl) (ht1.put_last _ _) dX8_isInGroup_13 ?_
  refine Z_eqS e6 ?_
  refine Z_aload_n hk 0 dX8_isInGroup_16 rfl rfl ?_
  refine Z_get hk in_X8_isInGroup_CanonCoteModel rfl ha0.cell.1 (ha0.cell.2 _) 16 (by decide) wd_X8_isInGroup_1 rfl dX8_isInGroup_17 ?_
  refine Z_if_le hk (tgt := 25) dX8_isInGroup_20 (by decide) (fun c7 => ?_) (fun c7 => ?_)
  · have h := if_yes h c7
    refine Z_aload_n hk 0 dX8_isInGroup_25 rfl rfl ?_
    refine Z_lload_n hk 1 dX8_isInGroup_26 rfl rfl ?_
    obtain ⟨s9, h10, h⟩ := bv_ok h
    refine Z_callV 1 hk [.long a1] (c_X8_images hk.loc hk.inj F a0 a1 ha0 s5 h10) gX8_isInGroup_X8_images rfl ⟨rfl, rfl⟩ (by decide +kernel) ⟨Nat.le_of_ble_eq_true rfl, Nat.le_of_ble_eq_true rfl⟩ ha0.cell.1 (ha0.cell.2 _) rfl rfl rfl (Nat.le_of_ble_eq_true rfl) ⟨Nat.zero_le _, Nat.zero_le _⟩ dX8_isInGroup_27 ?_
    show Z K 0 0 30 [(0, .ref (eA (kZ K) a0)), (1, .long a1)] [] s9
    refine Z_aload_n hk 0 dX8_isInGroup_30 rfl rfl ?_
    refine Z_get hk in_X8_isInGroup_CanonCoteModel rfl ha0.cell.1 (ha0.cell.2 _) 13 (by decide) wd_X8_isInGroup_2 rfl dX8_isInGroup_31 ?_
    refine Z_aload_n hk 0 dX8_isInGroup_34 rfl rfl ?_
    obtain ⟨x11, s12, h13, h⟩ := bd_ok h
    refine Z_callV 0 hk [] (c_X8_numbered hk.loc hk.inj F a0 ha0 s9 h13) gX8_isInGroup_X8_numbered rfl ⟨rfl, rfl⟩ (by decide +kernel) ⟨Nat.le_of_ble_eq_true rfl, Nat.le_of_ble_eq_true rfl⟩ ha0.cell.1 (ha0.cell.2 _) rfl rfl rfl (Nat.le_of_ble_eq_true rfl) ⟨Nat.zero_le _, Nat.zero_le _⟩ dX8_isInGroup_35 ?_
    show Z K 0 0 38 [(0, .ref (eA (kZ K) a0)), (1, .long a1)] [.int x11, .ref (eA (kZ K) (a0 + 12))] s12
    obtain ⟨i16, x14, e15, h⟩ := ldI_get h
    refine Z_zald hk (ha0.has) i16 dX8_isInGroup_38 ?_
    refine Z_eqI e15 ?_
    obtain ⟨hz, h⟩ := gd_some h
    cases h
    exact Z_zret hk hz hq dX8_isInGroup_39
  · have h := if_no h c7
    refine Z_iconst hk dX8_isInGroup_23 zc_iconst_0 ?_
    cases h
    exact Z_zret hk (by decide) hq dX8_isInGroup_24
set_option maxRecDepth 100000 in
set_option maxHeartbeats 4000000 in
theorem w_X8_isInGroup {K : zK} (hk : zIs K RX8 cX8_isInGroup 3 wsX8_isInGroup (some .boolean) r_X8_isInGroup) {r0 : Int32} {τ0 : zST} (hq : zQ K (some (.int r0)) τ0) (F : Nat) (a0 : Nat) (a1 : Int64) (ha0 : atCanonCoteModel (kZ K) a0) (σ : zST) (h : m_X8_isInGroup F a0 a1 σ = some (r0, τ0)) : Z K 0 0 0 [(0, .ref (eA (kZ K) a0)), (1, .long a1)] [] σ := by
  unfold m_X8_isInGroup at h
  refine Z_aload_n hk 0 dX8_isInGroup_0 rfl rfl ?_
  refine Z_lload_n hk 1 dX8_isInGroup_1 rfl rfl ?_
  obtain ⟨x1, s2, h3, h⟩ := bd_ok h
  refine Z_callT 1 hk [.long a1] (c_X8_isPermutation hk.loc hk.inj F a1 σ h3) gX8_isInGroup_X8_isPermutation rfl ⟨rfl, rfl⟩ (by decide +kernel) ⟨Nat.le_of_ble_eq_true rfl, Nat.le_of_ble_eq_true rfl⟩ rfl rfl (Nat.le_of_ble_eq_true rfl) ⟨Nat.zero_le _, Nat.zero_le _⟩ dX8_isInGroup_2 ?_
  show Z K 0 0 5 [(0, .ref (eA (kZ K) a0)), (1, .long a1)] [.int x1, .ref (eA (kZ K) a0)] s2
  refine Z_if_eq hk (tgt := 12) dX8_isInGroup_5 (by decide) (fun c4 => ?_) (fun c4 => ?_)
  · have h := if_yes h c4
    refine Z_iconst hk dX8_isInGroup_12 zc_iconst_1 ?_
    refine Z_sub [0, 1] rfl ?_
    exact w_X8_isInGroup_13 hk hq F a0 a1 1 a0 ha0 ha0 s2 h
  · have h := if_no h c4
    refine Z_iconst hk dX8_isInGroup_8 zc_iconst_0 ?_
    refine Z_goto hk (tgt := 13) dX8_isInGroup_9 (by decide) ?_
    refine Z_sub [0, 1] rfl ?_
    exact w_X8_isInGroup_13 hk hq F a0 a1 0 a0 ha0 ha0 s2 h
theorem c_X8_isInGroup {l : Launch} {E : zE} (hL : eL E) (hJ : eJ E) (F : Nat) (a0 : Nat) (a1 : Int64) (ha0 : atCanonCoteModel E a0) (σ : zST) {r0 : Int32} {τ0 : zST} (h : m_X8_isInGroup F a0 a1 σ = some (r0, τ0)) : Ct l yX8_isInGroup wsX8_isInGroup r_X8_isInGroup E [.ref (eA E a0), .long a1] σ (some (.int r0)) τ0 := by
  refine Ct_of (by decide) rfl hL hJ (Nat.le_of_ble_eq_true rfl) (fun K hE hl hk hq => ?_)
  subst hE
  exact w_X8_isInGroup hk hq F a0 a1 ha0 σ h
end

-- CanonCoteModel.moves (I)I
section
theorem dX8_moves_0 : decode cX8_moves 0 = .ok (.iconst 0, 1) := by decide +kernel
theorem dX8_moves_1 : decode cX8_moves 1 = .ok (.istore_n 2, 1) := by decide +kernel
theorem dX8_moves_2 : decode cX8_moves 2 = .ok (.aload_n 0, 1) := by decide +kernel
theorem dX8_moves_3 : decode cX8_moves 3 = .ok (.iload_n 1, 1) := by decide +kernel
theorem dX8_moves_4 : decode cX8_moves 4 = .ok (.iconst 0, 1) := by decide +kernel
theorem dX8_moves_5 : decode cX8_moves 5 = .ok (.bipush 7, 2) := by decide +kernel
theorem dX8_moves_7 : decode cX8_moves 7 = .ok (.invokestatic 58, 3) := by decide +kernel
theorem dX8_moves_10 : decode cX8_moves 10 = .ok (.iconst 1, 1) := by decide +kernel
theorem dX8_moves_11 : decode cX8_moves 11 = .ok (.invokevirtual 73, 3) := by decide +kernel
theorem dX8_moves_14 : decode cX8_moves 14 = .ok (.istore_n 3, 1) := by decide +kernel
theorem dX8_moves_15 : decode cX8_moves 15 = .ok (.iconst 0, 1) := by decide +kernel
theorem dX8_moves_16 : decode cX8_moves 16 = .ok (.istore 4, 2) := by decide +kernel
theorem dX8_moves_18 : decode cX8_moves 18 = .ok (.iload 4, 2) := by decide +kernel
theorem dX8_moves_20 : decode cX8_moves 20 = .ok (.aload_n 0, 1) := by decide +kernel
theorem dX8_moves_21 : decode cX8_moves 21 = .ok (.getfield 153, 3) := by decide +kernel
theorem dX8_moves_24 : decode cX8_moves 24 = .ok (.if_icmp .ge 32, 3) := by decide +kernel
theorem dX8_moves_27 : decode cX8_moves 27 = .ok (.iload_n 3, 1) := by decide +kernel
theorem dX8_moves_28 : decode cX8_moves 28 = .ok (.ifCond .eq 28, 3) := by decide +kernel
theorem dX8_moves_31 : decode cX8_moves 31 = .ok (.iload_n 2, 1) := by decide +kernel
theorem dX8_moves_32 : decode cX8_moves 32 = .ok (.iconst 1, 1) := by decide +kernel
theorem dX8_moves_33 : decode cX8_moves 33 = .ok (.aload_n 0, 1) := by decide +kernel
theorem dX8_moves_34 : decode cX8_moves 34 = .ok (.getfield 41, 3) := by decide +kernel
theorem dX8_moves_37 : decode cX8_moves 37 = .ok (.iload 4, 2) := by decide +kernel
theorem dX8_moves_39 : decode cX8_moves 39 = .ok (.iaload, 1) := by decide +kernel
theorem dX8_moves_40 : decode cX8_moves 40 = .ok (.iconst 3, 1) := by decide +kernel
theorem dX8_moves_41 : decode cX8_moves 41 = .ok (.iload_n 1, 1) := by decide +kernel
theorem dX8_moves_42 : decode cX8_moves 42 = .ok (.imul, 1) := by decide +kernel
theorem dX8_moves_43 : decode cX8_moves 43 = .ok (.ishr, 1) := by decide +kernel
theorem dX8_moves_44 : decode cX8_moves 44 = .ok (.bipush 7, 2) := by decide +kernel
theorem dX8_moves_46 : decode cX8_moves 46 = .ok (.iand, 1) := by decide +kernel
theorem dX8_moves_47 : decode cX8_moves 47 = .ok (.ishl, 1) := by decide +kernel
theorem dX8_moves_48 : decode cX8_moves 48 = .ok (.ior, 1) := by decide +kernel
theorem dX8_moves_49 : decode cX8_moves 49 = .ok (.istore_n 2, 1) := by decide +kernel
theorem dX8_moves_50 : decode cX8_moves 50 = .ok (.iinc 4 1, 3) := by decide +kernel
theorem dX8_moves_53 : decode cX8_moves 53 = .ok (.goto (-35), 3) := by decide +kernel
theorem dX8_moves_56 : decode cX8_moves 56 = .ok (.iload_n 2, 1) := by decide +kernel
theorem dX8_moves_57 : decode cX8_moves 57 = .ok (.ireturn, 1) := by decide +kernel
set_option maxRecDepth 20000 in
theorem ggX8_moves_X8_in : GoodIn wsX8_moves wsX8_in := goodIn_r _ [6] (by decide +kernel) (by decide +kernel)
set_option maxRecDepth 20000 in
theorem gX8_moves_X8_in : GoodIn wsX8_moves (va_wsS RX8 58 yX8_in wsX8_in) := goodIn_app (goodIn_of _ (by decide +kernel)) ggX8_moves_X8_in
set_option maxRecDepth 20000 in
theorem ggX8_moves_X8_goes : GoodIn wsX8_moves wsX8_goes := goodIn_r _ [10, 11, 12, 13, 14, 15, 16, 17, 18, 19, 20, 21, 22, 23, 24, 25, 26, 27, 28] (by decide +kernel) (by decide +kernel)
set_option maxRecDepth 20000 in
theorem gX8_moves_X8_goes : GoodIn wsX8_moves (wsV RX8 73 RX8 yX8_goes wsX8_goes) := goodIn_app (goodIn_of _ (by decide +kernel)) ggX8_moves_X8_goes
theorem in_X8_moves_CanonCoteModel : ∀ w ∈ u_ws RX8 TX8 17, w ∈ wsX8_moves := by decide +kernel
theorem wd_X8_moves_1 : Cond.fieldLink RX8 153 (TX8 14).1 (TX8 14).2.1 (TX8 14).2.2.1 ∈ wsX8_moves := by decide +kernel
theorem wd_X8_moves_2 : Cond.fieldLink RX8 41 (TX8 12).1 (TX8 12).2.1 (TX8 12).2.2.1 ∈ wsX8_moves := by decide +kernel
def r_X8_moves : Room := { frames := 2, cells := 0, slots := 0, locals := 34 }
set_option maxRecDepth 100000 in
set_option maxHeartbeats 4000000 in
theorem w_X8_moves_56 {K : zK} (hk : zIs K RX8 cX8_moves 5 wsX8_moves (some .int) r_X8_moves) {r0 : Int32} {τ0 : zST} (hq : zQ K (some (.int r0)) τ0) (F : Nat) (a2 : Int32) (σ : zST) (h : m_X8_moves_56 F a2 σ = some (r0, τ0)) : Z K 0 0 56 [(2, .int a2)] [] σ := by
  unfold m_X8_moves_56 at h
  refine Z_iload_n hk 0 dX8_moves_56 rfl rfl ?_
  cases h
  exact Z_iret hk hq dX8_moves_57
set_option maxRecDepth 100000 in
set_option maxHeartbeats 4000000 in
theorem w_X8_moves_18 {K : zK} (hk : zIs K RX8 cX8_moves 5 wsX8_moves (some .int) r_X8_moves) {r0 : Int32} {τ0 : zST} (hq : zQ K (some (.int r0)) τ0) (F : Nat) : ∀ (n : Nat) (a0 : Nat) (a1 : Int32) (a2 : Int32) (a3 : Int32) (a4 : Int32) (ha0 : atCanonCoteModel (kZ K) a0) (σ : zST), m_X8_moves_18 F n a0 a1 a2 a3 a4 σ = some (r0, τ0) → Z K 0 0 18 [(0, .ref (eA (kZ K) a0)), (1, .int a1), (2, .int a2), (3, .int a3), (4, .int a4)] [] σ := by
  intro n
  induction n with
  | zero => intro a0 a1 a2 a3 a4 ha0 σ h; cases h
  | succ n ih =>
    intro a0 a1 a2 a3 a4 ha0 σ h
    rw [m_X8_moves_18] at h
    refine Z_iload hk 4 dX8_moves_18 rfl ?_
    refine Z_aload_n hk 0 dX8_moves_20 rfl rfl ?_
    refine Z_get hk in_X8_moves_CanonCoteModel rfl ha0.cell.1 (ha0.cell.2 _) 14 (by decide) wd_X8_moves_1 rfl dX8_moves_21 ?_
    refine Z_icmp_ge hk (tgt := 56) dX8_moves_24 (by decide) (fun c7 => ?_) (fun c7 => ?_)
    · have h := if_yes h c7
      refine Z_sub [2] rfl ?_
      exact w_X8_moves_56 hk hq F a2 σ h
    · have h := if_no h c7
      refine Z_iload_n hk 3 dX8_moves_27 rfl rfl ?_
      refine Z_if_eq hk (tgt := 56) dX8_moves_28 (by decide) (fun c8 => ?_) (fun c8 => ?_)
      · have h := if_yes h c8
        refine Z_sub [2] rfl ?_
        exact w_X8_moves_56 hk hq F a2 σ h
      · have h := if_no h c8
        refine Z_iload_n hk 2 dX8_moves_31 rfl rfl ?_
        refine Z_iconst hk dX8_moves_32 zc_iconst_1 ?_
        refine Z_aload_n hk 0 dX8_moves_33 rfl rfl ?_
        refine Z_get hk in_X8_moves_CanonCoteModel rfl ha0.cell.1 (ha0.cell.2 _) 12 (by decide) wd_X8_moves_2 rfl dX8_moves_34 ?_
        refine Z_iload hk 4 dX8_moves_37 rfl ?_
        obtain ⟨i11, x9, e10, h⟩ := ldI_get h
        refine Z_iald hk (ha0.found) i11 dX8_moves_39 ?_
        refine Z_eqI e10 ?_
        refine Z_iconst hk dX8_moves_40 zc_iconst_3 ?_
        refine Z_iload_n hk 1 dX8_moves_41 rfl rfl ?_
        refine Z_imul hk dX8_moves_42 ?_
        refine Z_ishr hk dX8_moves_43 ?_
        refine Z_bipush hk dX8_moves_44 zc_bipush_7 ?_
        refine Z_iand hk dX8_moves_46 ?_
        refine Z_ishl hk dX8_moves_47 ?_
        refine Z_ior hk dX8_moves_48 ?_
        obtain ⟨x12, e13, h⟩ := nm_get h
        refine Z_eqI e13 ?_
        refine Z_istore_n hk (lv' := [(2, .int x12), (0, .ref (eA (kZ K) a0)), (1, .int a1), (3, .int a3), (4, .int a4)]) dX8_moves_49 rfl (by decide) rfl ?_
        obtain ⟨x14, e15, h⟩ := nm_get h
        refine Z_iinc hk 4 (v := x14) (lv' := [(4, .int x14), (2, .int x12), (0, .ref (eA (kZ K) a0)), (1, .int a1), (3, .int a3)]) dX8_moves_50 rfl (by rw [zc_iinc_1]; exact e15) (by decide) rfl ?_
        refine Z_goto hk (tgt := 18) dX8_moves_53 (by decide) ?_
        refine Z_sub [2, 3, 1, 4, 0] rfl ?_
        exact ih a0 a1 x12 a3 x14 ha0 σ h
set_option maxRecDepth 100000 in
set_option maxHeartbeats 4000000 in
theorem w_X8_moves {K : zK} (hk : zIs K RX8 cX8_moves 5 wsX8_moves (some .int) r_X8_moves) {r0 : Int32} {τ0 : zST} (hq : zQ K (some (.int r0)) τ0) (F : Nat) (a0 : Nat) (a1 : Int32) (ha0 : atCanonCoteModel (kZ K) a0) (σ : zST) (h : m_X8_moves F a0 a1 σ = some (r0, τ0)) : Z K 0 0 0 [(0, .ref (eA (kZ K) a0)), (1, .int a1)] [] σ := by
  unfold m_X8_moves at h
  refine Z_iconst hk dX8_moves_0 zc_iconst_0 ?_
  refine Z_istore_n hk (lv' := [(2, .int 0), (0, .ref (eA (kZ K) a0)), (1, .int a1)]) dX8_moves_1 rfl (by decide) rfl ?_
  refine Z_aload_n hk 1 dX8_moves_2 rfl rfl ?_
  refine Z_iload_n hk 2 dX8_moves_3 rfl rfl ?_
  refine Z_iconst hk dX8_moves_4 zc_iconst_0 ?_
  refine Z_bipush hk dX8_moves_5 zc_bipush_7 ?_
  obtain ⟨x1, s2, h3, h⟩ := bd_ok h
  refine Z_callT 3 hk [.int a1, .int 0, .int 7] (c_X8_in hk.loc hk.inj F a1 0 7 σ h3) gX8_moves_X8_in rfl ⟨rfl, rfl⟩ (by decide +kernel) ⟨Nat.le_of_ble_eq_true rfl, Nat.le_of_ble_eq_true rfl⟩ rfl rfl (Nat.le_of_ble_eq_true rfl) ⟨Nat.zero_le _, Nat.zero_le _⟩ dX8_moves_7 ?_
  show Z K 0 0 10 [(2, .int 0), (0, .ref (eA (kZ K) a0)), (1, .int a1)] [.int x1, .ref (eA (kZ K) a0)] s2
  refine Z_iconst hk dX8_moves_10 zc_iconst_1 ?_
  obtain ⟨x4, s5, h6, h⟩ := bd_ok h
  refine Z_callV 2 hk [.int x1, .int 1] (c_X8_goes hk.loc hk.inj F a0 x1 1 ha0 s2 h6) gX8_moves_X8_goes rfl ⟨rfl, rfl⟩ (by decide +kernel) ⟨Nat.le_of_ble_eq_true rfl, Nat.le_of_ble_eq_true rfl⟩ ha0.cell.1 (ha0.cell.2 _) rfl rfl rfl (Nat.le_of_ble_eq_true rfl) ⟨Nat.zero_le _, Nat.zero_le _⟩ dX8_moves_11 ?_
  show Z K 0 0 14 [(2, .int 0), (0, .ref (eA (kZ K) a0)), (1, .int a1)] [.int x4] s5
  refine Z_istore_n hk (lv' := [(3, .int x4), (2, .int 0), (0, .ref (eA (kZ K) a0)), (1, .int a1)]) dX8_moves_14 rfl (by decide) rfl ?_
  refine Z_iconst hk dX8_moves_15 zc_iconst_0 ?_
  refine Z_istore hk (lv' := [(4, .int 0), (3, .int x4), (2, .int 0), (0, .ref (eA (kZ K) a0)), (1, .int a1)]) dX8_moves_16 (by decide) rfl ?_
  refine Z_sub [3, 4, 2, 1, 0] rfl ?_
  exact w_X8_moves_18 hk hq F F a0 a1 0 x4 0 ha0 s5 h
theorem c_X8_moves {l : Launch} {E : zE} (hL : eL E) (hJ : eJ E) (F : Nat) (a0 : Nat) (a1 : Int32) (ha0 : atCanonCoteModel E a0) (σ : zST) {r0 : Int32} {τ0 : zST} (h : m_X8_moves F a0 a1 σ = some (r0, τ0)) : Ct l yX8_moves wsX8_moves r_X8_moves E [.ref (eA E a0), .int a1] σ (some (.int r0)) τ0 := by
  refine Ct_of (by decide) rfl hL hJ (Nat.le_of_ble_eq_true rfl) (fun K hE hl hk hq => ?_)
  subst hE
  exact w_X8_moves hk hq F a0 a1 ha0 σ h
end

-- CanonCoteModel.fixing (I)I
section
theorem dX8_fixing_0 : decode cX8_fixing 0 = .ok (.iconst 0, 1) := by decide +kernel
theorem dX8_fixing_1 : decode cX8_fixing 1 = .ok (.istore_n 2, 1) := by decide +kernel
theorem dX8_fixing_2 : decode cX8_fixing 2 = .ok (.aload_n 0, 1) := by decide +kernel
theorem dX8_fixing_3 : decode cX8_fixing 3 = .ok (.iload_n 1, 1) := by decide +kernel
theorem dX8_fixing_4 : decode cX8_fixing 4 = .ok (.iconst 0, 1) := by decide +kernel
theorem dX8_fixing_5 : decode cX8_fixing 5 = .ok (.sipush 255, 3) := by decide +kernel
theorem dX8_fixing_8 : decode cX8_fixing 8 = .ok (.invokestatic 58, 3) := by decide +kernel
theorem dX8_fixing_11 : decode cX8_fixing 11 = .ok (.iconst 1, 1) := by decide +kernel
theorem dX8_fixing_12 : decode cX8_fixing 12 = .ok (.invokevirtual 73, 3) := by decide +kernel
theorem dX8_fixing_15 : decode cX8_fixing 15 = .ok (.istore_n 3, 1) := by decide +kernel
theorem dX8_fixing_16 : decode cX8_fixing 16 = .ok (.iconst 0, 1) := by decide +kernel
theorem dX8_fixing_17 : decode cX8_fixing 17 = .ok (.istore 4, 2) := by decide +kernel
theorem dX8_fixing_19 : decode cX8_fixing 19 = .ok (.iload 4, 2) := by decide +kernel
theorem dX8_fixing_21 : decode cX8_fixing 21 = .ok (.aload_n 0, 1) := by decide +kernel
theorem dX8_fixing_22 : decode cX8_fixing 22 = .ok (.getfield 153, 3) := by decide +kernel
theorem dX8_fixing_25 : decode cX8_fixing 25 = .ok (.if_icmp .ge 86, 3) := by decide +kernel
theorem dX8_fixing_28 : decode cX8_fixing 28 = .ok (.iload_n 3, 1) := by decide +kernel
theorem dX8_fixing_29 : decode cX8_fixing 29 = .ok (.ifCond .eq 82, 3) := by decide +kernel
theorem dX8_fixing_32 : decode cX8_fixing 32 = .ok (.iconst 1, 1) := by decide +kernel
theorem dX8_fixing_33 : decode cX8_fixing 33 = .ok (.istore 5, 2) := by decide +kernel
theorem dX8_fixing_35 : decode cX8_fixing 35 = .ok (.iconst 0, 1) := by decide +kernel
theorem dX8_fixing_36 : decode cX8_fixing 36 = .ok (.istore 6, 2) := by decide +kernel
theorem dX8_fixing_38 : decode cX8_fixing 38 = .ok (.iload 6, 2) := by decide +kernel
theorem dX8_fixing_40 : decode cX8_fixing 40 = .ok (.bipush 8, 2) := by decide +kernel
theorem dX8_fixing_42 : decode cX8_fixing 42 = .ok (.if_icmp .ge 50, 3) := by decide +kernel
theorem dX8_fixing_45 : decode cX8_fixing 45 = .ok (.iload 5, 2) := by decide +kernel
theorem dX8_fixing_47 : decode cX8_fixing 47 = .ok (.ifCond .eq 36, 3) := by decide +kernel
theorem dX8_fixing_50 : decode cX8_fixing 50 = .ok (.iload_n 1, 1) := by decide +kernel
theorem dX8_fixing_51 : decode cX8_fixing 51 = .ok (.iload 6, 2) := by decide +kernel
theorem dX8_fixing_53 : decode cX8_fixing 53 = .ok (.ishr, 1) := by decide +kernel
theorem dX8_fixing_54 : decode cX8_fixing 54 = .ok (.iconst 1, 1) := by decide +kernel
theorem dX8_fixing_55 : decode cX8_fixing 55 = .ok (.iand, 1) := by decide +kernel
theorem dX8_fixing_56 : decode cX8_fixing 56 = .ok (.ifCond .eq 23, 3) := by decide +kernel
theorem dX8_fixing_59 : decode cX8_fixing 59 = .ok (.aload_n 0, 1) := by decide +kernel
theorem dX8_fixing_60 : decode cX8_fixing 60 = .ok (.getfield 41, 3) := by decide +kernel
theorem dX8_fixing_63 : decode cX8_fixing 63 = .ok (.iload 4, 2) := by decide +kernel
theorem dX8_fixing_65 : decode cX8_fixing 65 = .ok (.iaload, 1) := by decide +kernel
theorem dX8_fixing_66 : decode cX8_fixing 66 = .ok (.iconst 3, 1) := by decide +kernel
theorem dX8_fixing_67 : decode cX8_fixing 67 = .ok (.iload 6, 2) := by decide +kernel
theorem dX8_fixing_69 : decode cX8_fixing 69 = .ok (.imul, 1) := by decide +kernel
theorem dX8_fixing_70 : decode cX8_fixing 70 = .ok (.ishr, 1) := by decide +kernel
theorem dX8_fixing_71 : decode cX8_fixing 71 = .ok (.bipush 7, 2) := by decide +kernel
theorem dX8_fixing_73 : decode cX8_fixing 73 = .ok (.iand, 1) := by decide +kernel
theorem dX8_fixing_74 : decode cX8_fixing 74 = .ok (.iload 6, 2) := by decide +kernel
theorem dX8_fixing_76 : decode cX8_fixing 76 = .ok (.if_icmp .ne 7, 3) := by decide +kernel
theorem dX8_fixing_79 : decode cX8_fixing 79 = .ok (.iconst 1, 1) := by decide +kernel
theorem dX8_fixing_80 : decode cX8_fixing 80 = .ok (.goto 4, 3) := by decide +kernel
theorem dX8_fixing_83 : decode cX8_fixing 83 = .ok (.iconst 0, 1) := by decide +kernel
theorem dX8_fixing_84 : decode cX8_fixing 84 = .ok (.istore 5, 2) := by decide +kernel
theorem dX8_fixing_86 : decode cX8_fixing 86 = .ok (.iinc 6 1, 3) := by decide +kernel
theorem dX8_fixing_89 : decode cX8_fixing 89 = .ok (.goto (-51), 3) := by decide +kernel
theorem dX8_fixing_92 : decode cX8_fixing 92 = .ok (.iload_n 2, 1) := by decide +kernel
theorem dX8_fixing_93 : decode cX8_fixing 93 = .ok (.iload 5, 2) := by decide +kernel
theorem dX8_fixing_95 : decode cX8_fixing 95 = .ok (.ifCond .eq 7, 3) := by decide +kernel
theorem dX8_fixing_98 : decode cX8_fixing 98 = .ok (.iconst 1, 1) := by decide +kernel
theorem dX8_fixing_99 : decode cX8_fixing 99 = .ok (.goto 4, 3) := by decide +kernel
theorem dX8_fixing_102 : decode cX8_fixing 102 = .ok (.iconst 0, 1) := by decide +kernel
theorem dX8_fixing_103 : decode cX8_fixing 103 = .ok (.iadd, 1) := by decide +kernel
theorem dX8_fixing_104 : decode cX8_fixing 104 = .ok (.istore_n 2, 1) := by decide +kernel
theorem dX8_fixing_105 : decode cX8_fixing 105 = .ok (.iinc 4 1, 3) := by decide +kernel
theorem dX8_fixing_108 : decode cX8_fixing 108 = .ok (.goto (-89), 3) := by decide +kernel
theorem dX8_fixing_111 : decode cX8_fixing 111 = .ok (.iload_n 2, 1) := by decide +kernel
theorem dX8_fixing_112 : decode cX8_fixing 112 = .ok (.ireturn, 1) := by decide +kernel
set_option maxRecDepth 20000 in
theorem ggX8_fixing_X8_in : GoodIn wsX8_fixing wsX8_in := goodIn_r _ [6] (by decide +kernel) (by decide +kernel)
set_option maxRecDepth 20000 in
theorem gX8_fixing_X8_in : GoodIn wsX8_fixing (va_wsS RX8 58 yX8_in wsX8_in) := goodIn_app (goodIn_of _ (by decide +kernel)) ggX8_fixing_X8_in
set_option maxRecDepth 20000 in
theorem ggX8_fixing_X8_goes : GoodIn wsX8_fixing wsX8_goes := goodIn_r _ [10, 11, 12, 13, 14, 15, 16, 17, 18, 19, 20, 21, 22, 23, 24, 25, 26, 27, 28] (by decide +kernel) (by decide +kernel)
set_option maxRecDepth 20000 in
theorem gX8_fixing_X8_goes : GoodIn wsX8_fixing (wsV RX8 73 RX8 yX8_goes wsX8_goes) := goodIn_app (goodIn_of _ (by decide +kernel)) ggX8_fixing_X8_goes
theorem in_X8_fixing_CanonCoteModel : ∀ w ∈ u_ws RX8 TX8 17, w ∈ wsX8_fixing := by decide +kernel
theorem wd_X8_fixing_1 : Cond.fieldLink RX8 153 (TX8 14).1 (TX8 14).2.1 (TX8 14).2.2.1 ∈ wsX8_fixing := by decide +kernel
theorem wd_X8_fixing_2 : Cond.fieldLink RX8 41 (TX8 12).1 (TX8 12).2.1 (TX8 12).2.2.1 ∈ wsX8_fixing := by decide +kernel
def r_X8_fixing : Room := { frames := 2, cells := 0, slots := 0, locals := 34 }
set_option maxRecDepth 100000 in
set_option maxHeartbeats 4000000 in
theorem w_X8_fixing_84 {K : zK} (hk : zIs K RX8 cX8_fixing 7 wsX8_fixing (some .int) r_X8_fixing) {r0 : Int32} {τ0 : zST} (hq : zQ K (some (.int r0)) τ0) (F : Nat) (k19 : Nat → Int32 → Int32 → Int32 → Int32 → zST → Option (Int32 × zST)) (hk19 : ∀ (a0 : Nat) (a1 : Int32) (a2 : Int32) (a3 : Int32) (a4 : Int32) (ha0 : atCanonCoteModel (kZ K) a0) (σ : zST), k19 a0 a1 a2 a3 a4 σ = some (r0, τ0) → Z K 0 0 19 [(0, .ref (eA (kZ K) a0)), (1, .int a1), (2, .int a2), (3, .int a3), (4, .int a4)] [] σ) (k38 : Nat → Int32 → Int32 → Int32 → Int32 → Int32 → Int32 → zST → Option (Int32 × zST)) (hk38 : ∀ (a0 : Nat) (a1 : Int32) (a2 : Int32) (a3 : Int32) (a4 : Int32) (a5 : Int32) (a6 : Int32) (ha0 : atCanonCoteModel (kZ K) a0) (σ : zST), k38 a0 a1 a2 a3 a4 a5 a6 σ = some (r0, τ0) → Z K 0 0 38 [(0, .ref (eA (kZ K) a0)), (1, .int a1), (2, .int a2), (3, .int a3), (4, .int a4), (5, .int a5), (6, .int a6)] [] σ) (a0 : Nat) (a1 : Int32) (a2 : Int32) (a3 : Int32) (a4 : Int32) (a6 : Int32) (t0 : Int32) (ha0 : atCanonCoteModel (kZ K) a0) (σ : zST) (h : m_X8_fixing_84 F k19 k38 a0 a1 a2 a3 a4 a6 t0 σ = some (r0, τ0)) : Z K 0 0 84 [(0, .ref (eA (kZ K) a0)), (1, .int a1), (2, .int a2), (3, .int a3), (4, .int a4), (6, .int a6)] [.int t0] σ := by
  unfold m_X8_fixing_84 at h
  refine Z_istore hk (lv' := [(5, .int t0), (0, .ref (eA (kZ K) a0)), (1, .int a1), (2, .int a2), (3, .int a3), (4, .int a4), (6, .int a6)]) dX8_fixing_84 (by decide) rfl ?_
  obtain ⟨x21, e22, h⟩ := nm_get h
  refine Z_iinc hk 6 (v := x21) (lv' := [(6, .int x21), (5, .int t0), (0, .ref (eA (kZ K) a0)), (1, .int a1), (2, .int a2), (3, .int a3), (4, .int a4)]) dX8_fixing_86 rfl (by rw [zc_iinc_1]; exact e22) (by decide) rfl ?_
  refine Z_goto hk (tgt := 38) dX8_fixing_89 (by decide) ?_
  refine Z_sub [2, 3, 4, 5, 6, 1, 0] rfl ?_
  exact hk38 a0 a1 a2 a3 a4 t0 x21 ha0 σ h
set_option maxRecDepth 100000 in
set_option maxHeartbeats 4000000 in
theorem w_X8_fixing_79 {K : zK} (hk : zIs K RX8 cX8_fixing 7 wsX8_fixing (some .int) r_X8_fixing) {r0 : Int32} {τ0 : zST} (hq : zQ K (some (.int r0)) τ0) (F : Nat) (k19 : Nat → Int32 → Int32 → Int32 → Int32 → zST → Option (Int32 × zST)) (hk19 : ∀ (a0 : Nat) (a1 : Int32) (a2 : Int32) (a3 : Int32) (a4 : Int32) (ha0 : atCanonCoteModel (kZ K) a0) (σ : zST), k19 a0 a1 a2 a3 a4 σ = some (r0, τ0) → Z K 0 0 19 [(0, .ref (eA (kZ K) a0)), (1, .int a1), (2, .int a2), (3, .int a3), (4, .int a4)] [] σ) (k38 : Nat → Int32 → Int32 → Int32 → Int32 → Int32 → Int32 → zST → Option (Int32 × zST)) (hk38 : ∀ (a0 : Nat) (a1 : Int32) (a2 : Int32) (a3 : Int32) (a4 : Int32) (a5 : Int32) (a6 : Int32) (ha0 : atCanonCoteModel (kZ K) a0) (σ : zST), k38 a0 a1 a2 a3 a4 a5 a6 σ = some (r0, τ0) → Z K 0 0 38 [(0, .ref (eA (kZ K) a0)), (1, .int a1), (2, .int a2), (3, .int a3), (4, .int a4), (5, .int a5), (6, .int a6)] [] σ) (a0 : Nat) (a1 : Int32) (a2 : Int32) (a3 : Int32) (a4 : Int32) (a6 : Int32) (ha0 : atCanonCoteModel (kZ K) a0) (σ : zST) (h : m_X8_fixing_79 F k19 k38 a0 a1 a2 a3 a4 a6 σ = some (r0, τ0)) : Z K 0 0 79 [(0, .ref (eA (kZ K) a0)), (1, .int a1), (2, .int a2), (3, .int a3), (4, .int a4), (6, .int a6)] [] σ := by
  unfold m_X8_fixing_79 at h
  refine Z_iconst hk dX8_fixing_79 zc_iconst_1 ?_
  refine Z_goto hk (tgt := 84) dX8_fixing_80 (by decide) ?_
  refine Z_sub [0, 1, 2, 3, 4, 5] rfl ?_
  exact w_X8_fixing_84 hk hq F k19 hk19 k38 hk38 a0 a1 a2 a3 a4 a6 1 ha0 σ h
set_option maxRecDepth 100000 in
set_option maxHeartbeats 4000000 in
theorem w_X8_fixing_83 {K : zK} (hk : zIs K RX8 cX8_fixing 7 wsX8_fixing (some .int) r_X8_fixing) {r0 : Int32} {τ0 : zST} (hq : zQ K (some (.int r0)) τ0) (F : Nat) (k19 : Nat → Int32 → Int32 → Int32 → Int32 → zST → Option (Int32 × zST)) (hk19 : ∀ (a0 : Nat) (a1 : Int32) (a2 : Int32) (a3 : Int32) (a4 : Int32) (ha0 : atCanonCoteModel (kZ K) a0) (σ : zST), k19 a0 a1 a2 a3 a4 σ = some (r0, τ0) → Z K 0 0 19 [(0, .ref (eA (kZ K) a0)), (1, .int a1), (2, .int a2), (3, .int a3), (4, .int a4)] [] σ) (k38 : Nat → Int32 → Int32 → Int32 → Int32 → Int32 → Int32 → zST → Option (Int32 × zST)) (hk38 : ∀ (a0 : Nat) (a1 : Int32) (a2 : Int32) (a3 : Int32) (a4 : Int32) (a5 : Int32) (a6 : Int32) (ha0 : atCanonCoteModel (kZ K) a0) (σ : zST), k38 a0 a1 a2 a3 a4 a5 a6 σ = some (r0, τ0) → Z K 0 0 38 [(0, .ref (eA (kZ K) a0)), (1, .int a1), (2, .int a2), (3, .int a3), (4, .int a4), (5, .int a5), (6, .int a6)] [] σ) (a0 : Nat) (a1 : Int32) (a2 : Int32) (a3 : Int32) (a4 : Int32) (a6 : Int32) (ha0 : atCanonCoteModel (kZ K) a0) (σ : zST) (h : m_X8_fixing_83 F k19 k38 a0 a1 a2 a3 a4 a6 σ = some (r0, τ0)) : Z K 0 0 83 [(0, .ref (eA (kZ K) a0)), (1, .int a1), (2, .int a2), (3, .int a3), (4, .int a4), (6, .int a6)] [] σ := by
  unfold m_X8_fixing_83 at h
  refine Z_iconst hk dX8_fixing_83 zc_iconst_0 ?_
  refine Z_sub [0, 1, 2, 3, 4, 5] rfl ?_
  exact w_X8_fixing_84 hk hq F k19 hk19 k38 hk38 a0 a1 a2 a3 a4 a6 0 ha0 σ h
set_option maxRecDepth 100000 in
set_option maxHeartbeats 4000000 in
theorem w_X8_fixing_103 {K : zK} (hk : zIs K RX8 cX8_fixing 7 wsX8_fixing (some .int) r_X8_fixing) {r0 : Int32} {τ0 : zST} (hq : zQ K (some (.int r0)) τ0) (F : Nat) (k19 : Nat → Int32 → Int32 → Int32 → Int32 → zST → Option (Int32 × zST)) (hk19 : ∀ (a0 : Nat) (a1 : Int32) (a2 : Int32) (a3 : Int32) (a4 : Int32) (ha0 : atCanonCoteModel (kZ K) a0) (σ : zST), k19 a0 a1 a2 a3 a4 σ = some (r0, τ0) → Z K 0 0 19 [(0, .ref (eA (kZ K) a0)), (1, .int a1), (2, .int a2), (3, .int a3), (4, .int a4)] [] σ) (a0 : Nat) (a1 : Int32) (a3 : Int32) (a4 : Int32) (t0 : Int32) (t1 : Int32) (ha0 : atCanonCoteModel (kZ K) a0) (σ : zST) (h : m_X8_fixing_103 F k19 a0 a1 a3 a4 t0 t1 σ = some (r0, τ0)) : Z K 0 0 103 [(0, .ref (eA (kZ K) a0)), (1, .int a1), (3, .int a3), (4, .int a4)] [.int t0, .int t1] σ := by
  unfold m_X8_fixing_103 at h
  refine Z_iadd hk dX8_fixing_103 ?_
  obtain ⟨x17, e18, h⟩ := nm_get h
  refine Z_eqI e18 ?_
  refine Z_istore_n hk (lv' := [(2, .int x17), (0, .ref (eA (kZ K) a0)), (1, .int a1), (3, .int a3), (4, .int a4)]) dX8_fixing_104 rfl (by decide) rfl ?_
  obtain ⟨x19, e20, h⟩ := nm_get h
  refine Z_iinc hk 4 (v := x19) (lv' := [(4, .int x19), (2, .int x17), (0, .ref (eA (kZ K) a0)), (1, .int a1), (3, .int a3)]) dX8_fixing_105 rfl (by rw [zc_iinc_1]; exact e20) (by decide) rfl ?_
  refine Z_goto hk (tgt := 19) dX8_fixing_108 (by decide) ?_
  refine Z_sub [2, 3, 1, 4, 0] rfl ?_
  exact hk19 a0 a1 x17 a3 x19 ha0 σ h
set_option maxRecDepth 100000 in
set_option maxHeartbeats 4000000 in
theorem w_X8_fixing_38 {K : zK} (hk : zIs K RX8 cX8_fixing 7 wsX8_fixing (some .int) r_X8_fixing) {r0 : Int32} {τ0 : zST} (hq : zQ K (some (.int r0)) τ0) (F : Nat) (k19 : Nat → Int32 → Int32 → Int32 → Int32 → zST → Option (Int32 × zST)) (hk19 : ∀ (a0 : Nat) (a1 : Int32) (a2 : Int32) (a3 : Int32) (a4 : Int32) (ha0 : atCanonCoteModel (kZ K) a0) (σ : zST), k19 a0 a1 a2 a3 a4 σ = some (r0, τ0) → Z K 0 0 19 [(0, .ref (eA (kZ K) a0)), (1, .int a1), (2, .int a2), (3, .int a3), (4, .int a4)] [] σ) : ∀ (n : Nat) (a0 : Nat) (a1 : Int32) (a2 : Int32) (a3 : Int32) (a4 : Int32) (a5 : Int32) (a6 : Int32) (ha0 : atCanonCoteModel (kZ K) a0) (σ : zST), m_X8_fixing_38 F k19 n a0 a1 a2 a3 a4 a5 a6 σ = some (r0, τ0) → Z K 0 0 38 [(0, .ref (eA (kZ K) a0)), (1, .int a1), (2, .int a2), (3, .int a3), (4, .int a4), (5, .int a5), (6, .int a6)] [] σ := by
  intro n
  induction n with
  | zero => intro a0 a1 a2 a3 a4 a5 a6 ha0 σ h; cases h
  | succ n ih =>
    intro a0 a1 a2 a3 a4 a5 a6 ha0 σ h
    rw [m_X8_fixing_38] at h
    refine Z_iload hk 6 dX8_fixing_38 rfl ?_
    refine Z_bipush hk dX8_fixing_40 zc_bipush_8 ?_
    refine Z_icmp_ge hk (tgt := 92) dX8_fixing_42 (by decide) (fun c9 => ?_) (fun c9 => ?_)
    · have h := if_yes h c9
      refine Z_iload_n hk 2 dX8_fixing_92 rfl rfl ?_
      refine Z_iload hk 5 dX8_fixing_93 rfl ?_
      refine Z_if_eq hk (tgt := 102) dX8_fixing_95 (by decide) (fun c10 => ?_) (fun c10 => ?_)
      · have h := if_yes h c10
        refine Z_iconst hk dX8_fixing_102 zc_iconst_0 ?_
        refine Z_sub [0, 1, 3, 4] rfl ?_
        exact w_X8_fixing_103 hk hq F k19 hk19 a0 a1 a3 a4 0 a2 ha0 σ h
      · have h := if_no h c10
        refine Z_iconst hk dX8_fixing_98 zc_iconst_1 ?_
        refine Z_goto hk (tgt := 103) dX8_fixing_99 (by decide) ?_
        refine Z_sub [0, 1, 3, 4] rfl ?_
        exact w_X8_fixing_103 hk hq F k19 hk19 a0 a1 a3 a4 1 a2 ha0 σ h
    · have h := if_no h c9
      refine Z_iload hk 5 dX8_fixing_45 rfl ?_
      refine Z_if_eq hk (tgt := 83) dX8_fixing_47 (by decide) (fun c11 => ?_) (fun c11 => ?_)
      · have h := if_yes h c11
        refine Z_sub [0, 1, 2, 3, 4, 6] rfl ?_
        exact w_X8_fixing_83 hk hq F k19 hk19 (m_X8_fixing_38 F k19 n) ih a0 a1 a2 a3 a4 a6 ha0 σ h
      · have h := if_no h c11
        refine Z_iload_n hk 1 dX8_fixing_50 rfl rfl ?_
        refine Z_iload hk 6 dX8_fixing_51 rfl ?_
        refine Z_ishr hk dX8_fixing_53 ?_
        refine Z_iconst hk dX8_fixing_54 zc_iconst_1 ?_
        refine Z_iand hk dX8_fixing_55 ?_
        refine Z_if_eq hk (tgt := 79) dX8_fixing_56 (by decide) (fun c12 => ?_) (fun c12 => ?_)
        · have h := if_yes h c12
          refine Z_sub [0, 1, 2, 3, 4, 6] rfl ?_
          exact w_X8_fixing_79 hk hq F k19 hk19 (m_X8_fixing_38 F k19 n) ih a0 a1 a2 a3 a4 a6 ha0 σ h
        · have h := if_no h c12
          refine Z_aload_n hk 0 dX8_fixing_59 rfl rfl ?_
          refine Z_get hk in_X8_fixing_CanonCoteModel rfl ha0.cell.1 (ha0.cell.2 _) 12 (by decide) wd_X8_fixing_2 rfl dX8_fixing_60 ?_
          refine Z_iload hk 4 dX8_fixing_63 rfl ?_
          obtain ⟨i15, x13, e14, h⟩ := ldI_get h
          refine Z_iald hk (ha0.found) i15 dX8_fixing_65 ?_
          refine Z_eqI e14 ?_
          refine Z_iconst hk dX8_fixing_66 zc_iconst_3 ?_
          refine Z_iload hk 6 dX8_fixing_67 rfl ?_
          refine Z_imul hk dX8_fixing_69 ?_
          refine Z_ishr hk dX8_fixing_70 ?_
          refine Z_bipush hk dX8_fixing_71 zc_bipush_7 ?_
          refine Z_iand hk dX8_fixing_73 ?_
          refine Z_iload hk 6 dX8_fixing_74 rfl ?_
          refine Z_icmp_ne hk (tgt := 83) dX8_fixing_76 (by decide) (fun c16 => ?_) (fun c16 => ?_)
          · have h := if_yes h c16
            refine Z_sub [0, 1, 2, 3, 4, 6] rfl ?_
            exact w_X8_fixing_79 hk hq F k19 hk19 (m_X8_fixing_38 F k19 n) ih a0 a1 a2 a3 a4 a6 ha0 σ h
          · have h := if_no h c16
            refine Z_sub [0, 1, 2, 3, 4, 6] rfl ?_
            exact w_X8_fixing_83 hk hq F k19 hk19 (m_X8_fixing_38 F k19 n) ih a0 a1 a2 a3 a4 a6 ha0 σ h
set_option maxRecDepth 100000 in
set_option maxHeartbeats 4000000 in
theorem w_X8_fixing_111 {K : zK} (hk : zIs K RX8 cX8_fixing 7 wsX8_fixing (some .int) r_X8_fixing) {r0 : Int32} {τ0 : zST} (hq : zQ K (some (.int r0)) τ0) (F : Nat) (a2 : Int32) (σ : zST) (h : m_X8_fixing_111 F a2 σ = some (r0, τ0)) : Z K 0 0 111 [(2, .int a2)] [] σ := by
  unfold m_X8_fixing_111 at h
  refine Z_iload_n hk 0 dX8_fixing_111 rfl rfl ?_
  cases h
  exact Z_iret hk hq dX8_fixing_112
set_option maxRecDepth 100000 in
set_option maxHeartbeats 4000000 in
theorem w_X8_fixing_19 {K : zK} (hk : zIs K RX8 cX8_fixing 7 wsX8_fixing (some .int) r_X8_fixing) {r0 : Int32} {τ0 : zST} (hq : zQ K (some (.int r0)) τ0) (F : Nat) : ∀ (n : Nat) (a0 : Nat) (a1 : Int32) (a2 : Int32) (a3 : Int32) (a4 : Int32) (ha0 : atCanonCoteModel (kZ K) a0) (σ : zST), m_X8_fixing_19 F n a0 a1 a2 a3 a4 σ = some (r0, τ0) → Z K 0 0 19 [(0, .ref (eA (kZ K) a0)), (1, .int a1), (2, .int a2), (3, .int a3), (4, .int a4)] [] σ := by
  intro n
  induction n with
  | zero => intro a0 a1 a2 a3 a4 ha0 σ h; cases h
  | succ n ih =>
    intro a0 a1 a2 a3 a4 ha0 σ h
    rw [m_X8_fixing_19] at h
    refine Z_iload hk 4 dX8_fixing_19 rfl ?_
    refine Z_aload_n hk 0 dX8_fixing_21 rfl rfl ?_
    refine Z_get hk in_X8_fixing_CanonCoteModel rfl ha0.cell.1 (ha0.cell.2 _) 14 (by decide) wd_X8_fixing_1 rfl dX8_fixing_22 ?_
    refine Z_icmp_ge hk (tgt := 111) dX8_fixing_25 (by decide) (fun c7 => ?_) (fun c7 => ?_)
    · have h := if_yes h c7
      refine Z_sub [2] rfl ?_
      exact w_X8_fixing_111 hk hq F a2 σ h
    · have h := if_no h c7
      refine Z_iload_n hk 3 dX8_fixing_28 rfl rfl ?_
      refine Z_if_eq hk (tgt := 111) dX8_fixing_29 (by decide) (fun c8 => ?_) (fun c8 => ?_)
      · have h := if_yes h c8
        refine Z_sub [2] rfl ?_
        exact w_X8_fixing_111 hk hq F a2 σ h
      · have h := if_no h c8
        refine Z_iconst hk dX8_fixing_32 zc_iconst_1 ?_
        refine Z_istore hk (lv' := [(5, .int 1), (0, .ref (eA (kZ K) a0)), (1, .int a1), (2, .int a2), (3, .int a3), (4, .int a4)]) dX8_fixing_33 (by decide) rfl ?_
        refine Z_iconst hk dX8_fixing_35 zc_iconst_0 ?_
        refine Z_istore hk (lv' := [(6, .int 0), (5, .int 1), (0, .ref (eA (kZ K) a0)), (1, .int a1), (2, .int a2), (3, .int a3), (4, .int a4)]) dX8_fixing_36 (by decide) rfl ?_
        refine Z_sub [2, 3, 4, 5, 6, 1, 0] rfl ?_
        exact w_X8_fixing_38 hk hq F (m_X8_fixing_19 F n) ih F a0 a1 a2 a3 a4 1 0 ha0 σ h
set_option maxRecDepth 100000 in
set_option maxHeartbeats 4000000 in
theorem w_X8_fixing {K : zK} (hk : zIs K RX8 cX8_fixing 7 wsX8_fixing (some .int) r_X8_fixing) {r0 : Int32} {τ0 : zST} (hq : zQ K (some (.int r0)) τ0) (F : Nat) (a0 : Nat) (a1 : Int32) (ha0 : atCanonCoteModel (kZ K) a0) (σ : zST) (h : m_X8_fixing F a0 a1 σ = some (r0, τ0)) : Z K 0 0 0 [(0, .ref (eA (kZ K) a0)), (1, .int a1)] [] σ := by
  unfold m_X8_fixing at h
  refine Z_iconst hk dX8_fixing_0 zc_iconst_0 ?_
  refine Z_istore_n hk (lv' := [(2, .int 0), (0, .ref (eA (kZ K) a0)), (1, .int a1)]) dX8_fixing_1 rfl (by decide) rfl ?_
  refine Z_aload_n hk 1 dX8_fixing_2 rfl rfl ?_
  refine Z_iload_n hk 2 dX8_fixing_3 rfl rfl ?_
  refine Z_iconst hk dX8_fixing_4 zc_iconst_0 ?_
  refine Z_sipush hk dX8_fixing_5 zc_sipush_255 ?_
  obtain ⟨x1, s2, h3, h⟩ := bd_ok h
  refine Z_callT 3 hk [.int a1, .int 0, .int 255] (c_X8_in hk.loc hk.inj F a1 0 255 σ h3) gX8_fixing_X8_in rfl ⟨rfl, rfl⟩ (by decide +kernel) ⟨Nat.le_of_ble_eq_true rfl, Nat.le_of_ble_eq_true rfl⟩ rfl rfl (Nat.le_of_ble_eq_true rfl) ⟨Nat.zero_le _, Nat.zero_le _⟩ dX8_fixing_8 ?_
  show Z K 0 0 11 [(2, .int 0), (0, .ref (eA (kZ K) a0)), (1, .int a1)] [.int x1, .ref (eA (kZ K) a0)] s2
  refine Z_iconst hk dX8_fixing_11 zc_iconst_1 ?_
  obtain ⟨x4, s5, h6, h⟩ := bd_ok h
  refine Z_callV 2 hk [.int x1, .int 1] (c_X8_goes hk.loc hk.inj F a0 x1 1 ha0 s2 h6) gX8_fixing_X8_goes rfl ⟨rfl, rfl⟩ (by decide +kernel) ⟨Nat.le_of_ble_eq_true rfl, Nat.le_of_ble_eq_true rfl⟩ ha0.cell.1 (ha0.cell.2 _) rfl rfl rfl (Nat.le_of_ble_eq_true rfl) ⟨Nat.zero_le _, Nat.zero_le _⟩ dX8_fixing_12 ?_
  show Z K 0 0 15 [(2, .int 0), (0, .ref (eA (kZ K) a0)), (1, .int a1)] [.int x4] s5
  refine Z_istore_n hk (lv' := [(3, .int x4), (2, .int 0), (0, .ref (eA (kZ K) a0)), (1, .int a1)]) dX8_fixing_15 rfl (by decide) rfl ?_
  refine Z_iconst hk dX8_fixing_16 zc_iconst_0 ?_
  refine Z_istore hk (lv' := [(4, .int 0), (3, .int x4), (2, .int 0), (0, .ref (eA (kZ K) a0)), (1, .int a1)]) dX8_fixing_17 (by decide) rfl ?_
  refine Z_sub [3, 4, 2, 1, 0] rfl ?_
  exact w_X8_fixing_19 hk hq F F a0 a1 0 x4 0 ha0 s5 h
theorem c_X8_fixing {l : Launch} {E : zE} (hL : eL E) (hJ : eJ E) (F : Nat) (a0 : Nat) (a1 : Int32) (ha0 : atCanonCoteModel E a0) (σ : zST) {r0 : Int32} {τ0 : zST} (h : m_X8_fixing F a0 a1 σ = some (r0, τ0)) : Ct l yX8_fixing wsX8_fixing r_X8_fixing E [.ref (eA E a0), .int a1] σ (some (.int r0)) τ0 := by
  refine Ct_of (by decide) rfl hL hJ (Nat.le_of_ble_eq_true rfl) (fun K hE hl hk hq => ?_)
  subst hE
  exact w_X8_fixing hk hq F a0 a1 ha0 σ h
end
