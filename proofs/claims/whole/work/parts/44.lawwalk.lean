theorem zc_bipush_31 : (Int8.ofInt 31).toInt32 = (31 : Int32) := by decide +kernel
theorem zc_iinc_4 : Int32.ofInt 4 = (4 : Int32) := by decide +kernel
def R_law : String := "CanonCoteLaw"
def lw_P (b : Addr) (xs : List Int32) (args : Array Value) (s : State) : Prop := args = #[.ref b] ∧ s.IntsAt b xs ∧ xs.length ≤ 2048 ∧ (Jvm.Cond.and given_1 narrow_1).before args s = true
def lw_Q (_ : Array Value) (s : State) (o : Outcome) (t : State) : Prop := o = .returned (some (.int 1)) ∧ Framed s o t [] 601024 7293033
def lw_Z (below : List Frame) (a : Array Value) (s : State) : State → Prop := fun t => ∃ o, t.status = .running ∧ Ended t below o ∧ lw_Q a s o t
/-- the law's own end, with 1 on the stack, nothing written that was there before, its room as the claim has it -/
theorem lw_ret {p : Program} {l : Launch} {e : Env} {s : State} {m : MethodId} {below : List Frame} {meth : Method} {c : Code} {b : Nat} (hx : p.tables.exec = Jvm.exec) (hb : c.code = code) (hr : meth.sig.returnType = ret) (hlocks : meth.locks = false) {pc : Nat} {H : Heap} {ls : Array Slot} (hdg : decode code pc = .ok (.ireturn, 1)) : W p l e room_1 s m #[Value.ref b] below meth c H [] 601024 7293033 (lw_Z below #[Value.ref b] s) (F0 m pc ls [.int 1]) := by
  intro T hT X
  obtain ⟨fs, hret, hrun, hended, hW, hframe⟩ := X.leave (v := some (.int 1)) (hlocks := hlocks) (fun h => by rw [hr] at h; cases h)
  have hmeth' : T.vm.method? m = some meth := X.method'
  refine ⟨T.setFrames fs, ?_, .returned (some (.int 1)), hrun, hended, rfl, ⟨_, rfl⟩, hW, hframe⟩
  jvm_step X.here [X.here.top, hx, hb, hdg, hmeth', hr, ret, narrow_b1]
  (try refine ⟨rfl, ?_⟩); (try refine ⟨rfl, ?_⟩)
  first | (intro acts; rw [hret _ acts rfl rfl rfl]) | rw [hret _ _ rfl rfl rfl]
  exact Steps.refl _
/-- what holds at the law's entry: the machine, the code, the tables' words (any of lw_tbl by 'hts w (by decide +kernel)'), the script of L ints xs at the cell b, what the Statement gives of the start (any of its parts by flat_of_before) -/
def lw_At (p : Program) (s : State) (m : MethodId) (meth : Method) (c : Code) (b L : Nat) (xs : Nat → Int32) : Prop :=
  p.tables.exec = Jvm.exec ∧ c.code = code ∧ meth.sig.returnType = ret ∧ c.maxLocals = 8 ∧ s.vm.findClass R_law = some m.cls ∧ (∀ w ∈ lw_tbl, w.before #[Value.ref b] s = true) ∧ va_X b L xs s s.heap ∧ b < s.heap.size ∧ meth.locks = false ∧ (Jvm.Cond.and given_1 narrow_1).before #[Value.ref b] s = true
section ZW1
variable {K : zK} {own : String} {cc : ByteArray} {nL : Nat} {Ts : List Cond} {ret : Option FieldType} {rm : Room} {cs ss pc : Nat} {lv lv' : List (Nat × Value)} {st : List Value} {σ τ : zST}
def zSc (K : zK) (b L : Nat) (xs : Nat → Int32) : Prop := va_X b L xs (kS K) (kS K).heap ∧ b < (kS K).heap.size ∧ ¬ kO K b
theorem Z_sld (hk : zIs K own cc nL Ts ret rm) {b L : Nat} {xs : Nat → Int32} {i : Int32} (hsc : zSc K b L xs) (hin : vp_in i L) (d : decode cc pc = .ok (.iaload, 1)) (kk : Z K cs ss (pc + 1) lv (.int (xs i.toNatClampNeg) :: st) σ) : Z K cs ss pc lv (.int i :: .ref b :: st) σ :=
  fun H locs ls hP hS hl => va_sld hk.exec hk.code hsc.1 hsc.2.1 hsc.2.2 hS hin d (kk H locs ls hP hS hl)
theorem Z_slen (hk : zIs K own cc nL Ts ret rm) {b L : Nat} {xs : Nat → Int32} (hsc : zSc K b L xs) (d : decode cc pc = .ok (.arraylength, 1)) (kk : Z K cs ss (pc + 1) lv (.int (nI L) :: st) σ) : Z K cs ss pc lv (.ref b :: st) σ :=
  fun H locs ls hP hS hl => va_slen hk.exec hk.code hsc.1 hsc.2.1 hsc.2.2 hS d (kk H locs ls hP hS hl)
theorem Z_tswIn (hk : zIs K own cc nL Ts ret rm) {dflt lo hi : Int} {offs : Array Int} {len : Nat} {x v : Int32} {off : Int} {tgt : Nat} (d : decode cc pc = .ok (.tableswitch dflt lo hi offs, len)) (hx : x = v) (h1 : ¬ v.toInt < lo) (h2 : ¬ hi < v.toInt) (ho : offs[(v.toInt - lo).toNat]? = some off) (ht : (pc : Int) + off = (tgt : Int)) (kk : Z K cs ss tgt lv st σ) : Z K cs ss pc lv (.int x :: st) σ := by
  subst hx
  exact fun H locs ls hP hS hl => lv_tableIn hk.exec hk.code d h1 h2 ho ht (kk H locs ls hP hS hl)
theorem Z_tswOut (hk : zIs K own cc nL Ts ret rm) {dflt lo hi : Int} {offs : Array Int} {len : Nat} {x : Int32} {tgt : Nat} (d : decode cc pc = .ok (.tableswitch dflt lo hi offs, len)) (h : x.toInt < lo ∨ hi < x.toInt) (ht : (pc : Int) + dflt = (tgt : Int)) (kk : Z K cs ss tgt lv st σ) : Z K cs ss pc lv (.int x :: st) σ :=
  fun H locs ls hP hS hl => lv_tableOut hk.exec hk.code d h ht (kk H locs ls hP hS hl)
end ZW1
theorem tsw_out {y : Int32} (h0 : ¬ y = 0) (h1 : ¬ y = 1) (h2 : ¬ y = 2) (h3 : ¬ y = 3) (h4 : ¬ y = 4) (h5 : ¬ y = 5) (h6 : ¬ y = 6) (h7 : ¬ y = 7) (h8 : ¬ y = 8) (h9 : ¬ y = 9) (h10 : ¬ y = 10) (h11 : ¬ y = 11) (h12 : ¬ y = 12) (h13 : ¬ y = 13) (h14 : ¬ y = 14) (h15 : ¬ y = 15) (h16 : ¬ y = 16) (h17 : ¬ y = 17) (h18 : ¬ y = 18) (h19 : ¬ y = 19) (h20 : ¬ y = 20) (h21 : ¬ y = 21) (h22 : ¬ y = 22) (h23 : ¬ y = 23) (h24 : ¬ y = 24) (h25 : ¬ y = 25) (h26 : ¬ y = 26) : y.toInt < 0 ∨ 26 < y.toInt := by
  have g0 : ¬ y.toInt = 0 := fun e => h0 (Int32.toInt_inj.mp (e.trans (by decide +kernel)))
  have g1 : ¬ y.toInt = 1 := fun e => h1 (Int32.toInt_inj.mp (e.trans (by decide +kernel)))
  have g2 : ¬ y.toInt = 2 := fun e => h2 (Int32.toInt_inj.mp (e.trans (by decide +kernel)))
  have g3 : ¬ y.toInt = 3 := fun e => h3 (Int32.toInt_inj.mp (e.trans (by decide +kernel)))
  have g4 : ¬ y.toInt = 4 := fun e => h4 (Int32.toInt_inj.mp (e.trans (by decide +kernel)))
  have g5 : ¬ y.toInt = 5 := fun e => h5 (Int32.toInt_inj.mp (e.trans (by decide +kernel)))
  have g6 : ¬ y.toInt = 6 := fun e => h6 (Int32.toInt_inj.mp (e.trans (by decide +kernel)))
  have g7 : ¬ y.toInt = 7 := fun e => h7 (Int32.toInt_inj.mp (e.trans (by decide +kernel)))
  have g8 : ¬ y.toInt = 8 := fun e => h8 (Int32.toInt_inj.mp (e.trans (by decide +kernel)))
  have g9 : ¬ y.toInt = 9 := fun e => h9 (Int32.toInt_inj.mp (e.trans (by decide +kernel)))
  have g10 : ¬ y.toInt = 10 := fun e => h10 (Int32.toInt_inj.mp (e.trans (by decide +kernel)))
  have g11 : ¬ y.toInt = 11 := fun e => h11 (Int32.toInt_inj.mp (e.trans (by decide +kernel)))
  have g12 : ¬ y.toInt = 12 := fun e => h12 (Int32.toInt_inj.mp (e.trans (by decide +kernel)))
  have g13 : ¬ y.toInt = 13 := fun e => h13 (Int32.toInt_inj.mp (e.trans (by decide +kernel)))
  have g14 : ¬ y.toInt = 14 := fun e => h14 (Int32.toInt_inj.mp (e.trans (by decide +kernel)))
  have g15 : ¬ y.toInt = 15 := fun e => h15 (Int32.toInt_inj.mp (e.trans (by decide +kernel)))
  have g16 : ¬ y.toInt = 16 := fun e => h16 (Int32.toInt_inj.mp (e.trans (by decide +kernel)))
  have g17 : ¬ y.toInt = 17 := fun e => h17 (Int32.toInt_inj.mp (e.trans (by decide +kernel)))
  have g18 : ¬ y.toInt = 18 := fun e => h18 (Int32.toInt_inj.mp (e.trans (by decide +kernel)))
  have g19 : ¬ y.toInt = 19 := fun e => h19 (Int32.toInt_inj.mp (e.trans (by decide +kernel)))
  have g20 : ¬ y.toInt = 20 := fun e => h20 (Int32.toInt_inj.mp (e.trans (by decide +kernel)))
  have g21 : ¬ y.toInt = 21 := fun e => h21 (Int32.toInt_inj.mp (e.trans (by decide +kernel)))
  have g22 : ¬ y.toInt = 22 := fun e => h22 (Int32.toInt_inj.mp (e.trans (by decide +kernel)))
  have g23 : ¬ y.toInt = 23 := fun e => h23 (Int32.toInt_inj.mp (e.trans (by decide +kernel)))
  have g24 : ¬ y.toInt = 24 := fun e => h24 (Int32.toInt_inj.mp (e.trans (by decide +kernel)))
  have g25 : ¬ y.toInt = 25 := fun e => h25 (Int32.toInt_inj.mp (e.trans (by decide +kernel)))
  have g26 : ¬ y.toInt = 26 := fun e => h26 (Int32.toInt_inj.mp (e.trans (by decide +kernel)))
  omega
def zQL (K : zK) (b : Nat) (r0 : Int32) : Prop := r0 = 1 ∧ kQ K = lw_Z (kB K) #[Value.ref b] (kS K) ∧ kA K = #[Value.ref b] ∧ ∀ q, kO K q → (kS K).heap.size ≤ q
theorem Z_lawret {K : zK} {cs ss pc : Nat} {lv : List (Nat × Value)} {σ : zST} (hk : zIs K RL cL_law 8 wsL_law (some .boolean) room_1) {b : Nat} {r0 : Int32} (hq : zQL K b r0) (hc : cs ≤ 601024 ∧ ss ≤ 7293033) (d : decode cL_law pc = .ok (.ireturn, 1)) : Z K cs ss pc lv [.int 1] σ := by
  intro H locs ls hP hS hl
  obtain ⟨-, h1, h2, h3⟩ := hq
  unfold kW
  rw [h1, h2, hk.room]
  refine va_forget (fun q hq => h3 _ (hS.2.2 q hq)) ?_
  refine W.widen (k := 601024) (n := 7293033) hc.1 hc.2 ?_
  exact lw_ret hk.exec hk.code hk.rt hk.nolock d
set_option maxRecDepth 100000 in
set_option maxHeartbeats 4000000 in
theorem w_L_law_1834 {K : zK} {b L : Nat} {xs : Nat → Int32} (hsc : zSc K b L xs) (cs ss : Nat) (hc1 : cs + 5 ≤ 601024) (hc2 : ss + 30 ≤ 7293033) (hk : zIs K RL cL_law 8 wsL_law (some .boolean) room_1) (hfl : (kL K).stackTraces = false) {r0 : Int32} {τ0 : zST} (hq : zQL K b r0) (F : Nat) (k23 : Nat → Nat → Nat → Int32 → zST → Option (Int32 × zST)) (hk23 : ∀ (a1 : Nat) (a2 : Nat) (a3 : Nat) (a4 : Int32) (ha1 : atCanonCote (kZ K) a1) (ha2 : atCanonCoteModel (kZ K) a2) (ha3 : aJ (kZ K) a3 1) (σ : zST), k23 a1 a2 a3 a4 σ = some (r0, τ0) → Z K (cs + 5) (ss + 30) 23 [(0, .ref b), (1, .ref (eA (kZ K) a1)), (2, .ref (eA (kZ K) a2)), (3, .ref (eA (kZ K) a3)), (4, .int a4)] [] σ) (a1 : Nat) (a2 : Nat) (a3 : Nat) (a4 : Int32) (ha1 : atCanonCote (kZ K) a1) (ha2 : atCanonCoteModel (kZ K) a2) (ha3 : aJ (kZ K) a3 1) (σ : zST) (h : m_L_law_1834 F L xs k23 a1 a2 a3 a4 σ = some (r0, τ0)) : Z K (cs + 5) (ss + 30) 1834 [(0, .ref b), (1, .ref (eA (kZ K) a1)), (2, .ref (eA (kZ K) a2)), (3, .ref (eA (kZ K) a3)), (4, .int a4)] [] σ := by
  unfold m_L_law_1834 at h
  obtain ⟨x675, e676, h⟩ := nm_get h
  refine Z_iinc hk 4 (v := x675) (lv' := [(4, .int x675), (0, .ref b), (1, .ref (eA (kZ K) a1)), (2, .ref (eA (kZ K) a2)), (3, .ref (eA (kZ K) a3))]) dL_law_1834 rfl (by rw [zc_iinc_4]; exact e676) (by decide) rfl ?_
  refine Z_goto hk (tgt := 23) dL_law_1837 (by decide) ?_
  refine Z_sub [1, 2, 3, 4, 0] rfl ?_
  exact hk23 a1 a2 a3 x675 ha1 ha2 ha3 σ h
set_option maxRecDepth 100000 in
set_option maxHeartbeats 4000000 in
theorem w_L_law_225 {K : zK} {b L : Nat} {xs : Nat → Int32} (hsc : zSc K b L xs) (cs ss : Nat) (hc1 : cs + 5 ≤ 601024) (hc2 : ss + 30 ≤ 7293033) (hk : zIs K RL cL_law 8 wsL_law (some .boolean) room_1) (hfl : (kL K).stackTraces = false) {r0 : Int32} {τ0 : zST} (hq : zQL K b r0) (F : Nat) (k23 : Nat → Nat → Nat → Int32 → zST → Option (Int32 × zST)) (hk23 : ∀ (a1 : Nat) (a2 : Nat) (a3 : Nat) (a4 : Int32) (ha1 : atCanonCote (kZ K) a1) (ha2 : atCanonCoteModel (kZ K) a2) (ha3 : aJ (kZ K) a3 1) (σ : zST), k23 a1 a2 a3 a4 σ = some (r0, τ0) → Z K (cs + 5) (ss + 30) 23 [(0, .ref b), (1, .ref (eA (kZ K) a1)), (2, .ref (eA (kZ K) a2)), (3, .ref (eA (kZ K) a3)), (4, .int a4)] [] σ) (a1 : Nat) (a2 : Nat) (a3 : Nat) (a4 : Int32) (ha1 : atCanonCote (kZ K) a1) (ha2 : atCanonCoteModel (kZ K) a2) (ha3 : aJ (kZ K) a3 1) (σ : zST) (h : m_L_law_225 F L xs k23 a1 a2 a3 a4 σ = some (r0, τ0)) : Z K (cs + 5) (ss + 30) 225 [(0, .ref b), (1, .ref (eA (kZ K) a1)), (2, .ref (eA (kZ K) a2)), (3, .ref (eA (kZ K) a3)), (4, .int a4)] [] σ := by
  unfold m_L_law_225 at h
  refine Z_goto hk (tgt := 1834) dL_law_225 (by decide) ?_
  refine Z_sub [0, 1, 2, 3, 4] rfl ?_
  exact w_L_law_1834 hsc cs ss hc1 hc2 hk hfl hq F k23 hk23 a1 a2 a3 a4 ha1 ha2 ha3 σ h
set_option maxRecDepth 100000 in
set_option maxHeartbeats 4000000 in
theorem w_L_law_160 {K : zK} {b L : Nat} {xs : Nat → Int32} (hsc : zSc K b L xs) (cs ss : Nat) (hc1 : cs + 5 ≤ 601024) (hc2 : ss + 30 ≤ 7293033) (hk : zIs K RL cL_law 8 wsL_law (some .boolean) room_1) (hfl : (kL K).stackTraces = false) {r0 : Int32} {τ0 : zST} (hq : zQL K b r0) (F : Nat) (k23 : Nat → Nat → Nat → Int32 → zST → Option (Int32 × zST)) (hk23 : ∀ (a1 : Nat) (a2 : Nat) (a3 : Nat) (a4 : Int32) (ha1 : atCanonCote (kZ K) a1) (ha2 : atCanonCoteModel (kZ K) a2) (ha3 : aJ (kZ K) a3 1) (σ : zST), k23 a1 a2 a3 a4 σ = some (r0, τ0) → Z K (cs + 5) (ss + 30) 23 [(0, .ref b), (1, .ref (eA (kZ K) a1)), (2, .ref (eA (kZ K) a2)), (3, .ref (eA (kZ K) a3)), (4, .int a4)] [] σ) (a1 : Nat) (a2 : Nat) (a3 : Nat) (a4 : Int32) (ha1 : atCanonCote (kZ K) a1) (ha2 : atCanonCoteModel (kZ K) a2) (ha3 : aJ (kZ K) a3 1) (σ : zST) (h : m_L_law_160 F L xs k23 a1 a2 a3 a4 σ = some (r0, τ0)) : Z K cs ss 160 [(0, .ref b), (1, .ref (eA (kZ K) a1)), (2, .ref (eA (kZ K) a2)), (3, .ref (eA (kZ K) a3)), (4, .int a4)] [] σ := by
  unfold m_L_law_160 at h
  refine Z_aload_n hk 1 dL_law_160 rfl rfl ?_
  refine Z_aload_n hk 0 dL_law_161 rfl rfl ?_
  refine Z_iload hk 4 dL_law_162 rfl ?_
  refine Z_iconst hk dL_law_164 zc_iconst_1 ?_
  refine Z_iadd hk dL_law_165 ?_
  obtain ⟨i9, x7, e8, h⟩ := ldT_get h
  refine Z_sld hk hsc i9 dL_law_166 ?_
  refine Z_eqI e8 ?_
  refine Z_aload_n hk 0 dL_law_167 rfl rfl ?_
  refine Z_iload hk 4 dL_law_168 rfl ?_
  refine Z_iconst hk dL_law_170 zc_iconst_2 ?_
  refine Z_iadd hk dL_law_171 ?_
  obtain ⟨i12, x10, e11, h⟩ := ldT_get h
  refine Z_sld hk hsc i12 dL_law_172 ?_
  refine Z_eqI e11 ?_
  refine Z_aload_n hk 3 dL_law_173 rfl rfl ?_
  obtain ⟨x13, s14, h15, h⟩ := bd_ok h
  · refine ZX_callW 4 hk [.ref (eA (kZ K) a1), .int x7, .int x10, .ref (eA (kZ K) a3)] (c_L_begin hk.loc hk.inj hfl F 1 a1 x7 x10 a3 ha1 ha3 σ h15) gL_law_L_begin rfl ⟨by decide +kernel, by decide +kernel, by decide +kernel⟩ ⟨Nat.le_of_ble_eq_true rfl, Nat.le_of_ble_eq_true rfl⟩ rfl rfl (Nat.le_of_ble_eq_true rfl) ⟨by show cs + 0 + 2 ≤ 601024; omega, by show ss + 0 + 12 ≤ 7293033; omega⟩ dL_law_174 (fun X hX => by cases hX) (fun v hv => ?_)
    cases hv
    show Z K (cs + 2) (ss + 12) 177 [(0, .ref b), (1, .ref (eA (kZ K) a1)), (2, .ref (eA (kZ K) a2)), (3, .ref (eA (kZ K) a3)), (4, .int a4)] [.int x13] s14
    refine Z_istore hk (lv' := [(5, .int x13), (0, .ref b), (1, .ref (eA (kZ K) a1)), (2, .ref (eA (kZ K) a2)), (3, .ref (eA (kZ K) a3)), (4, .int a4)]) dL_law_177 (by decide) rfl ?_
    refine Z_aload_n hk 3 dL_law_179 rfl rfl ?_
    refine Z_aload_n hk 1 dL_law_180 rfl rfl ?_
    refine Z_iload hk 5 dL_law_181 rfl ?_
    refine Z_iconst hk dL_law_183 zc_iconst_1 ?_
    refine Z_iadd hk dL_law_184 ?_
    obtain ⟨i19, x17, e18, h⟩ := ldT_get h
    refine Z_sld hk hsc i19 dL_law_185 ?_
    refine Z_eqI e18 ?_
    refine Z_aload_n hk 1 dL_law_186 rfl rfl ?_
    refine Z_iload hk 5 dL_law_187 rfl ?_
    refine Z_iconst hk dL_law_189 zc_iconst_2 ?_
    refine Z_iadd hk dL_law_190 ?_
    obtain ⟨i22, x20, e21, h⟩ := ldT_get h
    refine Z_sld hk hsc i22 dL_law_191 ?_
    refine Z_eqI e21 ?_
    obtain ⟨x23, s24, h25, h⟩ := bd_ok h
    refine Z_callV 2 hk [.int x17, .int x20] (c_X8_begin hk.loc hk.inj F a2 x17 x20 ha2 s14 h25) gL_law_X8_begin rfl ⟨rfl, rfl⟩ (by decide +kernel) ⟨Nat.le_of_ble_eq_true rfl, Nat.le_of_ble_eq_true rfl⟩ ha2.cell.1 (ha2.cell.2 _) rfl rfl rfl (Nat.le_of_ble_eq_true rfl) ⟨by show cs + 2 + 0 ≤ 601024; omega, by show ss + 12 + 0 ≤ 7293033; omega⟩ dL_law_192 ?_
    show Z K (cs + 2) (ss + 12) 195 [(5, .int x13), (0, .ref b), (1, .ref (eA (kZ K) a1)), (2, .ref (eA (kZ K) a2)), (3, .ref (eA (kZ K) a3)), (4, .int a4)] [.int x23] s24
    refine Z_istore hk (lv' := [(6, .int x23), (5, .int x13), (0, .ref b), (1, .ref (eA (kZ K) a1)), (2, .ref (eA (kZ K) a2)), (3, .ref (eA (kZ K) a3)), (4, .int a4)]) dL_law_195 (by decide) rfl ?_
    refine Z_aload_n hk 4 dL_law_197 rfl rfl ?_
    obtain ⟨x26, s27, h28, h⟩ := bd_ok h
    refine Z_callV 0 hk [] (c_X8_thrown hk.loc hk.inj F a2 ha2 s24 h28) gL_law_X8_thrown rfl ⟨rfl, rfl⟩ (by decide +kernel) ⟨Nat.le_of_ble_eq_true rfl, Nat.le_of_ble_eq_true rfl⟩ ha2.cell.1 (ha2.cell.2 _) rfl rfl rfl (Nat.le_of_ble_eq_true rfl) ⟨by show cs + 2 + 0 ≤ 601024; omega, by show ss + 12 + 0 ≤ 7293033; omega⟩ dL_law_198 ?_
    show Z K (cs + 2) (ss + 12) 201 [(6, .int x23), (5, .int x13), (0, .ref b), (1, .ref (eA (kZ K) a1)), (2, .ref (eA (kZ K) a2)), (3, .ref (eA (kZ K) a3)), (4, .int a4)] [.int x26] s27
    refine Z_iload hk 1 dL_law_201 rfl ?_
    refine Z_icmp_eq hk (tgt := 208) dL_law_203 (by decide) (fun c29 => ?_) (fun c29 => ?_)
    · have h := if_yes h c29
      refine Z_iload hk 1 dL_law_208 rfl ?_
      refine Z_if_ne hk (tgt := 225) dL_law_210 (by decide) (fun c30 => ?_) (fun c30 => ?_)
      · have h := if_yes h c30
        refine Z_aload_n hk 5 dL_law_213 rfl rfl ?_
        refine Z_iconst hk dL_law_214 zc_iconst_0 ?_
        obtain ⟨i33, x31, e32, h⟩ := ldL_get h
        refine Z_lald hk ha3 i33 dL_law_215 ?_
        refine Z_eqL e32 ?_
        refine Z_iload hk 0 dL_law_216 rfl ?_
        refine Z_i2l hk dL_law_218 ?_
        refine Z_lcmp hk dL_law_219 ?_
        refine Z_if_eq hk (tgt := 225) dL_law_220 (by decide) (fun c34 => ?_) (fun c34 => ?_)
        · have h := if_yes h c34
          refine Z_sub [2, 3, 4, 5, 6] rfl ?_
          refine Z_widen (cs' := cs + 5) (ss' := ss + 30) (by omega) (by omega) ?_
          exact w_L_law_225 hsc cs ss hc1 hc2 hk hfl hq F k23 hk23 a1 a2 a3 a4 ha1 ha2 ha3 s27 h
        · have h := if_no h c34
          refine Z_iconst hk dL_law_223 zc_iconst_0 ?_
          cases h
          exact absurd hq.1 (by decide)
      · have h := if_no h c30
        refine Z_sub [2, 3, 4, 5, 6] rfl ?_
        refine Z_widen (cs' := cs + 5) (ss' := ss + 30) (by omega) (by omega) ?_
        exact w_L_law_225 hsc cs ss hc1 hc2 hk hfl hq F k23 hk23 a1 a2 a3 a4 ha1 ha2 ha3 s27 h
    · have h := if_no h c29
      refine Z_iconst hk dL_law_206 zc_iconst_0 ?_
      cases h
      exact absurd hq.1 (by decide)
set_option maxRecDepth 100000 in
set_option maxHeartbeats 4000000 in
theorem w_L_law_312 {K : zK} {b L : Nat} {xs : Nat → Int32} (hsc : zSc K b L xs) (cs ss : Nat) (hc1 : cs + 5 ≤ 601024) (hc2 : ss + 30 ≤ 7293033) (hk : zIs K RL cL_law 8 wsL_law (some .boolean) room_1) (hfl : (kL K).stackTraces = false) {r0 : Int32} {τ0 : zST} (hq : zQL K b r0) (F : Nat) (k23 : Nat → Nat → Nat → Int32 → zST → Option (Int32 × zST)) (hk23 : ∀ (a1 : Nat) (a2 : Nat) (a3 : Nat) (a4 : Int32) (ha1 : atCanonCote (kZ K) a1) (ha2 : atCanonCoteModel (kZ K) a2) (ha3 : aJ (kZ K) a3 1) (σ : zST), k23 a1 a2 a3 a4 σ = some (r0, τ0) → Z K (cs + 5) (ss + 30) 23 [(0, .ref b), (1, .ref (eA (kZ K) a1)), (2, .ref (eA (kZ K) a2)), (3, .ref (eA (kZ K) a3)), (4, .int a4)] [] σ) (a1 : Nat) (a2 : Nat) (a3 : Nat) (a4 : Int32) (ha1 : atCanonCote (kZ K) a1) (ha2 : atCanonCoteModel (kZ K) a2) (ha3 : aJ (kZ K) a3 1) (σ : zST) (h : m_L_law_312 F L xs k23 a1 a2 a3 a4 σ = some (r0, τ0)) : Z K (cs + 5) (ss + 30) 312 [(0, .ref b), (1, .ref (eA (kZ K) a1)), (2, .ref (eA (kZ K) a2)), (3, .ref (eA (kZ K) a3)), (4, .int a4)] [] σ := by
  unfold m_L_law_312 at h
  refine Z_goto hk (tgt := 1834) dL_law_312 (by decide) ?_
  refine Z_sub [0, 1, 2, 3, 4] rfl ?_
  exact w_L_law_1834 hsc cs ss hc1 hc2 hk hfl hq F k23 hk23 a1 a2 a3 a4 ha1 ha2 ha3 σ h
set_option maxRecDepth 100000 in
set_option maxHeartbeats 4000000 in
theorem w_L_law_306 {K : zK} {b L : Nat} {xs : Nat → Int32} (hsc : zSc K b L xs) (cs ss : Nat) (hc1 : cs + 5 ≤ 601024) (hc2 : ss + 30 ≤ 7293033) (hk : zIs K RL cL_law 8 wsL_law (some .boolean) room_1) (hfl : (kL K).stackTraces = false) {r0 : Int32} {τ0 : zST} (hq : zQL K b r0) (F : Nat) (k23 : Nat → Nat → Nat → Int32 → zST → Option (Int32 × zST)) (hk23 : ∀ (a1 : Nat) (a2 : Nat) (a3 : Nat) (a4 : Int32) (ha1 : atCanonCote (kZ K) a1) (ha2 : atCanonCoteModel (kZ K) a2) (ha3 : aJ (kZ K) a3 1) (σ : zST), k23 a1 a2 a3 a4 σ = some (r0, τ0) → Z K (cs + 5) (ss + 30) 23 [(0, .ref b), (1, .ref (eA (kZ K) a1)), (2, .ref (eA (kZ K) a2)), (3, .ref (eA (kZ K) a3)), (4, .int a4)] [] σ) (a1 : Nat) (a2 : Nat) (a3 : Nat) (a4 : Int32) (t0 : Int64) (t1 : Int64) (ha1 : atCanonCote (kZ K) a1) (ha2 : atCanonCoteModel (kZ K) a2) (ha3 : aJ (kZ K) a3 1) (σ : zST) (h : m_L_law_306 F L xs k23 a1 a2 a3 a4 t0 t1 σ = some (r0, τ0)) : Z K (cs + 5) (ss + 30) 306 [(0, .ref b), (1, .ref (eA (kZ K) a1)), (2, .ref (eA (kZ K) a2)), (3, .ref (eA (kZ K) a3)), (4, .int a4)] [.long t0, .long t1] σ := by
  unfold m_L_law_306 at h
  refine Z_lcmp hk dL_law_306 ?_
  refine Z_if_eq hk (tgt := 312) dL_law_307 (by decide) (fun c677 => ?_) (fun c677 => ?_)
  · have h := if_yes h c677
    refine Z_sub [0, 1, 2, 3, 4] rfl ?_
    exact w_L_law_312 hsc cs ss hc1 hc2 hk hfl hq F k23 hk23 a1 a2 a3 a4 ha1 ha2 ha3 σ h
  · have h := if_no h c677
    refine Z_iconst hk dL_law_310 zc_iconst_0 ?_
    cases h
    exact absurd hq.1 (by decide)
set_option maxRecDepth 100000 in
set_option maxHeartbeats 4000000 in
theorem w_L_law_228 {K : zK} {b L : Nat} {xs : Nat → Int32} (hsc : zSc K b L xs) (cs ss : Nat) (hc1 : cs + 5 ≤ 601024) (hc2 : ss + 30 ≤ 7293033) (hk : zIs K RL cL_law 8 wsL_law (some .boolean) room_1) (hfl : (kL K).stackTraces = false) {r0 : Int32} {τ0 : zST} (hq : zQL K b r0) (F : Nat) (k23 : Nat → Nat → Nat → Int32 → zST → Option (Int32 × zST)) (hk23 : ∀ (a1 : Nat) (a2 : Nat) (a3 : Nat) (a4 : Int32) (ha1 : atCanonCote (kZ K) a1) (ha2 : atCanonCoteModel (kZ K) a2) (ha3 : aJ (kZ K) a3 1) (σ : zST), k23 a1 a2 a3 a4 σ = some (r0, τ0) → Z K (cs + 5) (ss + 30) 23 [(0, .ref b), (1, .ref (eA (kZ K) a1)), (2, .ref (eA (kZ K) a2)), (3, .ref (eA (kZ K) a3)), (4, .int a4)] [] σ) (a1 : Nat) (a2 : Nat) (a3 : Nat) (a4 : Int32) (ha1 : atCanonCote (kZ K) a1) (ha2 : atCanonCoteModel (kZ K) a2) (ha3 : aJ (kZ K) a3 1) (σ : zST) (h : m_L_law_228 F L xs k23 a1 a2 a3 a4 σ = some (r0, τ0)) : Z K cs ss 228 [(0, .ref b), (1, .ref (eA (kZ K) a1)), (2, .ref (eA (kZ K) a2)), (3, .ref (eA (kZ K) a3)), (4, .int a4)] [] σ := by
  unfold m_L_law_228 at h
  refine Z_aload_n hk 1 dL_law_228 rfl rfl ?_
  refine Z_aload_n hk 0 dL_law_229 rfl rfl ?_
  refine Z_iload hk 4 dL_law_230 rfl ?_
  refine Z_iconst hk dL_law_232 zc_iconst_1 ?_
  refine Z_iadd hk dL_law_233 ?_
  obtain ⟨i37, x35, e36, h⟩ := ldT_get h
  refine Z_sld hk hsc i37 dL_law_234 ?_
  refine Z_eqI e36 ?_
  refine Z_aload_n hk 0 dL_law_235 rfl rfl ?_
  refine Z_iload hk 4 dL_law_236 rfl ?_
  refine Z_iconst hk dL_law_238 zc_iconst_2 ?_
  refine Z_iadd hk dL_law_239 ?_
  obtain ⟨i40, x38, e39, h⟩ := ldT_get h
  refine Z_sld hk hsc i40 dL_law_240 ?_
  refine Z_eqI e39 ?_
  refine Z_aload_n hk 0 dL_law_241 rfl rfl ?_
  refine Z_iload hk 4 dL_law_242 rfl ?_
  refine Z_iconst hk dL_law_244 zc_iconst_3 ?_
  refine Z_iadd hk dL_law_245 ?_
  obtain ⟨i43, x41, e42, h⟩ := ldT_get h
  refine Z_sld hk hsc i43 dL_law_246 ?_
  refine Z_eqI e42 ?_
  refine Z_aload_n hk 3 dL_law_247 rfl rfl ?_
  obtain ⟨x44, s45, h46, h⟩ := bd_ok h
  · refine ZX_callW 5 hk [.ref (eA (kZ K) a1), .int x35, .int x38, .int x41, .ref (eA (kZ K) a3)] (c_L_toggle hk.loc hk.inj hfl F 1 a1 x35 x38 x41 a3 ha1 ha3 σ h46) gL_law_L_toggle rfl ⟨by decide +kernel, by decide +kernel, by decide +kernel⟩ ⟨Nat.le_of_ble_eq_true rfl, Nat.le_of_ble_eq_true rfl⟩ rfl rfl (Nat.le_of_ble_eq_true rfl) ⟨by show cs + 0 + 4 ≤ 601024; omega, by show ss + 0 + 24 ≤ 7293033; omega⟩ dL_law_248 (fun X hX => by cases hX) (fun v hv => ?_)
    cases hv
    show Z K (cs + 4) (ss + 24) 251 [(0, .ref b), (1, .ref (eA (kZ K) a1)), (2, .ref (eA (kZ K) a2)), (3, .ref (eA (kZ K) a3)), (4, .int a4)] [.int x44] s45
    refine Z_istore hk (lv' := [(5, .int x44), (0, .ref b), (1, .ref (eA (kZ K) a1)), (2, .ref (eA (kZ K) a2)), (3, .ref (eA (kZ K) a3)), (4, .int a4)]) dL_law_251 (by decide) rfl ?_
    refine Z_aload_n hk 3 dL_law_253 rfl rfl ?_
    refine Z_aload_n hk 1 dL_law_254 rfl rfl ?_
    refine Z_iload hk 5 dL_law_255 rfl ?_
    refine Z_iconst hk dL_law_257 zc_iconst_1 ?_
    refine Z_iadd hk dL_law_258 ?_
    obtain ⟨i50, x48, e49, h⟩ := ldT_get h
    refine Z_sld hk hsc i50 dL_law_259 ?_
    refine Z_eqI e49 ?_
    refine Z_aload_n hk 1 dL_law_260 rfl rfl ?_
    refine Z_iload hk 5 dL_law_261 rfl ?_
    refine Z_iconst hk dL_law_263 zc_iconst_2 ?_
    refine Z_iadd hk dL_law_264 ?_
    obtain ⟨i53, x51, e52, h⟩ := ldT_get h
    refine Z_sld hk hsc i53 dL_law_265 ?_
    refine Z_eqI e52 ?_
    refine Z_aload_n hk 1 dL_law_266 rfl rfl ?_
    refine Z_iload hk 5 dL_law_267 rfl ?_
    refine Z_iconst hk dL_law_269 zc_iconst_3 ?_
    refine Z_iadd hk dL_law_270 ?_
    obtain ⟨i56, x54, e55, h⟩ := ldT_get h
    refine Z_sld hk hsc i56 dL_law_271 ?_
    refine Z_eqI e55 ?_
    obtain ⟨x57, s58, h59, h⟩ := bd_ok h
    refine Z_callV 3 hk [.int x48, .int x51, .int x54] (c_X8_toggle hk.loc hk.inj F a2 x48 x51 x54 ha2 s45 h59) gL_law_X8_toggle rfl ⟨rfl, rfl⟩ (by decide +kernel) ⟨Nat.le_of_ble_eq_true rfl, Nat.le_of_ble_eq_true rfl⟩ ha2.cell.1 (ha2.cell.2 _) rfl rfl rfl (Nat.le_of_ble_eq_true rfl) ⟨by show cs + 4 + 0 ≤ 601024; omega, by show ss + 24 + 0 ≤ 7293033; omega⟩ dL_law_272 ?_
    show Z K (cs + 4) (ss + 24) 275 [(5, .int x44), (0, .ref b), (1, .ref (eA (kZ K) a1)), (2, .ref (eA (kZ K) a2)), (3, .ref (eA (kZ K) a3)), (4, .int a4)] [.int x57] s58
    refine Z_istore hk (lv' := [(6, .int x57), (5, .int x44), (0, .ref b), (1, .ref (eA (kZ K) a1)), (2, .ref (eA (kZ K) a2)), (3, .ref (eA (kZ K) a3)), (4, .int a4)]) dL_law_275 (by decide) rfl ?_
    refine Z_aload_n hk 4 dL_law_277 rfl rfl ?_
    obtain ⟨x60, s61, h62, h⟩ := bd_ok h
    refine Z_callV 0 hk [] (c_X8_thrown hk.loc hk.inj F a2 ha2 s58 h62) gL_law_X8_thrown rfl ⟨rfl, rfl⟩ (by decide +kernel) ⟨Nat.le_of_ble_eq_true rfl, Nat.le_of_ble_eq_true rfl⟩ ha2.cell.1 (ha2.cell.2 _) rfl rfl rfl (Nat.le_of_ble_eq_true rfl) ⟨by show cs + 4 + 0 ≤ 601024; omega, by show ss + 24 + 0 ≤ 7293033; omega⟩ dL_law_278 ?_
    show Z K (cs + 4) (ss + 24) 281 [(6, .int x57), (5, .int x44), (0, .ref b), (1, .ref (eA (kZ K) a1)), (2, .ref (eA (kZ K) a2)), (3, .ref (eA (kZ K) a3)), (4, .int a4)] [.int x60] s61
    refine Z_iload hk 1 dL_law_281 rfl ?_
    refine Z_icmp_eq hk (tgt := 288) dL_law_283 (by decide) (fun c63 => ?_) (fun c63 => ?_)
    · have h := if_yes h c63
      refine Z_iload hk 1 dL_law_288 rfl ?_
      refine Z_if_ne hk (tgt := 312) dL_law_290 (by decide) (fun c64 => ?_) (fun c64 => ?_)
      · have h := if_yes h c64
        refine Z_aload_n hk 5 dL_law_293 rfl rfl ?_
        refine Z_iconst hk dL_law_294 zc_iconst_0 ?_
        obtain ⟨i67, x65, e66, h⟩ := ldL_get h
        refine Z_lald hk ha3 i67 dL_law_295 ?_
        refine Z_eqL e66 ?_
        refine Z_iload hk 0 dL_law_296 rfl ?_
        refine Z_if_eq hk (tgt := 305) dL_law_298 (by decide) (fun c68 => ?_) (fun c68 => ?_)
        · have h := if_yes h c68
          refine Z_lconst hk dL_law_305 (v := 0) rfl ?_
          refine Z_sub [2, 3, 4, 5, 6] rfl ?_
          refine Z_widen (cs' := cs + 5) (ss' := ss + 30) (by omega) (by omega) ?_
          exact w_L_law_306 hsc cs ss hc1 hc2 hk hfl hq F k23 hk23 a1 a2 a3 a4 0 x65 ha1 ha2 ha3 s61 h
        · have h := if_no h c68
          refine Z_lconst hk dL_law_301 (v := 1) rfl ?_
          refine Z_goto hk (tgt := 306) dL_law_302 (by decide) ?_
          refine Z_sub [2, 3, 4, 5, 6] rfl ?_
          refine Z_widen (cs' := cs + 5) (ss' := ss + 30) (by omega) (by omega) ?_
          exact w_L_law_306 hsc cs ss hc1 hc2 hk hfl hq F k23 hk23 a1 a2 a3 a4 1 x65 ha1 ha2 ha3 s61 h
      · have h := if_no h c64
        refine Z_sub [2, 3, 4, 5, 6] rfl ?_
        refine Z_widen (cs' := cs + 5) (ss' := ss + 30) (by omega) (by omega) ?_
        exact w_L_law_312 hsc cs ss hc1 hc2 hk hfl hq F k23 hk23 a1 a2 a3 a4 ha1 ha2 ha3 s61 h
    · have h := if_no h c63
      refine Z_iconst hk dL_law_286 zc_iconst_0 ?_
      cases h
      exact absurd hq.1 (by decide)
set_option maxRecDepth 100000 in
set_option maxHeartbeats 4000000 in
theorem w_L_law_392 {K : zK} {b L : Nat} {xs : Nat → Int32} (hsc : zSc K b L xs) (cs ss : Nat) (hc1 : cs + 5 ≤ 601024) (hc2 : ss + 30 ≤ 7293033) (hk : zIs K RL cL_law 8 wsL_law (some .boolean) room_1) (hfl : (kL K).stackTraces = false) {r0 : Int32} {τ0 : zST} (hq : zQL K b r0) (F : Nat) (k23 : Nat → Nat → Nat → Int32 → zST → Option (Int32 × zST)) (hk23 : ∀ (a1 : Nat) (a2 : Nat) (a3 : Nat) (a4 : Int32) (ha1 : atCanonCote (kZ K) a1) (ha2 : atCanonCoteModel (kZ K) a2) (ha3 : aJ (kZ K) a3 1) (σ : zST), k23 a1 a2 a3 a4 σ = some (r0, τ0) → Z K (cs + 5) (ss + 30) 23 [(0, .ref b), (1, .ref (eA (kZ K) a1)), (2, .ref (eA (kZ K) a2)), (3, .ref (eA (kZ K) a3)), (4, .int a4)] [] σ) (a1 : Nat) (a2 : Nat) (a3 : Nat) (a4 : Int32) (ha1 : atCanonCote (kZ K) a1) (ha2 : atCanonCoteModel (kZ K) a2) (ha3 : aJ (kZ K) a3 1) (σ : zST) (h : m_L_law_392 F L xs k23 a1 a2 a3 a4 σ = some (r0, τ0)) : Z K (cs + 5) (ss + 30) 392 [(0, .ref b), (1, .ref (eA (kZ K) a1)), (2, .ref (eA (kZ K) a2)), (3, .ref (eA (kZ K) a3)), (4, .int a4)] [] σ := by
  unfold m_L_law_392 at h
  refine Z_goto hk (tgt := 1834) dL_law_392 (by decide) ?_
  refine Z_sub [0, 1, 2, 3, 4] rfl ?_
  exact w_L_law_1834 hsc cs ss hc1 hc2 hk hfl hq F k23 hk23 a1 a2 a3 a4 ha1 ha2 ha3 σ h
set_option maxRecDepth 100000 in
set_option maxHeartbeats 4000000 in
theorem w_L_law_315 {K : zK} {b L : Nat} {xs : Nat → Int32} (hsc : zSc K b L xs) (cs ss : Nat) (hc1 : cs + 5 ≤ 601024) (hc2 : ss + 30 ≤ 7293033) (hk : zIs K RL cL_law 8 wsL_law (some .boolean) room_1) (hfl : (kL K).stackTraces = false) {r0 : Int32} {τ0 : zST} (hq : zQL K b r0) (F : Nat) (k23 : Nat → Nat → Nat → Int32 → zST → Option (Int32 × zST)) (hk23 : ∀ (a1 : Nat) (a2 : Nat) (a3 : Nat) (a4 : Int32) (ha1 : atCanonCote (kZ K) a1) (ha2 : atCanonCoteModel (kZ K) a2) (ha3 : aJ (kZ K) a3 1) (σ : zST), k23 a1 a2 a3 a4 σ = some (r0, τ0) → Z K (cs + 5) (ss + 30) 23 [(0, .ref b), (1, .ref (eA (kZ K) a1)), (2, .ref (eA (kZ K) a2)), (3, .ref (eA (kZ K) a3)), (4, .int a4)] [] σ) (a1 : Nat) (a2 : Nat) (a3 : Nat) (a4 : Int32) (ha1 : atCanonCote (kZ K) a1) (ha2 : atCanonCoteModel (kZ K) a2) (ha3 : aJ (kZ K) a3 1) (σ : zST) (h : m_L_law_315 F L xs k23 a1 a2 a3 a4 σ = some (r0, τ0)) : Z K cs ss 315 [(0, .ref b), (1, .ref (eA (kZ K) a1)), (2, .ref (eA (kZ K) a2)), (3, .ref (eA (kZ K) a3)), (4, .int a4)] [] σ := by
  unfold m_L_law_315 at h
  refine Z_aload_n hk 1 dL_law_315 rfl rfl ?_
  refine Z_aload_n hk 0 dL_law_316 rfl rfl ?_
  refine Z_iload hk 4 dL_law_317 rfl ?_
  refine Z_iconst hk dL_law_319 zc_iconst_1 ?_
  refine Z_iadd hk dL_law_320 ?_
  obtain ⟨i71, x69, e70, h⟩ := ldT_get h
  refine Z_sld hk hsc i71 dL_law_321 ?_
  refine Z_eqI e70 ?_
  refine Z_aload_n hk 0 dL_law_322 rfl rfl ?_
  refine Z_iload hk 4 dL_law_323 rfl ?_
  refine Z_iconst hk dL_law_325 zc_iconst_2 ?_
  refine Z_iadd hk dL_law_326 ?_
  obtain ⟨i74, x72, e73, h⟩ := ldT_get h
  refine Z_sld hk hsc i74 dL_law_327 ?_
  refine Z_eqI e73 ?_
  refine Z_aload_n hk 0 dL_law_328 rfl rfl ?_
  refine Z_iload hk 4 dL_law_329 rfl ?_
  refine Z_iconst hk dL_law_331 zc_iconst_3 ?_
  refine Z_iadd hk dL_law_332 ?_
  obtain ⟨i77, x75, e76, h⟩ := ldT_get h
  refine Z_sld hk hsc i77 dL_law_333 ?_
  refine Z_eqI e76 ?_
  refine Z_aload_n hk 3 dL_law_334 rfl rfl ?_
  obtain ⟨x78, s79, h80, h⟩ := bd_ok h
  · refine ZX_callW 5 hk [.ref (eA (kZ K) a1), .int x69, .int x72, .int x75, .ref (eA (kZ K) a3)] (c_L_setColour hk.loc hk.inj hfl F 1 a1 x69 x72 x75 a3 ha1 ha3 σ h80) gL_law_L_setColour rfl ⟨by decide +kernel, by decide +kernel, by decide +kernel⟩ ⟨Nat.le_of_ble_eq_true rfl, Nat.le_of_ble_eq_true rfl⟩ rfl rfl (Nat.le_of_ble_eq_true rfl) ⟨by show cs + 0 + 3 ≤ 601024; omega, by show ss + 0 + 18 ≤ 7293033; omega⟩ dL_law_335 (fun X hX => by cases hX) (fun v hv => ?_)
    cases hv
    show Z K (cs + 3) (ss + 18) 338 [(0, .ref b), (1, .ref (eA (kZ K) a1)), (2, .ref (eA (kZ K) a2)), (3, .ref (eA (kZ K) a3)), (4, .int a4)] [.int x78] s79
    refine Z_istore hk (lv' := [(5, .int x78), (0, .ref b), (1, .ref (eA (kZ K) a1)), (2, .ref (eA (kZ K) a2)), (3, .ref (eA (kZ K) a3)), (4, .int a4)]) dL_law_338 (by decide) rfl ?_
    refine Z_aload_n hk 3 dL_law_340 rfl rfl ?_
    refine Z_aload_n hk 1 dL_law_341 rfl rfl ?_
    refine Z_iload hk 5 dL_law_342 rfl ?_
    refine Z_iconst hk dL_law_344 zc_iconst_1 ?_
    refine Z_iadd hk dL_law_345 ?_
    obtain ⟨i84, x82, e83, h⟩ := ldT_get h
    refine Z_sld hk hsc i84 dL_law_346 ?_
    refine Z_eqI e83 ?_
    refine Z_aload_n hk 1 dL_law_347 rfl rfl ?_
    refine Z_iload hk 5 dL_law_348 rfl ?_
    refine Z_iconst hk dL_law_350 zc_iconst_2 ?_
    refine Z_iadd hk dL_law_351 ?_
    obtain ⟨i87, x85, e86, h⟩ := ldT_get h
    refine Z_sld hk hsc i87 dL_law_352 ?_
    refine Z_eqI e86 ?_
    refine Z_aload_n hk 1 dL_law_353 rfl rfl ?_
    refine Z_iload hk 5 dL_law_354 rfl ?_
    refine Z_iconst hk dL_law_356 zc_iconst_3 ?_
    refine Z_iadd hk dL_law_357 ?_
    obtain ⟨i90, x88, e89, h⟩ := ldT_get h
    refine Z_sld hk hsc i90 dL_law_358 ?_
    refine Z_eqI e89 ?_
    obtain ⟨x91, s92, h93, h⟩ := bd_ok h
    refine Z_callV 3 hk [.int x82, .int x85, .int x88] (c_X8_setColour hk.loc hk.inj F a2 x82 x85 x88 ha2 s79 h93) gL_law_X8_setColour rfl ⟨rfl, rfl⟩ (by decide +kernel) ⟨Nat.le_of_ble_eq_true rfl, Nat.le_of_ble_eq_true rfl⟩ ha2.cell.1 (ha2.cell.2 _) rfl rfl rfl (Nat.le_of_ble_eq_true rfl) ⟨by show cs + 3 + 0 ≤ 601024; omega, by show ss + 18 + 0 ≤ 7293033; omega⟩ dL_law_359 ?_
    show Z K (cs + 3) (ss + 18) 362 [(5, .int x78), (0, .ref b), (1, .ref (eA (kZ K) a1)), (2, .ref (eA (kZ K) a2)), (3, .ref (eA (kZ K) a3)), (4, .int a4)] [.int x91] s92
    refine Z_istore hk (lv' := [(6, .int x91), (5, .int x78), (0, .ref b), (1, .ref (eA (kZ K) a1)), (2, .ref (eA (kZ K) a2)), (3, .ref (eA (kZ K) a3)), (4, .int a4)]) dL_law_362 (by decide) rfl ?_
    refine Z_aload_n hk 4 dL_law_364 rfl rfl ?_
    obtain ⟨x94, s95, h96, h⟩ := bd_ok h
    refine Z_callV 0 hk [] (c_X8_thrown hk.loc hk.inj F a2 ha2 s92 h96) gL_law_X8_thrown rfl ⟨rfl, rfl⟩ (by decide +kernel) ⟨Nat.le_of_ble_eq_true rfl, Nat.le_of_ble_eq_true rfl⟩ ha2.cell.1 (ha2.cell.2 _) rfl rfl rfl (Nat.le_of_ble_eq_true rfl) ⟨by show cs + 3 + 0 ≤ 601024; omega, by show ss + 18 + 0 ≤ 7293033; omega⟩ dL_law_365 ?_
    show Z K (cs + 3) (ss + 18) 368 [(6, .int x91), (5, .int x78), (0, .ref b), (1, .ref (eA (kZ K) a1)), (2, .ref (eA (kZ K) a2)), (3, .ref (eA (kZ K) a3)), (4, .int a4)] [.int x94] s95
    refine Z_iload hk 1 dL_law_368 rfl ?_
    refine Z_icmp_eq hk (tgt := 375) dL_law_370 (by decide) (fun c97 => ?_) (fun c97 => ?_)
    · have h := if_yes h c97
      refine Z_iload hk 1 dL_law_375 rfl ?_
      refine Z_if_ne hk (tgt := 392) dL_law_377 (by decide) (fun c98 => ?_) (fun c98 => ?_)
      · have h := if_yes h c98
        refine Z_aload_n hk 5 dL_law_380 rfl rfl ?_
        refine Z_iconst hk dL_law_381 zc_iconst_0 ?_
        obtain ⟨i101, x99, e100, h⟩ := ldL_get h
        refine Z_lald hk ha3 i101 dL_law_382 ?_
        refine Z_eqL e100 ?_
        refine Z_iload hk 0 dL_law_383 rfl ?_
        refine Z_i2l hk dL_law_385 ?_
        refine Z_lcmp hk dL_law_386 ?_
        refine Z_if_eq hk (tgt := 392) dL_law_387 (by decide) (fun c102 => ?_) (fun c102 => ?_)
        · have h := if_yes h c102
          refine Z_sub [2, 3, 4, 5, 6] rfl ?_
          refine Z_widen (cs' := cs + 5) (ss' := ss + 30) (by omega) (by omega) ?_
          exact w_L_law_392 hsc cs ss hc1 hc2 hk hfl hq F k23 hk23 a1 a2 a3 a4 ha1 ha2 ha3 s95 h
        · have h := if_no h c102
          refine Z_iconst hk dL_law_390 zc_iconst_0 ?_
          cases h
          exact absurd hq.1 (by decide)
      · have h := if_no h c98
        refine Z_sub [2, 3, 4, 5, 6] rfl ?_
        refine Z_widen (cs' := cs + 5) (ss' := ss + 30) (by omega) (by omega) ?_
        exact w_L_law_392 hsc cs ss hc1 hc2 hk hfl hq F k23 hk23 a1 a2 a3 a4 ha1 ha2 ha3 s95 h
    · have h := if_no h c97
      refine Z_iconst hk dL_law_373 zc_iconst_0 ?_
      cases h
      exact absurd hq.1 (by decide)
set_option maxRecDepth 100000 in
set_option maxHeartbeats 4000000 in
theorem w_L_law_395 {K : zK} {b L : Nat} {xs : Nat → Int32} (hsc : zSc K b L xs) (cs ss : Nat) (hc1 : cs + 5 ≤ 601024) (hc2 : ss + 30 ≤ 7293033) (hk : zIs K RL cL_law 8 wsL_law (some .boolean) room_1) (hfl : (kL K).stackTraces = false) {r0 : Int32} {τ0 : zST} (hq : zQL K b r0) (F : Nat) (k23 : Nat → Nat → Nat → Int32 → zST → Option (Int32 × zST)) (hk23 : ∀ (a1 : Nat) (a2 : Nat) (a3 : Nat) (a4 : Int32) (ha1 : atCanonCote (kZ K) a1) (ha2 : atCanonCoteModel (kZ K) a2) (ha3 : aJ (kZ K) a3 1) (σ : zST), k23 a1 a2 a3 a4 σ = some (r0, τ0) → Z K (cs + 5) (ss + 30) 23 [(0, .ref b), (1, .ref (eA (kZ K) a1)), (2, .ref (eA (kZ K) a2)), (3, .ref (eA (kZ K) a3)), (4, .int a4)] [] σ) (a1 : Nat) (a2 : Nat) (a3 : Nat) (a4 : Int32) (ha1 : atCanonCote (kZ K) a1) (ha2 : atCanonCoteModel (kZ K) a2) (ha3 : aJ (kZ K) a3 1) (σ : zST) (h : m_L_law_395 F L xs k23 a1 a2 a3 a4 σ = some (r0, τ0)) : Z K cs ss 395 [(0, .ref b), (1, .ref (eA (kZ K) a1)), (2, .ref (eA (kZ K) a2)), (3, .ref (eA (kZ K) a3)), (4, .int a4)] [] σ := by
  unfold m_L_law_395 at h
  refine Z_aload_n hk 1 dL_law_395 rfl rfl ?_
  refine Z_aload_n hk 0 dL_law_396 rfl rfl ?_
  refine Z_iload hk 4 dL_law_397 rfl ?_
  refine Z_iconst hk dL_law_399 zc_iconst_1 ?_
  refine Z_iadd hk dL_law_400 ?_
  obtain ⟨i105, x103, e104, h⟩ := ldT_get h
  refine Z_sld hk hsc i105 dL_law_401 ?_
  refine Z_eqI e104 ?_
  refine Z_aload_n hk 0 dL_law_402 rfl rfl ?_
  refine Z_iload hk 4 dL_law_403 rfl ?_
  refine Z_iconst hk dL_law_405 zc_iconst_2 ?_
  refine Z_iadd hk dL_law_406 ?_
  obtain ⟨i108, x106, e107, h⟩ := ldT_get h
  refine Z_sld hk hsc i108 dL_law_407 ?_
  refine Z_eqI e107 ?_
  refine Z_aload_n hk 0 dL_law_408 rfl rfl ?_
  refine Z_iload hk 4 dL_law_409 rfl ?_
  refine Z_iconst hk dL_law_411 zc_iconst_3 ?_
  refine Z_iadd hk dL_law_412 ?_
  obtain ⟨i111, x109, e110, h⟩ := ldT_get h
  refine Z_sld hk hsc i111 dL_law_413 ?_
  refine Z_eqI e110 ?_
  obtain ⟨x112, s113, h114, h⟩ := bd_ok h
  · refine ZX_callW 4 hk [.ref (eA (kZ K) a1), .int x103, .int x106, .int x109] (c_L_swap hk.loc hk.inj hfl F a1 x103 x106 x109 ha1 σ h114) gL_law_L_swap rfl ⟨by decide +kernel, by decide +kernel, by decide +kernel⟩ ⟨Nat.le_of_ble_eq_true rfl, Nat.le_of_ble_eq_true rfl⟩ rfl rfl (Nat.le_of_ble_eq_true rfl) ⟨by show cs + 0 + 3 ≤ 601024; omega, by show ss + 0 + 18 ≤ 7293033; omega⟩ dL_law_414 (fun X hX => by cases hX) (fun v hv => ?_)
    cases hv
    show Z K (cs + 3) (ss + 18) 417 [(0, .ref b), (1, .ref (eA (kZ K) a1)), (2, .ref (eA (kZ K) a2)), (3, .ref (eA (kZ K) a3)), (4, .int a4)] [.int x112] s113
    refine Z_istore hk (lv' := [(5, .int x112), (0, .ref b), (1, .ref (eA (kZ K) a1)), (2, .ref (eA (kZ K) a2)), (3, .ref (eA (kZ K) a3)), (4, .int a4)]) dL_law_417 (by decide) rfl ?_
    refine Z_aload_n hk 3 dL_law_419 rfl rfl ?_
    refine Z_aload_n hk 1 dL_law_420 rfl rfl ?_
    refine Z_iload hk 5 dL_law_421 rfl ?_
    refine Z_iconst hk dL_law_423 zc_iconst_1 ?_
    refine Z_iadd hk dL_law_424 ?_
    obtain ⟨i118, x116, e117, h⟩ := ldT_get h
    refine Z_sld hk hsc i118 dL_law_425 ?_
    refine Z_eqI e117 ?_
    refine Z_aload_n hk 1 dL_law_426 rfl rfl ?_
    refine Z_iload hk 5 dL_law_427 rfl ?_
    refine Z_iconst hk dL_law_429 zc_iconst_2 ?_
    refine Z_iadd hk dL_law_430 ?_
    obtain ⟨i121, x119, e120, h⟩ := ldT_get h
    refine Z_sld hk hsc i121 dL_law_431 ?_
    refine Z_eqI e120 ?_
    refine Z_aload_n hk 1 dL_law_432 rfl rfl ?_
    refine Z_iload hk 5 dL_law_433 rfl ?_
    refine Z_iconst hk dL_law_435 zc_iconst_3 ?_
    refine Z_iadd hk dL_law_436 ?_
    obtain ⟨i124, x122, e123, h⟩ := ldT_get h
    refine Z_sld hk hsc i124 dL_law_437 ?_
    refine Z_eqI e123 ?_
    obtain ⟨s126, h127, h⟩ := bv_ok h
    refine Z_callV 3 hk [.int x116, .int x119, .int x122] (c_X8_swap hk.loc hk.inj F a2 x116 x119 x122 ha2 s113 h127) gL_law_X8_swap rfl ⟨rfl, rfl⟩ (by decide +kernel) ⟨Nat.le_of_ble_eq_true rfl, Nat.le_of_ble_eq_true rfl⟩ ha2.cell.1 (ha2.cell.2 _) rfl rfl rfl (Nat.le_of_ble_eq_true rfl) ⟨by show cs + 3 + 0 ≤ 601024; omega, by show ss + 18 + 0 ≤ 7293033; omega⟩ dL_law_438 ?_
    show Z K (cs + 3) (ss + 18) 441 [(5, .int x112), (0, .ref b), (1, .ref (eA (kZ K) a1)), (2, .ref (eA (kZ K) a2)), (3, .ref (eA (kZ K) a3)), (4, .int a4)] [] s126
    refine Z_aload_n hk 3 dL_law_441 rfl rfl ?_
    obtain ⟨x128, s129, h130, h⟩ := bd_ok h
    refine Z_callV 0 hk [] (c_X8_thrown hk.loc hk.inj F a2 ha2 s126 h130) gL_law_X8_thrown rfl ⟨rfl, rfl⟩ (by decide +kernel) ⟨Nat.le_of_ble_eq_true rfl, Nat.le_of_ble_eq_true rfl⟩ ha2.cell.1 (ha2.cell.2 _) rfl rfl rfl (Nat.le_of_ble_eq_true rfl) ⟨by show cs + 3 + 0 ≤ 601024; omega, by show ss + 18 + 0 ≤ 7293033; omega⟩ dL_law_442 ?_
    show Z K (cs + 3) (ss + 18) 445 [(5, .int x112), (0, .ref b), (1, .ref (eA (kZ K) a1)), (2, .ref (eA (kZ K) a2)), (3, .ref (eA (kZ K) a3)), (4, .int a4)] [.int x128] s129
    refine Z_iload hk 0 dL_law_445 rfl ?_
    refine Z_icmp_eq hk (tgt := 452) dL_law_447 (by decide) (fun c131 => ?_) (fun c131 => ?_)
    · have h := if_yes h c131
      refine Z_goto hk (tgt := 1834) dL_law_452 (by decide) ?_
      refine Z_sub [1, 2, 3, 4, 5] rfl ?_
      refine Z_widen (cs' := cs + 5) (ss' := ss + 30) (by omega) (by omega) ?_
      exact w_L_law_1834 hsc cs ss hc1 hc2 hk hfl hq F k23 hk23 a1 a2 a3 a4 ha1 ha2 ha3 s129 h
    · have h := if_no h c131
      refine Z_iconst hk dL_law_450 zc_iconst_0 ?_
      cases h
      exact absurd hq.1 (by decide)
set_option maxRecDepth 100000 in
set_option maxHeartbeats 4000000 in
theorem w_L_law_455 {K : zK} {b L : Nat} {xs : Nat → Int32} (hsc : zSc K b L xs) (cs ss : Nat) (hc1 : cs + 5 ≤ 601024) (hc2 : ss + 30 ≤ 7293033) (hk : zIs K RL cL_law 8 wsL_law (some .boolean) room_1) (hfl : (kL K).stackTraces = false) {r0 : Int32} {τ0 : zST} (hq : zQL K b r0) (F : Nat) (k23 : Nat → Nat → Nat → Int32 → zST → Option (Int32 × zST)) (hk23 : ∀ (a1 : Nat) (a2 : Nat) (a3 : Nat) (a4 : Int32) (ha1 : atCanonCote (kZ K) a1) (ha2 : atCanonCoteModel (kZ K) a2) (ha3 : aJ (kZ K) a3 1) (σ : zST), k23 a1 a2 a3 a4 σ = some (r0, τ0) → Z K (cs + 5) (ss + 30) 23 [(0, .ref b), (1, .ref (eA (kZ K) a1)), (2, .ref (eA (kZ K) a2)), (3, .ref (eA (kZ K) a3)), (4, .int a4)] [] σ) (a1 : Nat) (a2 : Nat) (a3 : Nat) (a4 : Int32) (ha1 : atCanonCote (kZ K) a1) (ha2 : atCanonCoteModel (kZ K) a2) (ha3 : aJ (kZ K) a3 1) (σ : zST) (h : m_L_law_455 F L xs k23 a1 a2 a3 a4 σ = some (r0, τ0)) : Z K cs ss 455 [(0, .ref b), (1, .ref (eA (kZ K) a1)), (2, .ref (eA (kZ K) a2)), (3, .ref (eA (kZ K) a3)), (4, .int a4)] [] σ := by
  unfold m_L_law_455 at h
  refine Z_aload_n hk 1 dL_law_455 rfl rfl ?_
  refine Z_aload_n hk 0 dL_law_456 rfl rfl ?_
  refine Z_iload hk 4 dL_law_457 rfl ?_
  refine Z_iconst hk dL_law_459 zc_iconst_1 ?_
  refine Z_iadd hk dL_law_460 ?_
  obtain ⟨i134, x132, e133, h⟩ := ldT_get h
  refine Z_sld hk hsc i134 dL_law_461 ?_
  refine Z_eqI e133 ?_
  refine Z_aload_n hk 0 dL_law_462 rfl rfl ?_
  refine Z_iload hk 4 dL_law_463 rfl ?_
  refine Z_iconst hk dL_law_465 zc_iconst_2 ?_
  refine Z_iadd hk dL_law_466 ?_
  obtain ⟨i137, x135, e136, h⟩ := ldT_get h
  refine Z_sld hk hsc i137 dL_law_467 ?_
  refine Z_eqI e136 ?_
  obtain ⟨x138, s139, h140, h⟩ := bd_ok h
  · refine ZX_callW 3 hk [.ref (eA (kZ K) a1), .int x132, .int x135] (c_L_copy hk.loc hk.inj hfl F a1 x132 x135 ha1 σ h140) gL_law_L_copy rfl ⟨by decide +kernel, by decide +kernel, by decide +kernel⟩ ⟨Nat.le_of_ble_eq_true rfl, Nat.le_of_ble_eq_true rfl⟩ rfl rfl (Nat.le_of_ble_eq_true rfl) ⟨by show cs + 0 + 2 ≤ 601024; omega, by show ss + 0 + 12 ≤ 7293033; omega⟩ dL_law_468 (fun X hX => by cases hX) (fun v hv => ?_)
    cases hv
    show Z K (cs + 2) (ss + 12) 471 [(0, .ref b), (1, .ref (eA (kZ K) a1)), (2, .ref (eA (kZ K) a2)), (3, .ref (eA (kZ K) a3)), (4, .int a4)] [.int x138] s139
    refine Z_istore hk (lv' := [(5, .int x138), (0, .ref b), (1, .ref (eA (kZ K) a1)), (2, .ref (eA (kZ K) a2)), (3, .ref (eA (kZ K) a3)), (4, .int a4)]) dL_law_471 (by decide) rfl ?_
    refine Z_aload_n hk 3 dL_law_473 rfl rfl ?_
    refine Z_aload_n hk 1 dL_law_474 rfl rfl ?_
    refine Z_iload hk 5 dL_law_475 rfl ?_
    refine Z_iconst hk dL_law_477 zc_iconst_1 ?_
    refine Z_iadd hk dL_law_478 ?_
    obtain ⟨i144, x142, e143, h⟩ := ldT_get h
    refine Z_sld hk hsc i144 dL_law_479 ?_
    refine Z_eqI e143 ?_
    refine Z_aload_n hk 1 dL_law_480 rfl rfl ?_
    refine Z_iload hk 5 dL_law_481 rfl ?_
    refine Z_iconst hk dL_law_483 zc_iconst_2 ?_
    refine Z_iadd hk dL_law_484 ?_
    obtain ⟨i147, x145, e146, h⟩ := ldT_get h
    refine Z_sld hk hsc i147 dL_law_485 ?_
    refine Z_eqI e146 ?_
    obtain ⟨s149, h150, h⟩ := bv_ok h
    refine Z_callV 2 hk [.int x142, .int x145] (c_X8_copy hk.loc hk.inj F a2 x142 x145 ha2 s139 h150) gL_law_X8_copy rfl ⟨rfl, rfl⟩ (by decide +kernel) ⟨Nat.le_of_ble_eq_true rfl, Nat.le_of_ble_eq_true rfl⟩ ha2.cell.1 (ha2.cell.2 _) rfl rfl rfl (Nat.le_of_ble_eq_true rfl) ⟨by show cs + 2 + 0 ≤ 601024; omega, by show ss + 12 + 0 ≤ 7293033; omega⟩ dL_law_486 ?_
    show Z K (cs + 2) (ss + 12) 489 [(5, .int x138), (0, .ref b), (1, .ref (eA (kZ K) a1)), (2, .ref (eA (kZ K) a2)), (3, .ref (eA (kZ K) a3)), (4, .int a4)] [] s149
    refine Z_aload_n hk 3 dL_law_489 rfl rfl ?_
    obtain ⟨x151, s152, h153, h⟩ := bd_ok h
    refine Z_callV 0 hk [] (c_X8_thrown hk.loc hk.inj F a2 ha2 s149 h153) gL_law_X8_thrown rfl ⟨rfl, rfl⟩ (by decide +kernel) ⟨Nat.le_of_ble_eq_true rfl, Nat.le_of_ble_eq_true rfl⟩ ha2.cell.1 (ha2.cell.2 _) rfl rfl rfl (Nat.le_of_ble_eq_true rfl) ⟨by show cs + 2 + 0 ≤ 601024; omega, by show ss + 12 + 0 ≤ 7293033; omega⟩ dL_law_490 ?_
    show Z K (cs + 2) (ss + 12) 493 [(5, .int x138), (0, .ref b), (1, .ref (eA (kZ K) a1)), (2, .ref (eA (kZ K) a2)), (3, .ref (eA (kZ K) a3)), (4, .int a4)] [.int x151] s152
    refine Z_iload hk 0 dL_law_493 rfl ?_
    refine Z_icmp_eq hk (tgt := 500) dL_law_495 (by decide) (fun c154 => ?_) (fun c154 => ?_)
    · have h := if_yes h c154
      refine Z_goto hk (tgt := 1834) dL_law_500 (by decide) ?_
      refine Z_sub [1, 2, 3, 4, 5] rfl ?_
      refine Z_widen (cs' := cs + 5) (ss' := ss + 30) (by omega) (by omega) ?_
      exact w_L_law_1834 hsc cs ss hc1 hc2 hk hfl hq F k23 hk23 a1 a2 a3 a4 ha1 ha2 ha3 s152 h
    · have h := if_no h c154
      refine Z_iconst hk dL_law_498 zc_iconst_0 ?_
      cases h
      exact absurd hq.1 (by decide)
set_option maxRecDepth 100000 in
set_option maxHeartbeats 4000000 in
theorem w_L_law_556 {K : zK} {b L : Nat} {xs : Nat → Int32} (hsc : zSc K b L xs) (cs ss : Nat) (hc1 : cs + 5 ≤ 601024) (hc2 : ss + 30 ≤ 7293033) (hk : zIs K RL cL_law 8 wsL_law (some .boolean) room_1) (hfl : (kL K).stackTraces = false) {r0 : Int32} {τ0 : zST} (hq : zQL K b r0) (F : Nat) (k23 : Nat → Nat → Nat → Int32 → zST → Option (Int32 × zST)) (hk23 : ∀ (a1 : Nat) (a2 : Nat) (a3 : Nat) (a4 : Int32) (ha1 : atCanonCote (kZ K) a1) (ha2 : atCanonCoteModel (kZ K) a2) (ha3 : aJ (kZ K) a3 1) (σ : zST), k23 a1 a2 a3 a4 σ = some (r0, τ0) → Z K (cs + 5) (ss + 30) 23 [(0, .ref b), (1, .ref (eA (kZ K) a1)), (2, .ref (eA (kZ K) a2)), (3, .ref (eA (kZ K) a3)), (4, .int a4)] [] σ) (a1 : Nat) (a2 : Nat) (a3 : Nat) (a4 : Int32) (ha1 : atCanonCote (kZ K) a1) (ha2 : atCanonCoteModel (kZ K) a2) (ha3 : aJ (kZ K) a3 1) (σ : zST) (h : m_L_law_556 F L xs k23 a1 a2 a3 a4 σ = some (r0, τ0)) : Z K (cs + 5) (ss + 30) 556 [(0, .ref b), (1, .ref (eA (kZ K) a1)), (2, .ref (eA (kZ K) a2)), (3, .ref (eA (kZ K) a3)), (4, .int a4)] [] σ := by
  unfold m_L_law_556 at h
  refine Z_goto hk (tgt := 1834) dL_law_556 (by decide) ?_
  refine Z_sub [0, 1, 2, 3, 4] rfl ?_
  exact w_L_law_1834 hsc cs ss hc1 hc2 hk hfl hq F k23 hk23 a1 a2 a3 a4 ha1 ha2 ha3 σ h
set_option maxRecDepth 100000 in
set_option maxHeartbeats 4000000 in
theorem w_L_law_503 {K : zK} {b L : Nat} {xs : Nat → Int32} (hsc : zSc K b L xs) (cs ss : Nat) (hc1 : cs + 5 ≤ 601024) (hc2 : ss + 30 ≤ 7293033) (hk : zIs K RL cL_law 8 wsL_law (some .boolean) room_1) (hfl : (kL K).stackTraces = false) {r0 : Int32} {τ0 : zST} (hq : zQL K b r0) (F : Nat) (k23 : Nat → Nat → Nat → Int32 → zST → Option (Int32 × zST)) (hk23 : ∀ (a1 : Nat) (a2 : Nat) (a3 : Nat) (a4 : Int32) (ha1 : atCanonCote (kZ K) a1) (ha2 : atCanonCoteModel (kZ K) a2) (ha3 : aJ (kZ K) a3 1) (σ : zST), k23 a1 a2 a3 a4 σ = some (r0, τ0) → Z K (cs + 5) (ss + 30) 23 [(0, .ref b), (1, .ref (eA (kZ K) a1)), (2, .ref (eA (kZ K) a2)), (3, .ref (eA (kZ K) a3)), (4, .int a4)] [] σ) (a1 : Nat) (a2 : Nat) (a3 : Nat) (a4 : Int32) (ha1 : atCanonCote (kZ K) a1) (ha2 : atCanonCoteModel (kZ K) a2) (ha3 : aJ (kZ K) a3 1) (σ : zST) (h : m_L_law_503 F L xs k23 a1 a2 a3 a4 σ = some (r0, τ0)) : Z K cs ss 503 [(0, .ref b), (1, .ref (eA (kZ K) a1)), (2, .ref (eA (kZ K) a2)), (3, .ref (eA (kZ K) a3)), (4, .int a4)] [] σ := by
  unfold m_L_law_503 at h
  refine Z_aload_n hk 1 dL_law_503 rfl rfl ?_
  refine Z_aload_n hk 0 dL_law_504 rfl rfl ?_
  refine Z_iload hk 4 dL_law_505 rfl ?_
  refine Z_iconst hk dL_law_507 zc_iconst_1 ?_
  refine Z_iadd hk dL_law_508 ?_
  obtain ⟨i157, x155, e156, h⟩ := ldT_get h
  refine Z_sld hk hsc i157 dL_law_509 ?_
  refine Z_eqI e156 ?_
  refine Z_aload_n hk 3 dL_law_510 rfl rfl ?_
  obtain ⟨x158, s159, h160, h⟩ := bd_ok h
  · refine ZX_callW 3 hk [.ref (eA (kZ K) a1), .int x155, .ref (eA (kZ K) a3)] (c_L_complement hk.loc hk.inj hfl F 1 a1 x155 a3 ha1 ha3 σ h160) gL_law_L_complement rfl ⟨by decide +kernel, by decide +kernel, by decide +kernel⟩ ⟨Nat.le_of_ble_eq_true rfl, Nat.le_of_ble_eq_true rfl⟩ rfl rfl (Nat.le_of_ble_eq_true rfl) ⟨by show cs + 0 + 1 ≤ 601024; omega, by show ss + 0 + 6 ≤ 7293033; omega⟩ dL_law_511 (fun X hX => by cases hX) (fun v hv => ?_)
    cases hv
    show Z K (cs + 1) (ss + 6) 514 [(0, .ref b), (1, .ref (eA (kZ K) a1)), (2, .ref (eA (kZ K) a2)), (3, .ref (eA (kZ K) a3)), (4, .int a4)] [.int x158] s159
    refine Z_istore hk (lv' := [(5, .int x158), (0, .ref b), (1, .ref (eA (kZ K) a1)), (2, .ref (eA (kZ K) a2)), (3, .ref (eA (kZ K) a3)), (4, .int a4)]) dL_law_514 (by decide) rfl ?_
    refine Z_aload_n hk 3 dL_law_516 rfl rfl ?_
    refine Z_aload_n hk 1 dL_law_517 rfl rfl ?_
    refine Z_iload hk 5 dL_law_518 rfl ?_
    refine Z_iconst hk dL_law_520 zc_iconst_1 ?_
    refine Z_iadd hk dL_law_521 ?_
    obtain ⟨i164, x162, e163, h⟩ := ldT_get h
    refine Z_sld hk hsc i164 dL_law_522 ?_
    refine Z_eqI e163 ?_
    obtain ⟨x165, s166, h167, h⟩ := bd_ok h
    refine Z_callV 1 hk [.int x162] (c_X8_complement hk.loc hk.inj F a2 x162 ha2 s159 h167) gL_law_X8_complement rfl ⟨rfl, rfl⟩ (by decide +kernel) ⟨Nat.le_of_ble_eq_true rfl, Nat.le_of_ble_eq_true rfl⟩ ha2.cell.1 (ha2.cell.2 _) rfl rfl rfl (Nat.le_of_ble_eq_true rfl) ⟨by show cs + 1 + 0 ≤ 601024; omega, by show ss + 6 + 0 ≤ 7293033; omega⟩ dL_law_523 ?_
    show Z K (cs + 1) (ss + 6) 526 [(5, .int x158), (0, .ref b), (1, .ref (eA (kZ K) a1)), (2, .ref (eA (kZ K) a2)), (3, .ref (eA (kZ K) a3)), (4, .int a4)] [.int x165] s166
    refine Z_istore hk (lv' := [(6, .int x165), (5, .int x158), (0, .ref b), (1, .ref (eA (kZ K) a1)), (2, .ref (eA (kZ K) a2)), (3, .ref (eA (kZ K) a3)), (4, .int a4)]) dL_law_526 (by decide) rfl ?_
    refine Z_aload_n hk 4 dL_law_528 rfl rfl ?_
    obtain ⟨x168, s169, h170, h⟩ := bd_ok h
    refine Z_callV 0 hk [] (c_X8_thrown hk.loc hk.inj F a2 ha2 s166 h170) gL_law_X8_thrown rfl ⟨rfl, rfl⟩ (by decide +kernel) ⟨Nat.le_of_ble_eq_true rfl, Nat.le_of_ble_eq_true rfl⟩ ha2.cell.1 (ha2.cell.2 _) rfl rfl rfl (Nat.le_of_ble_eq_true rfl) ⟨by show cs + 1 + 0 ≤ 601024; omega, by show ss + 6 + 0 ≤ 7293033; omega⟩ dL_law_529 ?_
    show Z K (cs + 1) (ss + 6) 532 [(6, .int x165), (5, .int x158), (0, .ref b), (1, .ref (eA (kZ K) a1)), (2, .ref (eA (kZ K) a2)), (3, .ref (eA (kZ K) a3)), (4, .int a4)] [.int x168] s169
    refine Z_iload hk 1 dL_law_532 rfl ?_
    refine Z_icmp_eq hk (tgt := 539) dL_law_534 (by decide) (fun c171 => ?_) (fun c171 => ?_)
    · have h := if_yes h c171
      refine Z_iload hk 1 dL_law_539 rfl ?_
      refine Z_if_ne hk (tgt := 556) dL_law_541 (by decide) (fun c172 => ?_) (fun c172 => ?_)
      · have h := if_yes h c172
        refine Z_aload_n hk 5 dL_law_544 rfl rfl ?_
        refine Z_iconst hk dL_law_545 zc_iconst_0 ?_
        obtain ⟨i175, x173, e174, h⟩ := ldL_get h
        refine Z_lald hk ha3 i175 dL_law_546 ?_
        refine Z_eqL e174 ?_
        refine Z_iload hk 0 dL_law_547 rfl ?_
        refine Z_i2l hk dL_law_549 ?_
        refine Z_lcmp hk dL_law_550 ?_
        refine Z_if_eq hk (tgt := 556) dL_law_551 (by decide) (fun c176 => ?_) (fun c176 => ?_)
        · have h := if_yes h c176
          refine Z_sub [2, 3, 4, 5, 6] rfl ?_
          refine Z_widen (cs' := cs + 5) (ss' := ss + 30) (by omega) (by omega) ?_
          exact w_L_law_556 hsc cs ss hc1 hc2 hk hfl hq F k23 hk23 a1 a2 a3 a4 ha1 ha2 ha3 s169 h
        · have h := if_no h c176
          refine Z_iconst hk dL_law_554 zc_iconst_0 ?_
          cases h
          exact absurd hq.1 (by decide)
      · have h := if_no h c172
        refine Z_sub [2, 3, 4, 5, 6] rfl ?_
        refine Z_widen (cs' := cs + 5) (ss' := ss + 30) (by omega) (by omega) ?_
        exact w_L_law_556 hsc cs ss hc1 hc2 hk hfl hq F k23 hk23 a1 a2 a3 a4 ha1 ha2 ha3 s169 h
    · have h := if_no h c171
      refine Z_iconst hk dL_law_537 zc_iconst_0 ?_
      cases h
      exact absurd hq.1 (by decide)
set_option maxRecDepth 100000 in
set_option maxHeartbeats 4000000 in
theorem w_L_law_612 {K : zK} {b L : Nat} {xs : Nat → Int32} (hsc : zSc K b L xs) (cs ss : Nat) (hc1 : cs + 5 ≤ 601024) (hc2 : ss + 30 ≤ 7293033) (hk : zIs K RL cL_law 8 wsL_law (some .boolean) room_1) (hfl : (kL K).stackTraces = false) {r0 : Int32} {τ0 : zST} (hq : zQL K b r0) (F : Nat) (k23 : Nat → Nat → Nat → Int32 → zST → Option (Int32 × zST)) (hk23 : ∀ (a1 : Nat) (a2 : Nat) (a3 : Nat) (a4 : Int32) (ha1 : atCanonCote (kZ K) a1) (ha2 : atCanonCoteModel (kZ K) a2) (ha3 : aJ (kZ K) a3 1) (σ : zST), k23 a1 a2 a3 a4 σ = some (r0, τ0) → Z K (cs + 5) (ss + 30) 23 [(0, .ref b), (1, .ref (eA (kZ K) a1)), (2, .ref (eA (kZ K) a2)), (3, .ref (eA (kZ K) a3)), (4, .int a4)] [] σ) (a1 : Nat) (a2 : Nat) (a3 : Nat) (a4 : Int32) (ha1 : atCanonCote (kZ K) a1) (ha2 : atCanonCoteModel (kZ K) a2) (ha3 : aJ (kZ K) a3 1) (σ : zST) (h : m_L_law_612 F L xs k23 a1 a2 a3 a4 σ = some (r0, τ0)) : Z K (cs + 5) (ss + 30) 612 [(0, .ref b), (1, .ref (eA (kZ K) a1)), (2, .ref (eA (kZ K) a2)), (3, .ref (eA (kZ K) a3)), (4, .int a4)] [] σ := by
  unfold m_L_law_612 at h
  refine Z_goto hk (tgt := 1834) dL_law_612 (by decide) ?_
  refine Z_sub [0, 1, 2, 3, 4] rfl ?_
  exact w_L_law_1834 hsc cs ss hc1 hc2 hk hfl hq F k23 hk23 a1 a2 a3 a4 ha1 ha2 ha3 σ h
set_option maxRecDepth 100000 in
set_option maxHeartbeats 4000000 in
theorem w_L_law_559 {K : zK} {b L : Nat} {xs : Nat → Int32} (hsc : zSc K b L xs) (cs ss : Nat) (hc1 : cs + 5 ≤ 601024) (hc2 : ss + 30 ≤ 7293033) (hk : zIs K RL cL_law 8 wsL_law (some .boolean) room_1) (hfl : (kL K).stackTraces = false) {r0 : Int32} {τ0 : zST} (hq : zQL K b r0) (F : Nat) (k23 : Nat → Nat → Nat → Int32 → zST → Option (Int32 × zST)) (hk23 : ∀ (a1 : Nat) (a2 : Nat) (a3 : Nat) (a4 : Int32) (ha1 : atCanonCote (kZ K) a1) (ha2 : atCanonCoteModel (kZ K) a2) (ha3 : aJ (kZ K) a3 1) (σ : zST), k23 a1 a2 a3 a4 σ = some (r0, τ0) → Z K (cs + 5) (ss + 30) 23 [(0, .ref b), (1, .ref (eA (kZ K) a1)), (2, .ref (eA (kZ K) a2)), (3, .ref (eA (kZ K) a3)), (4, .int a4)] [] σ) (a1 : Nat) (a2 : Nat) (a3 : Nat) (a4 : Int32) (ha1 : atCanonCote (kZ K) a1) (ha2 : atCanonCoteModel (kZ K) a2) (ha3 : aJ (kZ K) a3 1) (σ : zST) (h : m_L_law_559 F L xs k23 a1 a2 a3 a4 σ = some (r0, τ0)) : Z K cs ss 559 [(0, .ref b), (1, .ref (eA (kZ K) a1)), (2, .ref (eA (kZ K) a2)), (3, .ref (eA (kZ K) a3)), (4, .int a4)] [] σ := by
  unfold m_L_law_559 at h
  refine Z_aload_n hk 1 dL_law_559 rfl rfl ?_
  refine Z_aload_n hk 0 dL_law_560 rfl rfl ?_
  refine Z_iload hk 4 dL_law_561 rfl ?_
  refine Z_iconst hk dL_law_563 zc_iconst_1 ?_
  refine Z_iadd hk dL_law_564 ?_
  obtain ⟨i179, x177, e178, h⟩ := ldT_get h
  refine Z_sld hk hsc i179 dL_law_565 ?_
  refine Z_eqI e178 ?_
  refine Z_aload_n hk 3 dL_law_566 rfl rfl ?_
  obtain ⟨x180, s181, h182, h⟩ := bd_ok h
  · refine ZX_callW 3 hk [.ref (eA (kZ K) a1), .int x177, .ref (eA (kZ K) a3)] (c_L_size hk.loc hk.inj hfl F 1 a1 x177 a3 ha1 ha3 σ h182) gL_law_L_size rfl ⟨by decide +kernel, by decide +kernel, by decide +kernel⟩ ⟨Nat.le_of_ble_eq_true rfl, Nat.le_of_ble_eq_true rfl⟩ rfl rfl (Nat.le_of_ble_eq_true rfl) ⟨by show cs + 0 + 1 ≤ 601024; omega, by show ss + 0 + 6 ≤ 7293033; omega⟩ dL_law_567 (fun X hX => by cases hX) (fun v hv => ?_)
    cases hv
    show Z K (cs + 1) (ss + 6) 570 [(0, .ref b), (1, .ref (eA (kZ K) a1)), (2, .ref (eA (kZ K) a2)), (3, .ref (eA (kZ K) a3)), (4, .int a4)] [.int x180] s181
    refine Z_istore hk (lv' := [(5, .int x180), (0, .ref b), (1, .ref (eA (kZ K) a1)), (2, .ref (eA (kZ K) a2)), (3, .ref (eA (kZ K) a3)), (4, .int a4)]) dL_law_570 (by decide) rfl ?_
    refine Z_aload_n hk 3 dL_law_572 rfl rfl ?_
    refine Z_aload_n hk 1 dL_law_573 rfl rfl ?_
    refine Z_iload hk 5 dL_law_574 rfl ?_
    refine Z_iconst hk dL_law_576 zc_iconst_1 ?_
    refine Z_iadd hk dL_law_577 ?_
    obtain ⟨i186, x184, e185, h⟩ := ldT_get h
    refine Z_sld hk hsc i186 dL_law_578 ?_
    refine Z_eqI e185 ?_
    obtain ⟨x187, s188, h189, h⟩ := bd_ok h
    refine Z_callV 1 hk [.int x184] (c_X8_size hk.loc hk.inj F a2 x184 ha2 s181 h189) gL_law_X8_size rfl ⟨rfl, rfl⟩ (by decide +kernel) ⟨Nat.le_of_ble_eq_true rfl, Nat.le_of_ble_eq_true rfl⟩ ha2.cell.1 (ha2.cell.2 _) rfl rfl rfl (Nat.le_of_ble_eq_true rfl) ⟨by show cs + 1 + 0 ≤ 601024; omega, by show ss + 6 + 0 ≤ 7293033; omega⟩ dL_law_579 ?_
    show Z K (cs + 1) (ss + 6) 582 [(5, .int x180), (0, .ref b), (1, .ref (eA (kZ K) a1)), (2, .ref (eA (kZ K) a2)), (3, .ref (eA (kZ K) a3)), (4, .int a4)] [.int x187] s188
    refine Z_istore hk (lv' := [(6, .int x187), (5, .int x180), (0, .ref b), (1, .ref (eA (kZ K) a1)), (2, .ref (eA (kZ K) a2)), (3, .ref (eA (kZ K) a3)), (4, .int a4)]) dL_law_582 (by decide) rfl ?_
    refine Z_aload_n hk 4 dL_law_584 rfl rfl ?_
    obtain ⟨x190, s191, h192, h⟩ := bd_ok h
    refine Z_callV 0 hk [] (c_X8_thrown hk.loc hk.inj F a2 ha2 s188 h192) gL_law_X8_thrown rfl ⟨rfl, rfl⟩ (by decide +kernel) ⟨Nat.le_of_ble_eq_true rfl, Nat.le_of_ble_eq_true rfl⟩ ha2.cell.1 (ha2.cell.2 _) rfl rfl rfl (Nat.le_of_ble_eq_true rfl) ⟨by show cs + 1 + 0 ≤ 601024; omega, by show ss + 6 + 0 ≤ 7293033; omega⟩ dL_law_585 ?_
    show Z K (cs + 1) (ss + 6) 588 [(6, .int x187), (5, .int x180), (0, .ref b), (1, .ref (eA (kZ K) a1)), (2, .ref (eA (kZ K) a2)), (3, .ref (eA (kZ K) a3)), (4, .int a4)] [.int x190] s191
    refine Z_iload hk 1 dL_law_588 rfl ?_
    refine Z_icmp_eq hk (tgt := 595) dL_law_590 (by decide) (fun c193 => ?_) (fun c193 => ?_)
    · have h := if_yes h c193
      refine Z_iload hk 1 dL_law_595 rfl ?_
      refine Z_if_ne hk (tgt := 612) dL_law_597 (by decide) (fun c194 => ?_) (fun c194 => ?_)
      · have h := if_yes h c194
        refine Z_aload_n hk 5 dL_law_600 rfl rfl ?_
        refine Z_iconst hk dL_law_601 zc_iconst_0 ?_
        obtain ⟨i197, x195, e196, h⟩ := ldL_get h
        refine Z_lald hk ha3 i197 dL_law_602 ?_
        refine Z_eqL e196 ?_
        refine Z_iload hk 0 dL_law_603 rfl ?_
        refine Z_i2l hk dL_law_605 ?_
        refine Z_lcmp hk dL_law_606 ?_
        refine Z_if_eq hk (tgt := 612) dL_law_607 (by decide) (fun c198 => ?_) (fun c198 => ?_)
        · have h := if_yes h c198
          refine Z_sub [2, 3, 4, 5, 6] rfl ?_
          refine Z_widen (cs' := cs + 5) (ss' := ss + 30) (by omega) (by omega) ?_
          exact w_L_law_612 hsc cs ss hc1 hc2 hk hfl hq F k23 hk23 a1 a2 a3 a4 ha1 ha2 ha3 s191 h
        · have h := if_no h c198
          refine Z_iconst hk dL_law_610 zc_iconst_0 ?_
          cases h
          exact absurd hq.1 (by decide)
      · have h := if_no h c194
        refine Z_sub [2, 3, 4, 5, 6] rfl ?_
        refine Z_widen (cs' := cs + 5) (ss' := ss + 30) (by omega) (by omega) ?_
        exact w_L_law_612 hsc cs ss hc1 hc2 hk hfl hq F k23 hk23 a1 a2 a3 a4 ha1 ha2 ha3 s191 h
    · have h := if_no h c193
      refine Z_iconst hk dL_law_593 zc_iconst_0 ?_
      cases h
      exact absurd hq.1 (by decide)
set_option maxRecDepth 100000 in
set_option maxHeartbeats 4000000 in
theorem w_L_law_668 {K : zK} {b L : Nat} {xs : Nat → Int32} (hsc : zSc K b L xs) (cs ss : Nat) (hc1 : cs + 5 ≤ 601024) (hc2 : ss + 30 ≤ 7293033) (hk : zIs K RL cL_law 8 wsL_law (some .boolean) room_1) (hfl : (kL K).stackTraces = false) {r0 : Int32} {τ0 : zST} (hq : zQL K b r0) (F : Nat) (k23 : Nat → Nat → Nat → Int32 → zST → Option (Int32 × zST)) (hk23 : ∀ (a1 : Nat) (a2 : Nat) (a3 : Nat) (a4 : Int32) (ha1 : atCanonCote (kZ K) a1) (ha2 : atCanonCoteModel (kZ K) a2) (ha3 : aJ (kZ K) a3 1) (σ : zST), k23 a1 a2 a3 a4 σ = some (r0, τ0) → Z K (cs + 5) (ss + 30) 23 [(0, .ref b), (1, .ref (eA (kZ K) a1)), (2, .ref (eA (kZ K) a2)), (3, .ref (eA (kZ K) a3)), (4, .int a4)] [] σ) (a1 : Nat) (a2 : Nat) (a3 : Nat) (a4 : Int32) (ha1 : atCanonCote (kZ K) a1) (ha2 : atCanonCoteModel (kZ K) a2) (ha3 : aJ (kZ K) a3 1) (σ : zST) (h : m_L_law_668 F L xs k23 a1 a2 a3 a4 σ = some (r0, τ0)) : Z K (cs + 5) (ss + 30) 668 [(0, .ref b), (1, .ref (eA (kZ K) a1)), (2, .ref (eA (kZ K) a2)), (3, .ref (eA (kZ K) a3)), (4, .int a4)] [] σ := by
  unfold m_L_law_668 at h
  refine Z_goto hk (tgt := 1834) dL_law_668 (by decide) ?_
  refine Z_sub [0, 1, 2, 3, 4] rfl ?_
  exact w_L_law_1834 hsc cs ss hc1 hc2 hk hfl hq F k23 hk23 a1 a2 a3 a4 ha1 ha2 ha3 σ h
set_option maxRecDepth 100000 in
set_option maxHeartbeats 4000000 in
theorem w_L_law_615 {K : zK} {b L : Nat} {xs : Nat → Int32} (hsc : zSc K b L xs) (cs ss : Nat) (hc1 : cs + 5 ≤ 601024) (hc2 : ss + 30 ≤ 7293033) (hk : zIs K RL cL_law 8 wsL_law (some .boolean) room_1) (hfl : (kL K).stackTraces = false) {r0 : Int32} {τ0 : zST} (hq : zQL K b r0) (F : Nat) (k23 : Nat → Nat → Nat → Int32 → zST → Option (Int32 × zST)) (hk23 : ∀ (a1 : Nat) (a2 : Nat) (a3 : Nat) (a4 : Int32) (ha1 : atCanonCote (kZ K) a1) (ha2 : atCanonCoteModel (kZ K) a2) (ha3 : aJ (kZ K) a3 1) (σ : zST), k23 a1 a2 a3 a4 σ = some (r0, τ0) → Z K (cs + 5) (ss + 30) 23 [(0, .ref b), (1, .ref (eA (kZ K) a1)), (2, .ref (eA (kZ K) a2)), (3, .ref (eA (kZ K) a3)), (4, .int a4)] [] σ) (a1 : Nat) (a2 : Nat) (a3 : Nat) (a4 : Int32) (ha1 : atCanonCote (kZ K) a1) (ha2 : atCanonCoteModel (kZ K) a2) (ha3 : aJ (kZ K) a3 1) (σ : zST) (h : m_L_law_615 F L xs k23 a1 a2 a3 a4 σ = some (r0, τ0)) : Z K cs ss 615 [(0, .ref b), (1, .ref (eA (kZ K) a1)), (2, .ref (eA (kZ K) a2)), (3, .ref (eA (kZ K) a3)), (4, .int a4)] [] σ := by
  unfold m_L_law_615 at h
  refine Z_aload_n hk 1 dL_law_615 rfl rfl ?_
  refine Z_aload_n hk 0 dL_law_616 rfl rfl ?_
  refine Z_iload hk 4 dL_law_617 rfl ?_
  refine Z_iconst hk dL_law_619 zc_iconst_1 ?_
  refine Z_iadd hk dL_law_620 ?_
  obtain ⟨i201, x199, e200, h⟩ := ldT_get h
  refine Z_sld hk hsc i201 dL_law_621 ?_
  refine Z_eqI e200 ?_
  refine Z_aload_n hk 3 dL_law_622 rfl rfl ?_
  obtain ⟨x202, s203, h204, h⟩ := bd_ok h
  · refine ZX_callW 3 hk [.ref (eA (kZ K) a1), .int x199, .ref (eA (kZ K) a3)] (c_L_edges hk.loc hk.inj hfl F 1 a1 x199 a3 ha1 ha3 σ h204) gL_law_L_edges rfl ⟨by decide +kernel, by decide +kernel, by decide +kernel⟩ ⟨Nat.le_of_ble_eq_true rfl, Nat.le_of_ble_eq_true rfl⟩ rfl rfl (Nat.le_of_ble_eq_true rfl) ⟨by show cs + 0 + 1 ≤ 601024; omega, by show ss + 0 + 6 ≤ 7293033; omega⟩ dL_law_623 (fun X hX => by cases hX) (fun v hv => ?_)
    cases hv
    show Z K (cs + 1) (ss + 6) 626 [(0, .ref b), (1, .ref (eA (kZ K) a1)), (2, .ref (eA (kZ K) a2)), (3, .ref (eA (kZ K) a3)), (4, .int a4)] [.int x202] s203
    refine Z_istore hk (lv' := [(5, .int x202), (0, .ref b), (1, .ref (eA (kZ K) a1)), (2, .ref (eA (kZ K) a2)), (3, .ref (eA (kZ K) a3)), (4, .int a4)]) dL_law_626 (by decide) rfl ?_
    refine Z_aload_n hk 3 dL_law_628 rfl rfl ?_
    refine Z_aload_n hk 1 dL_law_629 rfl rfl ?_
    refine Z_iload hk 5 dL_law_630 rfl ?_
    refine Z_iconst hk dL_law_632 zc_iconst_1 ?_
    refine Z_iadd hk dL_law_633 ?_
    obtain ⟨i208, x206, e207, h⟩ := ldT_get h
    refine Z_sld hk hsc i208 dL_law_634 ?_
    refine Z_eqI e207 ?_
    obtain ⟨x209, s210, h211, h⟩ := bd_ok h
    refine Z_callV 1 hk [.int x206] (c_X8_edges hk.loc hk.inj F a2 x206 ha2 s203 h211) gL_law_X8_edges rfl ⟨rfl, rfl⟩ (by decide +kernel) ⟨Nat.le_of_ble_eq_true rfl, Nat.le_of_ble_eq_true rfl⟩ ha2.cell.1 (ha2.cell.2 _) rfl rfl rfl (Nat.le_of_ble_eq_true rfl) ⟨by show cs + 1 + 0 ≤ 601024; omega, by show ss + 6 + 0 ≤ 7293033; omega⟩ dL_law_635 ?_
    show Z K (cs + 1) (ss + 6) 638 [(5, .int x202), (0, .ref b), (1, .ref (eA (kZ K) a1)), (2, .ref (eA (kZ K) a2)), (3, .ref (eA (kZ K) a3)), (4, .int a4)] [.int x209] s210
    refine Z_istore hk (lv' := [(6, .int x209), (5, .int x202), (0, .ref b), (1, .ref (eA (kZ K) a1)), (2, .ref (eA (kZ K) a2)), (3, .ref (eA (kZ K) a3)), (4, .int a4)]) dL_law_638 (by decide) rfl ?_
    refine Z_aload_n hk 4 dL_law_640 rfl rfl ?_
    obtain ⟨x212, s213, h214, h⟩ := bd_ok h
    refine Z_callV 0 hk [] (c_X8_thrown hk.loc hk.inj F a2 ha2 s210 h214) gL_law_X8_thrown rfl ⟨rfl, rfl⟩ (by decide +kernel) ⟨Nat.le_of_ble_eq_true rfl, Nat.le_of_ble_eq_true rfl⟩ ha2.cell.1 (ha2.cell.2 _) rfl rfl rfl (Nat.le_of_ble_eq_true rfl) ⟨by show cs + 1 + 0 ≤ 601024; omega, by show ss + 6 + 0 ≤ 7293033; omega⟩ dL_law_641 ?_
    show Z K (cs + 1) (ss + 6) 644 [(6, .int x209), (5, .int x202), (0, .ref b), (1, .ref (eA (kZ K) a1)), (2, .ref (eA (kZ K) a2)), (3, .ref (eA (kZ K) a3)), (4, .int a4)] [.int x212] s213
    refine Z_iload hk 1 dL_law_644 rfl ?_
    refine Z_icmp_eq hk (tgt := 651) dL_law_646 (by decide) (fun c215 => ?_) (fun c215 => ?_)
    · have h := if_yes h c215
      refine Z_iload hk 1 dL_law_651 rfl ?_
      refine Z_if_ne hk (tgt := 668) dL_law_653 (by decide) (fun c216 => ?_) (fun c216 => ?_)
      · have h := if_yes h c216
        refine Z_aload_n hk 5 dL_law_656 rfl rfl ?_
        refine Z_iconst hk dL_law_657 zc_iconst_0 ?_
        obtain ⟨i219, x217, e218, h⟩ := ldL_get h
        refine Z_lald hk ha3 i219 dL_law_658 ?_
        refine Z_eqL e218 ?_
        refine Z_iload hk 0 dL_law_659 rfl ?_
        refine Z_i2l hk dL_law_661 ?_
        refine Z_lcmp hk dL_law_662 ?_
        refine Z_if_eq hk (tgt := 668) dL_law_663 (by decide) (fun c220 => ?_) (fun c220 => ?_)
        · have h := if_yes h c220
          refine Z_sub [2, 3, 4, 5, 6] rfl ?_
          refine Z_widen (cs' := cs + 5) (ss' := ss + 30) (by omega) (by omega) ?_
          exact w_L_law_668 hsc cs ss hc1 hc2 hk hfl hq F k23 hk23 a1 a2 a3 a4 ha1 ha2 ha3 s213 h
        · have h := if_no h c220
          refine Z_iconst hk dL_law_666 zc_iconst_0 ?_
          cases h
          exact absurd hq.1 (by decide)
      · have h := if_no h c216
        refine Z_sub [2, 3, 4, 5, 6] rfl ?_
        refine Z_widen (cs' := cs + 5) (ss' := ss + 30) (by omega) (by omega) ?_
        exact w_L_law_668 hsc cs ss hc1 hc2 hk hfl hq F k23 hk23 a1 a2 a3 a4 ha1 ha2 ha3 s213 h
    · have h := if_no h c215
      refine Z_iconst hk dL_law_649 zc_iconst_0 ?_
      cases h
      exact absurd hq.1 (by decide)
set_option maxRecDepth 100000 in
set_option maxHeartbeats 4000000 in
theorem w_L_law_736 {K : zK} {b L : Nat} {xs : Nat → Int32} (hsc : zSc K b L xs) (cs ss : Nat) (hc1 : cs + 5 ≤ 601024) (hc2 : ss + 30 ≤ 7293033) (hk : zIs K RL cL_law 8 wsL_law (some .boolean) room_1) (hfl : (kL K).stackTraces = false) {r0 : Int32} {τ0 : zST} (hq : zQL K b r0) (F : Nat) (k23 : Nat → Nat → Nat → Int32 → zST → Option (Int32 × zST)) (hk23 : ∀ (a1 : Nat) (a2 : Nat) (a3 : Nat) (a4 : Int32) (ha1 : atCanonCote (kZ K) a1) (ha2 : atCanonCoteModel (kZ K) a2) (ha3 : aJ (kZ K) a3 1) (σ : zST), k23 a1 a2 a3 a4 σ = some (r0, τ0) → Z K (cs + 5) (ss + 30) 23 [(0, .ref b), (1, .ref (eA (kZ K) a1)), (2, .ref (eA (kZ K) a2)), (3, .ref (eA (kZ K) a3)), (4, .int a4)] [] σ) (a1 : Nat) (a2 : Nat) (a3 : Nat) (a4 : Int32) (ha1 : atCanonCote (kZ K) a1) (ha2 : atCanonCoteModel (kZ K) a2) (ha3 : aJ (kZ K) a3 1) (σ : zST) (h : m_L_law_736 F L xs k23 a1 a2 a3 a4 σ = some (r0, τ0)) : Z K (cs + 5) (ss + 30) 736 [(0, .ref b), (1, .ref (eA (kZ K) a1)), (2, .ref (eA (kZ K) a2)), (3, .ref (eA (kZ K) a3)), (4, .int a4)] [] σ := by
  unfold m_L_law_736 at h
  refine Z_goto hk (tgt := 1834) dL_law_736 (by decide) ?_
  refine Z_sub [0, 1, 2, 3, 4] rfl ?_
  exact w_L_law_1834 hsc cs ss hc1 hc2 hk hfl hq F k23 hk23 a1 a2 a3 a4 ha1 ha2 ha3 σ h
set_option maxRecDepth 100000 in
set_option maxHeartbeats 4000000 in
theorem w_L_law_671 {K : zK} {b L : Nat} {xs : Nat → Int32} (hsc : zSc K b L xs) (cs ss : Nat) (hc1 : cs + 5 ≤ 601024) (hc2 : ss + 30 ≤ 7293033) (hk : zIs K RL cL_law 8 wsL_law (some .boolean) room_1) (hfl : (kL K).stackTraces = false) {r0 : Int32} {τ0 : zST} (hq : zQL K b r0) (F : Nat) (k23 : Nat → Nat → Nat → Int32 → zST → Option (Int32 × zST)) (hk23 : ∀ (a1 : Nat) (a2 : Nat) (a3 : Nat) (a4 : Int32) (ha1 : atCanonCote (kZ K) a1) (ha2 : atCanonCoteModel (kZ K) a2) (ha3 : aJ (kZ K) a3 1) (σ : zST), k23 a1 a2 a3 a4 σ = some (r0, τ0) → Z K (cs + 5) (ss + 30) 23 [(0, .ref b), (1, .ref (eA (kZ K) a1)), (2, .ref (eA (kZ K) a2)), (3, .ref (eA (kZ K) a3)), (4, .int a4)] [] σ) (a1 : Nat) (a2 : Nat) (a3 : Nat) (a4 : Int32) (ha1 : atCanonCote (kZ K) a1) (ha2 : atCanonCoteModel (kZ K) a2) (ha3 : aJ (kZ K) a3 1) (σ : zST) (h : m_L_law_671 F L xs k23 a1 a2 a3 a4 σ = some (r0, τ0)) : Z K cs ss 671 [(0, .ref b), (1, .ref (eA (kZ K) a1)), (2, .ref (eA (kZ K) a2)), (3, .ref (eA (kZ K) a3)), (4, .int a4)] [] σ := by
  unfold m_L_law_671 at h
  refine Z_aload_n hk 1 dL_law_671 rfl rfl ?_
  refine Z_aload_n hk 0 dL_law_672 rfl rfl ?_
  refine Z_iload hk 4 dL_law_673 rfl ?_
  refine Z_iconst hk dL_law_675 zc_iconst_1 ?_
  refine Z_iadd hk dL_law_676 ?_
  obtain ⟨i223, x221, e222, h⟩ := ldT_get h
  refine Z_sld hk hsc i223 dL_law_677 ?_
  refine Z_eqI e222 ?_
  refine Z_aload_n hk 0 dL_law_678 rfl rfl ?_
  refine Z_iload hk 4 dL_law_679 rfl ?_
  refine Z_iconst hk dL_law_681 zc_iconst_2 ?_
  refine Z_iadd hk dL_law_682 ?_
  obtain ⟨i226, x224, e225, h⟩ := ldT_get h
  refine Z_sld hk hsc i226 dL_law_683 ?_
  refine Z_eqI e225 ?_
  refine Z_aload_n hk 3 dL_law_684 rfl rfl ?_
  obtain ⟨x227, s228, h229, h⟩ := bd_ok h
  · refine ZX_callW 4 hk [.ref (eA (kZ K) a1), .int x221, .int x224, .ref (eA (kZ K) a3)] (c_L_neighbours hk.loc hk.inj hfl F 1 a1 x221 x224 a3 ha1 ha3 σ h229) gL_law_L_neighbours rfl ⟨by decide +kernel, by decide +kernel, by decide +kernel⟩ ⟨Nat.le_of_ble_eq_true rfl, Nat.le_of_ble_eq_true rfl⟩ rfl rfl (Nat.le_of_ble_eq_true rfl) ⟨by show cs + 0 + 2 ≤ 601024; omega, by show ss + 0 + 12 ≤ 7293033; omega⟩ dL_law_685 (fun X hX => by cases hX) (fun v hv => ?_)
    cases hv
    show Z K (cs + 2) (ss + 12) 688 [(0, .ref b), (1, .ref (eA (kZ K) a1)), (2, .ref (eA (kZ K) a2)), (3, .ref (eA (kZ K) a3)), (4, .int a4)] [.int x227] s228
    refine Z_istore hk (lv' := [(5, .int x227), (0, .ref b), (1, .ref (eA (kZ K) a1)), (2, .ref (eA (kZ K) a2)), (3, .ref (eA (kZ K) a3)), (4, .int a4)]) dL_law_688 (by decide) rfl ?_
    refine Z_aload_n hk 3 dL_law_690 rfl rfl ?_
    refine Z_aload_n hk 1 dL_law_691 rfl rfl ?_
    refine Z_iload hk 5 dL_law_692 rfl ?_
    refine Z_iconst hk dL_law_694 zc_iconst_1 ?_
    refine Z_iadd hk dL_law_695 ?_
    obtain ⟨i233, x231, e232, h⟩ := ldT_get h
    refine Z_sld hk hsc i233 dL_law_696 ?_
    refine Z_eqI e232 ?_
    refine Z_aload_n hk 1 dL_law_697 rfl rfl ?_
    refine Z_iload hk 5 dL_law_698 rfl ?_
    refine Z_iconst hk dL_law_700 zc_iconst_2 ?_
    refine Z_iadd hk dL_law_701 ?_
    obtain ⟨i236, x234, e235, h⟩ := ldT_get h
    refine Z_sld hk hsc i236 dL_law_702 ?_
    refine Z_eqI e235 ?_
    obtain ⟨x237, s238, h239, h⟩ := bd_ok h
    refine Z_callV 2 hk [.int x231, .int x234] (c_X8_neighbours hk.loc hk.inj F a2 x231 x234 ha2 s228 h239) gL_law_X8_neighbours rfl ⟨rfl, rfl⟩ (by decide +kernel) ⟨Nat.le_of_ble_eq_true rfl, Nat.le_of_ble_eq_true rfl⟩ ha2.cell.1 (ha2.cell.2 _) rfl rfl rfl (Nat.le_of_ble_eq_true rfl) ⟨by show cs + 2 + 0 ≤ 601024; omega, by show ss + 12 + 0 ≤ 7293033; omega⟩ dL_law_703 ?_
    show Z K (cs + 2) (ss + 12) 706 [(5, .int x227), (0, .ref b), (1, .ref (eA (kZ K) a1)), (2, .ref (eA (kZ K) a2)), (3, .ref (eA (kZ K) a3)), (4, .int a4)] [.int x237] s238
    refine Z_istore hk (lv' := [(6, .int x237), (5, .int x227), (0, .ref b), (1, .ref (eA (kZ K) a1)), (2, .ref (eA (kZ K) a2)), (3, .ref (eA (kZ K) a3)), (4, .int a4)]) dL_law_706 (by decide) rfl ?_
    refine Z_aload_n hk 4 dL_law_708 rfl rfl ?_
    obtain ⟨x240, s241, h242, h⟩ := bd_ok h
    refine Z_callV 0 hk [] (c_X8_thrown hk.loc hk.inj F a2 ha2 s238 h242) gL_law_X8_thrown rfl ⟨rfl, rfl⟩ (by decide +kernel) ⟨Nat.le_of_ble_eq_true rfl, Nat.le_of_ble_eq_true rfl⟩ ha2.cell.1 (ha2.cell.2 _) rfl rfl rfl (Nat.le_of_ble_eq_true rfl) ⟨by show cs + 2 + 0 ≤ 601024; omega, by show ss + 12 + 0 ≤ 7293033; omega⟩ dL_law_709 ?_
    show Z K (cs + 2) (ss + 12) 712 [(6, .int x237), (5, .int x227), (0, .ref b), (1, .ref (eA (kZ K) a1)), (2, .ref (eA (kZ K) a2)), (3, .ref (eA (kZ K) a3)), (4, .int a4)] [.int x240] s241
    refine Z_iload hk 1 dL_law_712 rfl ?_
    refine Z_icmp_eq hk (tgt := 719) dL_law_714 (by decide) (fun c243 => ?_) (fun c243 => ?_)
    · have h := if_yes h c243
      refine Z_iload hk 1 dL_law_719 rfl ?_
      refine Z_if_ne hk (tgt := 736) dL_law_721 (by decide) (fun c244 => ?_) (fun c244 => ?_)
      · have h := if_yes h c244
        refine Z_aload_n hk 5 dL_law_724 rfl rfl ?_
        refine Z_iconst hk dL_law_725 zc_iconst_0 ?_
        obtain ⟨i247, x245, e246, h⟩ := ldL_get h
        refine Z_lald hk ha3 i247 dL_law_726 ?_
        refine Z_eqL e246 ?_
        refine Z_iload hk 0 dL_law_727 rfl ?_
        refine Z_i2l hk dL_law_729 ?_
        refine Z_lcmp hk dL_law_730 ?_
        refine Z_if_eq hk (tgt := 736) dL_law_731 (by decide) (fun c248 => ?_) (fun c248 => ?_)
        · have h := if_yes h c248
          refine Z_sub [2, 3, 4, 5, 6] rfl ?_
          refine Z_widen (cs' := cs + 5) (ss' := ss + 30) (by omega) (by omega) ?_
          exact w_L_law_736 hsc cs ss hc1 hc2 hk hfl hq F k23 hk23 a1 a2 a3 a4 ha1 ha2 ha3 s241 h
        · have h := if_no h c248
          refine Z_iconst hk dL_law_734 zc_iconst_0 ?_
          cases h
          exact absurd hq.1 (by decide)
      · have h := if_no h c244
        refine Z_sub [2, 3, 4, 5, 6] rfl ?_
        refine Z_widen (cs' := cs + 5) (ss' := ss + 30) (by omega) (by omega) ?_
        exact w_L_law_736 hsc cs ss hc1 hc2 hk hfl hq F k23 hk23 a1 a2 a3 a4 ha1 ha2 ha3 s241 h
    · have h := if_no h c243
      refine Z_iconst hk dL_law_717 zc_iconst_0 ?_
      cases h
      exact absurd hq.1 (by decide)
set_option maxRecDepth 100000 in
set_option maxHeartbeats 4000000 in
theorem w_L_law_804 {K : zK} {b L : Nat} {xs : Nat → Int32} (hsc : zSc K b L xs) (cs ss : Nat) (hc1 : cs + 5 ≤ 601024) (hc2 : ss + 30 ≤ 7293033) (hk : zIs K RL cL_law 8 wsL_law (some .boolean) room_1) (hfl : (kL K).stackTraces = false) {r0 : Int32} {τ0 : zST} (hq : zQL K b r0) (F : Nat) (k23 : Nat → Nat → Nat → Int32 → zST → Option (Int32 × zST)) (hk23 : ∀ (a1 : Nat) (a2 : Nat) (a3 : Nat) (a4 : Int32) (ha1 : atCanonCote (kZ K) a1) (ha2 : atCanonCoteModel (kZ K) a2) (ha3 : aJ (kZ K) a3 1) (σ : zST), k23 a1 a2 a3 a4 σ = some (r0, τ0) → Z K (cs + 5) (ss + 30) 23 [(0, .ref b), (1, .ref (eA (kZ K) a1)), (2, .ref (eA (kZ K) a2)), (3, .ref (eA (kZ K) a3)), (4, .int a4)] [] σ) (a1 : Nat) (a2 : Nat) (a3 : Nat) (a4 : Int32) (ha1 : atCanonCote (kZ K) a1) (ha2 : atCanonCoteModel (kZ K) a2) (ha3 : aJ (kZ K) a3 1) (σ : zST) (h : m_L_law_804 F L xs k23 a1 a2 a3 a4 σ = some (r0, τ0)) : Z K (cs + 5) (ss + 30) 804 [(0, .ref b), (1, .ref (eA (kZ K) a1)), (2, .ref (eA (kZ K) a2)), (3, .ref (eA (kZ K) a3)), (4, .int a4)] [] σ := by
  unfold m_L_law_804 at h
  refine Z_goto hk (tgt := 1834) dL_law_804 (by decide) ?_
  refine Z_sub [0, 1, 2, 3, 4] rfl ?_
  exact w_L_law_1834 hsc cs ss hc1 hc2 hk hfl hq F k23 hk23 a1 a2 a3 a4 ha1 ha2 ha3 σ h
set_option maxRecDepth 100000 in
set_option maxHeartbeats 4000000 in
theorem w_L_law_739 {K : zK} {b L : Nat} {xs : Nat → Int32} (hsc : zSc K b L xs) (cs ss : Nat) (hc1 : cs + 5 ≤ 601024) (hc2 : ss + 30 ≤ 7293033) (hk : zIs K RL cL_law 8 wsL_law (some .boolean) room_1) (hfl : (kL K).stackTraces = false) {r0 : Int32} {τ0 : zST} (hq : zQL K b r0) (F : Nat) (k23 : Nat → Nat → Nat → Int32 → zST → Option (Int32 × zST)) (hk23 : ∀ (a1 : Nat) (a2 : Nat) (a3 : Nat) (a4 : Int32) (ha1 : atCanonCote (kZ K) a1) (ha2 : atCanonCoteModel (kZ K) a2) (ha3 : aJ (kZ K) a3 1) (σ : zST), k23 a1 a2 a3 a4 σ = some (r0, τ0) → Z K (cs + 5) (ss + 30) 23 [(0, .ref b), (1, .ref (eA (kZ K) a1)), (2, .ref (eA (kZ K) a2)), (3, .ref (eA (kZ K) a3)), (4, .int a4)] [] σ) (a1 : Nat) (a2 : Nat) (a3 : Nat) (a4 : Int32) (ha1 : atCanonCote (kZ K) a1) (ha2 : atCanonCoteModel (kZ K) a2) (ha3 : aJ (kZ K) a3 1) (σ : zST) (h : m_L_law_739 F L xs k23 a1 a2 a3 a4 σ = some (r0, τ0)) : Z K cs ss 739 [(0, .ref b), (1, .ref (eA (kZ K) a1)), (2, .ref (eA (kZ K) a2)), (3, .ref (eA (kZ K) a3)), (4, .int a4)] [] σ := by
  unfold m_L_law_739 at h
  refine Z_aload_n hk 1 dL_law_739 rfl rfl ?_
  refine Z_aload_n hk 0 dL_law_740 rfl rfl ?_
  refine Z_iload hk 4 dL_law_741 rfl ?_
  refine Z_iconst hk dL_law_743 zc_iconst_1 ?_
  refine Z_iadd hk dL_law_744 ?_
  obtain ⟨i251, x249, e250, h⟩ := ldT_get h
  refine Z_sld hk hsc i251 dL_law_745 ?_
  refine Z_eqI e250 ?_
  refine Z_aload_n hk 0 dL_law_746 rfl rfl ?_
  refine Z_iload hk 4 dL_law_747 rfl ?_
  refine Z_iconst hk dL_law_749 zc_iconst_2 ?_
  refine Z_iadd hk dL_law_750 ?_
  obtain ⟨i254, x252, e253, h⟩ := ldT_get h
  refine Z_sld hk hsc i254 dL_law_751 ?_
  refine Z_eqI e253 ?_
  refine Z_aload_n hk 3 dL_law_752 rfl rfl ?_
  obtain ⟨x255, s256, h257, h⟩ := bd_ok h
  · refine ZX_callW 4 hk [.ref (eA (kZ K) a1), .int x249, .int x252, .ref (eA (kZ K) a3)] (c_L_colour hk.loc hk.inj hfl F 1 a1 x249 x252 a3 ha1 ha3 σ h257) gL_law_L_colour rfl ⟨by decide +kernel, by decide +kernel, by decide +kernel⟩ ⟨Nat.le_of_ble_eq_true rfl, Nat.le_of_ble_eq_true rfl⟩ rfl rfl (Nat.le_of_ble_eq_true rfl) ⟨by show cs + 0 + 2 ≤ 601024; omega, by show ss + 0 + 12 ≤ 7293033; omega⟩ dL_law_753 (fun X hX => by cases hX) (fun v hv => ?_)
    cases hv
    show Z K (cs + 2) (ss + 12) 756 [(0, .ref b), (1, .ref (eA (kZ K) a1)), (2, .ref (eA (kZ K) a2)), (3, .ref (eA (kZ K) a3)), (4, .int a4)] [.int x255] s256
    refine Z_istore hk (lv' := [(5, .int x255), (0, .ref b), (1, .ref (eA (kZ K) a1)), (2, .ref (eA (kZ K) a2)), (3, .ref (eA (kZ K) a3)), (4, .int a4)]) dL_law_756 (by decide) rfl ?_
    refine Z_aload_n hk 3 dL_law_758 rfl rfl ?_
    refine Z_aload_n hk 1 dL_law_759 rfl rfl ?_
    refine Z_iload hk 5 dL_law_760 rfl ?_
    refine Z_iconst hk dL_law_762 zc_iconst_1 ?_
    refine Z_iadd hk dL_law_763 ?_
    obtain ⟨i261, x259, e260, h⟩ := ldT_get h
    refine Z_sld hk hsc i261 dL_law_764 ?_
    refine Z_eqI e260 ?_
    refine Z_aload_n hk 1 dL_law_765 rfl rfl ?_
    refine Z_iload hk 5 dL_law_766 rfl ?_
    refine Z_iconst hk dL_law_768 zc_iconst_2 ?_
    refine Z_iadd hk dL_law_769 ?_
    obtain ⟨i264, x262, e263, h⟩ := ldT_get h
    refine Z_sld hk hsc i264 dL_law_770 ?_
    refine Z_eqI e263 ?_
    obtain ⟨x265, s266, h267, h⟩ := bd_ok h
    refine Z_callV 2 hk [.int x259, .int x262] (c_X8_colour hk.loc hk.inj F a2 x259 x262 ha2 s256 h267) gL_law_X8_colour rfl ⟨rfl, rfl⟩ (by decide +kernel) ⟨Nat.le_of_ble_eq_true rfl, Nat.le_of_ble_eq_true rfl⟩ ha2.cell.1 (ha2.cell.2 _) rfl rfl rfl (Nat.le_of_ble_eq_true rfl) ⟨by show cs + 2 + 0 ≤ 601024; omega, by show ss + 12 + 0 ≤ 7293033; omega⟩ dL_law_771 ?_
    show Z K (cs + 2) (ss + 12) 774 [(5, .int x255), (0, .ref b), (1, .ref (eA (kZ K) a1)), (2, .ref (eA (kZ K) a2)), (3, .ref (eA (kZ K) a3)), (4, .int a4)] [.int x265] s266
    refine Z_istore hk (lv' := [(6, .int x265), (5, .int x255), (0, .ref b), (1, .ref (eA (kZ K) a1)), (2, .ref (eA (kZ K) a2)), (3, .ref (eA (kZ K) a3)), (4, .int a4)]) dL_law_774 (by decide) rfl ?_
    refine Z_aload_n hk 4 dL_law_776 rfl rfl ?_
    obtain ⟨x268, s269, h270, h⟩ := bd_ok h
    refine Z_callV 0 hk [] (c_X8_thrown hk.loc hk.inj F a2 ha2 s266 h270) gL_law_X8_thrown rfl ⟨rfl, rfl⟩ (by decide +kernel) ⟨Nat.le_of_ble_eq_true rfl, Nat.le_of_ble_eq_true rfl⟩ ha2.cell.1 (ha2.cell.2 _) rfl rfl rfl (Nat.le_of_ble_eq_true rfl) ⟨by show cs + 2 + 0 ≤ 601024; omega, by show ss + 12 + 0 ≤ 7293033; omega⟩ dL_law_777 ?_
    show Z K (cs + 2) (ss + 12) 780 [(6, .int x265), (5, .int x255), (0, .ref b), (1, .ref (eA (kZ K) a1)), (2, .ref (eA (kZ K) a2)), (3, .ref (eA (kZ K) a3)), (4, .int a4)] [.int x268] s269
    refine Z_iload hk 1 dL_law_780 rfl ?_
    refine Z_icmp_eq hk (tgt := 787) dL_law_782 (by decide) (fun c271 => ?_) (fun c271 => ?_)
    · have h := if_yes h c271
      refine Z_iload hk 1 dL_law_787 rfl ?_
      refine Z_if_ne hk (tgt := 804) dL_law_789 (by decide) (fun c272 => ?_) (fun c272 => ?_)
      · have h := if_yes h c272
        refine Z_aload_n hk 5 dL_law_792 rfl rfl ?_
        refine Z_iconst hk dL_law_793 zc_iconst_0 ?_
        obtain ⟨i275, x273, e274, h⟩ := ldL_get h
        refine Z_lald hk ha3 i275 dL_law_794 ?_
        refine Z_eqL e274 ?_
        refine Z_iload hk 0 dL_law_795 rfl ?_
        refine Z_i2l hk dL_law_797 ?_
        refine Z_lcmp hk dL_law_798 ?_
        refine Z_if_eq hk (tgt := 804) dL_law_799 (by decide) (fun c276 => ?_) (fun c276 => ?_)
        · have h := if_yes h c276
          refine Z_sub [2, 3, 4, 5, 6] rfl ?_
          refine Z_widen (cs' := cs + 5) (ss' := ss + 30) (by omega) (by omega) ?_
          exact w_L_law_804 hsc cs ss hc1 hc2 hk hfl hq F k23 hk23 a1 a2 a3 a4 ha1 ha2 ha3 s269 h
        · have h := if_no h c276
          refine Z_iconst hk dL_law_802 zc_iconst_0 ?_
          cases h
          exact absurd hq.1 (by decide)
      · have h := if_no h c272
        refine Z_sub [2, 3, 4, 5, 6] rfl ?_
        refine Z_widen (cs' := cs + 5) (ss' := ss + 30) (by omega) (by omega) ?_
        exact w_L_law_804 hsc cs ss hc1 hc2 hk hfl hq F k23 hk23 a1 a2 a3 a4 ha1 ha2 ha3 s269 h
    · have h := if_no h c271
      refine Z_iconst hk dL_law_785 zc_iconst_0 ?_
      cases h
      exact absurd hq.1 (by decide)
set_option maxRecDepth 100000 in
set_option maxHeartbeats 4000000 in
theorem w_L_law_860 {K : zK} {b L : Nat} {xs : Nat → Int32} (hsc : zSc K b L xs) (cs ss : Nat) (hc1 : cs + 5 ≤ 601024) (hc2 : ss + 30 ≤ 7293033) (hk : zIs K RL cL_law 8 wsL_law (some .boolean) room_1) (hfl : (kL K).stackTraces = false) {r0 : Int32} {τ0 : zST} (hq : zQL K b r0) (F : Nat) (k23 : Nat → Nat → Nat → Int32 → zST → Option (Int32 × zST)) (hk23 : ∀ (a1 : Nat) (a2 : Nat) (a3 : Nat) (a4 : Int32) (ha1 : atCanonCote (kZ K) a1) (ha2 : atCanonCoteModel (kZ K) a2) (ha3 : aJ (kZ K) a3 1) (σ : zST), k23 a1 a2 a3 a4 σ = some (r0, τ0) → Z K (cs + 5) (ss + 30) 23 [(0, .ref b), (1, .ref (eA (kZ K) a1)), (2, .ref (eA (kZ K) a2)), (3, .ref (eA (kZ K) a3)), (4, .int a4)] [] σ) (a1 : Nat) (a2 : Nat) (a3 : Nat) (a4 : Int32) (ha1 : atCanonCote (kZ K) a1) (ha2 : atCanonCoteModel (kZ K) a2) (ha3 : aJ (kZ K) a3 1) (σ : zST) (h : m_L_law_860 F L xs k23 a1 a2 a3 a4 σ = some (r0, τ0)) : Z K (cs + 5) (ss + 30) 860 [(0, .ref b), (1, .ref (eA (kZ K) a1)), (2, .ref (eA (kZ K) a2)), (3, .ref (eA (kZ K) a3)), (4, .int a4)] [] σ := by
  unfold m_L_law_860 at h
  refine Z_goto hk (tgt := 1834) dL_law_860 (by decide) ?_
  refine Z_sub [0, 1, 2, 3, 4] rfl ?_
  exact w_L_law_1834 hsc cs ss hc1 hc2 hk hfl hq F k23 hk23 a1 a2 a3 a4 ha1 ha2 ha3 σ h
set_option maxRecDepth 100000 in
set_option maxHeartbeats 4000000 in
theorem w_L_law_807 {K : zK} {b L : Nat} {xs : Nat → Int32} (hsc : zSc K b L xs) (cs ss : Nat) (hc1 : cs + 5 ≤ 601024) (hc2 : ss + 30 ≤ 7293033) (hk : zIs K RL cL_law 8 wsL_law (some .boolean) room_1) (hfl : (kL K).stackTraces = false) {r0 : Int32} {τ0 : zST} (hq : zQL K b r0) (F : Nat) (k23 : Nat → Nat → Nat → Int32 → zST → Option (Int32 × zST)) (hk23 : ∀ (a1 : Nat) (a2 : Nat) (a3 : Nat) (a4 : Int32) (ha1 : atCanonCote (kZ K) a1) (ha2 : atCanonCoteModel (kZ K) a2) (ha3 : aJ (kZ K) a3 1) (σ : zST), k23 a1 a2 a3 a4 σ = some (r0, τ0) → Z K (cs + 5) (ss + 30) 23 [(0, .ref b), (1, .ref (eA (kZ K) a1)), (2, .ref (eA (kZ K) a2)), (3, .ref (eA (kZ K) a3)), (4, .int a4)] [] σ) (a1 : Nat) (a2 : Nat) (a3 : Nat) (a4 : Int32) (ha1 : atCanonCote (kZ K) a1) (ha2 : atCanonCoteModel (kZ K) a2) (ha3 : aJ (kZ K) a3 1) (σ : zST) (h : m_L_law_807 F L xs k23 a1 a2 a3 a4 σ = some (r0, τ0)) : Z K cs ss 807 [(0, .ref b), (1, .ref (eA (kZ K) a1)), (2, .ref (eA (kZ K) a2)), (3, .ref (eA (kZ K) a3)), (4, .int a4)] [] σ := by
  unfold m_L_law_807 at h
  refine Z_aload_n hk 1 dL_law_807 rfl rfl ?_
  refine Z_aload_n hk 0 dL_law_808 rfl rfl ?_
  refine Z_iload hk 4 dL_law_809 rfl ?_
  refine Z_iconst hk dL_law_811 zc_iconst_1 ?_
  refine Z_iadd hk dL_law_812 ?_
  obtain ⟨i279, x277, e278, h⟩ := ldT_get h
  refine Z_sld hk hsc i279 dL_law_813 ?_
  refine Z_eqI e278 ?_
  refine Z_aload_n hk 3 dL_law_814 rfl rfl ?_
  obtain ⟨x280, s281, h282, h⟩ := bd_ok h
  · refine ZX_callW 3 hk [.ref (eA (kZ K) a1), .int x277, .ref (eA (kZ K) a3)] (c_L_classes hk.loc hk.inj hfl F 1 a1 x277 a3 ha1 ha3 σ h282) gL_law_L_classes rfl ⟨by decide +kernel, by decide +kernel, by decide +kernel⟩ ⟨Nat.le_of_ble_eq_true rfl, Nat.le_of_ble_eq_true rfl⟩ rfl rfl (Nat.le_of_ble_eq_true rfl) ⟨by show cs + 0 + 1 ≤ 601024; omega, by show ss + 0 + 6 ≤ 7293033; omega⟩ dL_law_815 (fun X hX => by cases hX) (fun v hv => ?_)
    cases hv
    show Z K (cs + 1) (ss + 6) 818 [(0, .ref b), (1, .ref (eA (kZ K) a1)), (2, .ref (eA (kZ K) a2)), (3, .ref (eA (kZ K) a3)), (4, .int a4)] [.int x280] s281
    refine Z_istore hk (lv' := [(5, .int x280), (0, .ref b), (1, .ref (eA (kZ K) a1)), (2, .ref (eA (kZ K) a2)), (3, .ref (eA (kZ K) a3)), (4, .int a4)]) dL_law_818 (by decide) rfl ?_
    refine Z_aload_n hk 3 dL_law_820 rfl rfl ?_
    refine Z_aload_n hk 1 dL_law_821 rfl rfl ?_
    refine Z_iload hk 5 dL_law_822 rfl ?_
    refine Z_iconst hk dL_law_824 zc_iconst_1 ?_
    refine Z_iadd hk dL_law_825 ?_
    obtain ⟨i286, x284, e285, h⟩ := ldT_get h
    refine Z_sld hk hsc i286 dL_law_826 ?_
    refine Z_eqI e285 ?_
    obtain ⟨x287, s288, h289, h⟩ := bd_ok h
    refine Z_callV 1 hk [.int x284] (c_X8_classes hk.loc hk.inj F a2 x284 ha2 s281 h289) gL_law_X8_classes rfl ⟨rfl, rfl⟩ (by decide +kernel) ⟨Nat.le_of_ble_eq_true rfl, Nat.le_of_ble_eq_true rfl⟩ ha2.cell.1 (ha2.cell.2 _) rfl rfl rfl (Nat.le_of_ble_eq_true rfl) ⟨by show cs + 1 + 0 ≤ 601024; omega, by show ss + 6 + 0 ≤ 7293033; omega⟩ dL_law_827 ?_
    show Z K (cs + 1) (ss + 6) 830 [(5, .int x280), (0, .ref b), (1, .ref (eA (kZ K) a1)), (2, .ref (eA (kZ K) a2)), (3, .ref (eA (kZ K) a3)), (4, .int a4)] [.int x287] s288
    refine Z_istore hk (lv' := [(6, .int x287), (5, .int x280), (0, .ref b), (1, .ref (eA (kZ K) a1)), (2, .ref (eA (kZ K) a2)), (3, .ref (eA (kZ K) a3)), (4, .int a4)]) dL_law_830 (by decide) rfl ?_
    refine Z_aload_n hk 4 dL_law_832 rfl rfl ?_
    obtain ⟨x290, s291, h292, h⟩ := bd_ok h
    refine Z_callV 0 hk [] (c_X8_thrown hk.loc hk.inj F a2 ha2 s288 h292) gL_law_X8_thrown rfl ⟨rfl, rfl⟩ (by decide +kernel) ⟨Nat.le_of_ble_eq_true rfl, Nat.le_of_ble_eq_true rfl⟩ ha2.cell.1 (ha2.cell.2 _) rfl rfl rfl (Nat.le_of_ble_eq_true rfl) ⟨by show cs + 1 + 0 ≤ 601024; omega, by show ss + 6 + 0 ≤ 7293033; omega⟩ dL_law_833 ?_
    show Z K (cs + 1) (ss + 6) 836 [(6, .int x287), (5, .int x280), (0, .ref b), (1, .ref (eA (kZ K) a1)), (2, .ref (eA (kZ K) a2)), (3, .ref (eA (kZ K) a3)), (4, .int a4)] [.int x290] s291
    refine Z_iload hk 1 dL_law_836 rfl ?_
    refine Z_icmp_eq hk (tgt := 843) dL_law_838 (by decide) (fun c293 => ?_) (fun c293 => ?_)
    · have h := if_yes h c293
      refine Z_iload hk 1 dL_law_843 rfl ?_
      refine Z_if_ne hk (tgt := 860) dL_law_845 (by decide) (fun c294 => ?_) (fun c294 => ?_)
      · have h := if_yes h c294
        refine Z_aload_n hk 5 dL_law_848 rfl rfl ?_
        refine Z_iconst hk dL_law_849 zc_iconst_0 ?_
        obtain ⟨i297, x295, e296, h⟩ := ldL_get h
        refine Z_lald hk ha3 i297 dL_law_850 ?_
        refine Z_eqL e296 ?_
        refine Z_iload hk 0 dL_law_851 rfl ?_
        refine Z_i2l hk dL_law_853 ?_
        refine Z_lcmp hk dL_law_854 ?_
        refine Z_if_eq hk (tgt := 860) dL_law_855 (by decide) (fun c298 => ?_) (fun c298 => ?_)
        · have h := if_yes h c298
          refine Z_sub [2, 3, 4, 5, 6] rfl ?_
          refine Z_widen (cs' := cs + 5) (ss' := ss + 30) (by omega) (by omega) ?_
          exact w_L_law_860 hsc cs ss hc1 hc2 hk hfl hq F k23 hk23 a1 a2 a3 a4 ha1 ha2 ha3 s291 h
        · have h := if_no h c298
          refine Z_iconst hk dL_law_858 zc_iconst_0 ?_
          cases h
          exact absurd hq.1 (by decide)
      · have h := if_no h c294
        refine Z_sub [2, 3, 4, 5, 6] rfl ?_
        refine Z_widen (cs' := cs + 5) (ss' := ss + 30) (by omega) (by omega) ?_
        exact w_L_law_860 hsc cs ss hc1 hc2 hk hfl hq F k23 hk23 a1 a2 a3 a4 ha1 ha2 ha3 s291 h
    · have h := if_no h c293
      refine Z_iconst hk dL_law_841 zc_iconst_0 ?_
      cases h
      exact absurd hq.1 (by decide)
set_option maxRecDepth 100000 in
set_option maxHeartbeats 4000000 in
theorem w_L_law_928 {K : zK} {b L : Nat} {xs : Nat → Int32} (hsc : zSc K b L xs) (cs ss : Nat) (hc1 : cs + 5 ≤ 601024) (hc2 : ss + 30 ≤ 7293033) (hk : zIs K RL cL_law 8 wsL_law (some .boolean) room_1) (hfl : (kL K).stackTraces = false) {r0 : Int32} {τ0 : zST} (hq : zQL K b r0) (F : Nat) (k23 : Nat → Nat → Nat → Int32 → zST → Option (Int32 × zST)) (hk23 : ∀ (a1 : Nat) (a2 : Nat) (a3 : Nat) (a4 : Int32) (ha1 : atCanonCote (kZ K) a1) (ha2 : atCanonCoteModel (kZ K) a2) (ha3 : aJ (kZ K) a3 1) (σ : zST), k23 a1 a2 a3 a4 σ = some (r0, τ0) → Z K (cs + 5) (ss + 30) 23 [(0, .ref b), (1, .ref (eA (kZ K) a1)), (2, .ref (eA (kZ K) a2)), (3, .ref (eA (kZ K) a3)), (4, .int a4)] [] σ) (a1 : Nat) (a2 : Nat) (a3 : Nat) (a4 : Int32) (ha1 : atCanonCote (kZ K) a1) (ha2 : atCanonCoteModel (kZ K) a2) (ha3 : aJ (kZ K) a3 1) (σ : zST) (h : m_L_law_928 F L xs k23 a1 a2 a3 a4 σ = some (r0, τ0)) : Z K (cs + 5) (ss + 30) 928 [(0, .ref b), (1, .ref (eA (kZ K) a1)), (2, .ref (eA (kZ K) a2)), (3, .ref (eA (kZ K) a3)), (4, .int a4)] [] σ := by
  unfold m_L_law_928 at h
  refine Z_goto hk (tgt := 1834) dL_law_928 (by decide) ?_
  refine Z_sub [0, 1, 2, 3, 4] rfl ?_
  exact w_L_law_1834 hsc cs ss hc1 hc2 hk hfl hq F k23 hk23 a1 a2 a3 a4 ha1 ha2 ha3 σ h
set_option maxRecDepth 100000 in
set_option maxHeartbeats 4000000 in
theorem w_L_law_863 {K : zK} {b L : Nat} {xs : Nat → Int32} (hsc : zSc K b L xs) (cs ss : Nat) (hc1 : cs + 5 ≤ 601024) (hc2 : ss + 30 ≤ 7293033) (hk : zIs K RL cL_law 8 wsL_law (some .boolean) room_1) (hfl : (kL K).stackTraces = false) {r0 : Int32} {τ0 : zST} (hq : zQL K b r0) (F : Nat) (k23 : Nat → Nat → Nat → Int32 → zST → Option (Int32 × zST)) (hk23 : ∀ (a1 : Nat) (a2 : Nat) (a3 : Nat) (a4 : Int32) (ha1 : atCanonCote (kZ K) a1) (ha2 : atCanonCoteModel (kZ K) a2) (ha3 : aJ (kZ K) a3 1) (σ : zST), k23 a1 a2 a3 a4 σ = some (r0, τ0) → Z K (cs + 5) (ss + 30) 23 [(0, .ref b), (1, .ref (eA (kZ K) a1)), (2, .ref (eA (kZ K) a2)), (3, .ref (eA (kZ K) a3)), (4, .int a4)] [] σ) (a1 : Nat) (a2 : Nat) (a3 : Nat) (a4 : Int32) (ha1 : atCanonCote (kZ K) a1) (ha2 : atCanonCoteModel (kZ K) a2) (ha3 : aJ (kZ K) a3 1) (σ : zST) (h : m_L_law_863 F L xs k23 a1 a2 a3 a4 σ = some (r0, τ0)) : Z K cs ss 863 [(0, .ref b), (1, .ref (eA (kZ K) a1)), (2, .ref (eA (kZ K) a2)), (3, .ref (eA (kZ K) a3)), (4, .int a4)] [] σ := by
  unfold m_L_law_863 at h
  refine Z_aload_n hk 1 dL_law_863 rfl rfl ?_
  refine Z_aload_n hk 0 dL_law_864 rfl rfl ?_
  refine Z_iload hk 4 dL_law_865 rfl ?_
  refine Z_iconst hk dL_law_867 zc_iconst_1 ?_
  refine Z_iadd hk dL_law_868 ?_
  obtain ⟨i301, x299, e300, h⟩ := ldT_get h
  refine Z_sld hk hsc i301 dL_law_869 ?_
  refine Z_eqI e300 ?_
  refine Z_aload_n hk 0 dL_law_870 rfl rfl ?_
  refine Z_iload hk 4 dL_law_871 rfl ?_
  refine Z_iconst hk dL_law_873 zc_iconst_2 ?_
  refine Z_iadd hk dL_law_874 ?_
  obtain ⟨i304, x302, e303, h⟩ := ldT_get h
  refine Z_sld hk hsc i304 dL_law_875 ?_
  refine Z_eqI e303 ?_
  refine Z_aload_n hk 3 dL_law_876 rfl rfl ?_
  obtain ⟨x305, s306, h307, h⟩ := bd_ok h
  · refine ZX_callW 4 hk [.ref (eA (kZ K) a1), .int x299, .int x302, .ref (eA (kZ K) a3)] (c_L_classOf hk.loc hk.inj hfl F 1 a1 x299 x302 a3 ha1 ha3 σ h307) gL_law_L_classOf rfl ⟨by decide +kernel, by decide +kernel, by decide +kernel⟩ ⟨Nat.le_of_ble_eq_true rfl, Nat.le_of_ble_eq_true rfl⟩ rfl rfl (Nat.le_of_ble_eq_true rfl) ⟨by show cs + 0 + 2 ≤ 601024; omega, by show ss + 0 + 12 ≤ 7293033; omega⟩ dL_law_877 (fun X hX => by cases hX) (fun v hv => ?_)
    cases hv
    show Z K (cs + 2) (ss + 12) 880 [(0, .ref b), (1, .ref (eA (kZ K) a1)), (2, .ref (eA (kZ K) a2)), (3, .ref (eA (kZ K) a3)), (4, .int a4)] [.int x305] s306
    refine Z_istore hk (lv' := [(5, .int x305), (0, .ref b), (1, .ref (eA (kZ K) a1)), (2, .ref (eA (kZ K) a2)), (3, .ref (eA (kZ K) a3)), (4, .int a4)]) dL_law_880 (by decide) rfl ?_
    refine Z_aload_n hk 3 dL_law_882 rfl rfl ?_
    refine Z_aload_n hk 1 dL_law_883 rfl rfl ?_
    refine Z_iload hk 5 dL_law_884 rfl ?_
    refine Z_iconst hk dL_law_886 zc_iconst_1 ?_
    refine Z_iadd hk dL_law_887 ?_
    obtain ⟨i311, x309, e310, h⟩ := ldT_get h
    refine Z_sld hk hsc i311 dL_law_888 ?_
    refine Z_eqI e310 ?_
    refine Z_aload_n hk 1 dL_law_889 rfl rfl ?_
    refine Z_iload hk 5 dL_law_890 rfl ?_
    refine Z_iconst hk dL_law_892 zc_iconst_2 ?_
    refine Z_iadd hk dL_law_893 ?_
    obtain ⟨i314, x312, e313, h⟩ := ldT_get h
    refine Z_sld hk hsc i314 dL_law_894 ?_
    refine Z_eqI e313 ?_
    obtain ⟨x315, s316, h317, h⟩ := bd_ok h
    refine Z_callV 2 hk [.int x309, .int x312] (c_X8_classOf hk.loc hk.inj F a2 x309 x312 ha2 s306 h317) gL_law_X8_classOf rfl ⟨rfl, rfl⟩ (by decide +kernel) ⟨Nat.le_of_ble_eq_true rfl, Nat.le_of_ble_eq_true rfl⟩ ha2.cell.1 (ha2.cell.2 _) rfl rfl rfl (Nat.le_of_ble_eq_true rfl) ⟨by show cs + 2 + 0 ≤ 601024; omega, by show ss + 12 + 0 ≤ 7293033; omega⟩ dL_law_895 ?_
    show Z K (cs + 2) (ss + 12) 898 [(5, .int x305), (0, .ref b), (1, .ref (eA (kZ K) a1)), (2, .ref (eA (kZ K) a2)), (3, .ref (eA (kZ K) a3)), (4, .int a4)] [.int x315] s316
    refine Z_istore hk (lv' := [(6, .int x315), (5, .int x305), (0, .ref b), (1, .ref (eA (kZ K) a1)), (2, .ref (eA (kZ K) a2)), (3, .ref (eA (kZ K) a3)), (4, .int a4)]) dL_law_898 (by decide) rfl ?_
    refine Z_aload_n hk 4 dL_law_900 rfl rfl ?_
    obtain ⟨x318, s319, h320, h⟩ := bd_ok h
    refine Z_callV 0 hk [] (c_X8_thrown hk.loc hk.inj F a2 ha2 s316 h320) gL_law_X8_thrown rfl ⟨rfl, rfl⟩ (by decide +kernel) ⟨Nat.le_of_ble_eq_true rfl, Nat.le_of_ble_eq_true rfl⟩ ha2.cell.1 (ha2.cell.2 _) rfl rfl rfl (Nat.le_of_ble_eq_true rfl) ⟨by show cs + 2 + 0 ≤ 601024; omega, by show ss + 12 + 0 ≤ 7293033; omega⟩ dL_law_901 ?_
    show Z K (cs + 2) (ss + 12) 904 [(6, .int x315), (5, .int x305), (0, .ref b), (1, .ref (eA (kZ K) a1)), (2, .ref (eA (kZ K) a2)), (3, .ref (eA (kZ K) a3)), (4, .int a4)] [.int x318] s319
    refine Z_iload hk 1 dL_law_904 rfl ?_
    refine Z_icmp_eq hk (tgt := 911) dL_law_906 (by decide) (fun c321 => ?_) (fun c321 => ?_)
    · have h := if_yes h c321
      refine Z_iload hk 1 dL_law_911 rfl ?_
      refine Z_if_ne hk (tgt := 928) dL_law_913 (by decide) (fun c322 => ?_) (fun c322 => ?_)
      · have h := if_yes h c322
        refine Z_aload_n hk 5 dL_law_916 rfl rfl ?_
        refine Z_iconst hk dL_law_917 zc_iconst_0 ?_
        obtain ⟨i325, x323, e324, h⟩ := ldL_get h
        refine Z_lald hk ha3 i325 dL_law_918 ?_
        refine Z_eqL e324 ?_
        refine Z_iload hk 0 dL_law_919 rfl ?_
        refine Z_i2l hk dL_law_921 ?_
        refine Z_lcmp hk dL_law_922 ?_
        refine Z_if_eq hk (tgt := 928) dL_law_923 (by decide) (fun c326 => ?_) (fun c326 => ?_)
        · have h := if_yes h c326
          refine Z_sub [2, 3, 4, 5, 6] rfl ?_
          refine Z_widen (cs' := cs + 5) (ss' := ss + 30) (by omega) (by omega) ?_
          exact w_L_law_928 hsc cs ss hc1 hc2 hk hfl hq F k23 hk23 a1 a2 a3 a4 ha1 ha2 ha3 s319 h
        · have h := if_no h c326
          refine Z_iconst hk dL_law_926 zc_iconst_0 ?_
          cases h
          exact absurd hq.1 (by decide)
      · have h := if_no h c322
        refine Z_sub [2, 3, 4, 5, 6] rfl ?_
        refine Z_widen (cs' := cs + 5) (ss' := ss + 30) (by omega) (by omega) ?_
        exact w_L_law_928 hsc cs ss hc1 hc2 hk hfl hq F k23 hk23 a1 a2 a3 a4 ha1 ha2 ha3 s319 h
    · have h := if_no h c321
      refine Z_iconst hk dL_law_909 zc_iconst_0 ?_
      cases h
      exact absurd hq.1 (by decide)
set_option maxRecDepth 100000 in
set_option maxHeartbeats 4000000 in
theorem w_L_law_984 {K : zK} {b L : Nat} {xs : Nat → Int32} (hsc : zSc K b L xs) (cs ss : Nat) (hc1 : cs + 5 ≤ 601024) (hc2 : ss + 30 ≤ 7293033) (hk : zIs K RL cL_law 8 wsL_law (some .boolean) room_1) (hfl : (kL K).stackTraces = false) {r0 : Int32} {τ0 : zST} (hq : zQL K b r0) (F : Nat) (k23 : Nat → Nat → Nat → Int32 → zST → Option (Int32 × zST)) (hk23 : ∀ (a1 : Nat) (a2 : Nat) (a3 : Nat) (a4 : Int32) (ha1 : atCanonCote (kZ K) a1) (ha2 : atCanonCoteModel (kZ K) a2) (ha3 : aJ (kZ K) a3 1) (σ : zST), k23 a1 a2 a3 a4 σ = some (r0, τ0) → Z K (cs + 5) (ss + 30) 23 [(0, .ref b), (1, .ref (eA (kZ K) a1)), (2, .ref (eA (kZ K) a2)), (3, .ref (eA (kZ K) a3)), (4, .int a4)] [] σ) (a1 : Nat) (a2 : Nat) (a3 : Nat) (a4 : Int32) (ha1 : atCanonCote (kZ K) a1) (ha2 : atCanonCoteModel (kZ K) a2) (ha3 : aJ (kZ K) a3 1) (σ : zST) (h : m_L_law_984 F L xs k23 a1 a2 a3 a4 σ = some (r0, τ0)) : Z K (cs + 5) (ss + 30) 984 [(0, .ref b), (1, .ref (eA (kZ K) a1)), (2, .ref (eA (kZ K) a2)), (3, .ref (eA (kZ K) a3)), (4, .int a4)] [] σ := by
  unfold m_L_law_984 at h
  refine Z_goto hk (tgt := 1834) dL_law_984 (by decide) ?_
  refine Z_sub [0, 1, 2, 3, 4] rfl ?_
  exact w_L_law_1834 hsc cs ss hc1 hc2 hk hfl hq F k23 hk23 a1 a2 a3 a4 ha1 ha2 ha3 σ h
set_option maxRecDepth 100000 in
set_option maxHeartbeats 4000000 in
theorem w_L_law_931 {K : zK} {b L : Nat} {xs : Nat → Int32} (hsc : zSc K b L xs) (cs ss : Nat) (hc1 : cs + 5 ≤ 601024) (hc2 : ss + 30 ≤ 7293033) (hk : zIs K RL cL_law 8 wsL_law (some .boolean) room_1) (hfl : (kL K).stackTraces = false) {r0 : Int32} {τ0 : zST} (hq : zQL K b r0) (F : Nat) (k23 : Nat → Nat → Nat → Int32 → zST → Option (Int32 × zST)) (hk23 : ∀ (a1 : Nat) (a2 : Nat) (a3 : Nat) (a4 : Int32) (ha1 : atCanonCote (kZ K) a1) (ha2 : atCanonCoteModel (kZ K) a2) (ha3 : aJ (kZ K) a3 1) (σ : zST), k23 a1 a2 a3 a4 σ = some (r0, τ0) → Z K (cs + 5) (ss + 30) 23 [(0, .ref b), (1, .ref (eA (kZ K) a1)), (2, .ref (eA (kZ K) a2)), (3, .ref (eA (kZ K) a3)), (4, .int a4)] [] σ) (a1 : Nat) (a2 : Nat) (a3 : Nat) (a4 : Int32) (ha1 : atCanonCote (kZ K) a1) (ha2 : atCanonCoteModel (kZ K) a2) (ha3 : aJ (kZ K) a3 1) (σ : zST) (h : m_L_law_931 F L xs k23 a1 a2 a3 a4 σ = some (r0, τ0)) : Z K cs ss 931 [(0, .ref b), (1, .ref (eA (kZ K) a1)), (2, .ref (eA (kZ K) a2)), (3, .ref (eA (kZ K) a3)), (4, .int a4)] [] σ := by
  unfold m_L_law_931 at h
  refine Z_aload_n hk 1 dL_law_931 rfl rfl ?_
  refine Z_aload_n hk 0 dL_law_932 rfl rfl ?_
  refine Z_iload hk 4 dL_law_933 rfl ?_
  refine Z_iconst hk dL_law_935 zc_iconst_1 ?_
  refine Z_iadd hk dL_law_936 ?_
  obtain ⟨i329, x327, e328, h⟩ := ldT_get h
  refine Z_sld hk hsc i329 dL_law_937 ?_
  refine Z_eqI e328 ?_
  refine Z_aload_n hk 3 dL_law_938 rfl rfl ?_
  obtain ⟨x330, s331, h332, h⟩ := bd_ok h
  · refine ZX_callW 3 hk [.ref (eA (kZ K) a1), .int x327, .ref (eA (kZ K) a3)] (c_L_rounds hk.loc hk.inj hfl F 1 a1 x327 a3 ha1 ha3 σ h332) gL_law_L_rounds rfl ⟨by decide +kernel, by decide +kernel, by decide +kernel⟩ ⟨Nat.le_of_ble_eq_true rfl, Nat.le_of_ble_eq_true rfl⟩ rfl rfl (Nat.le_of_ble_eq_true rfl) ⟨by show cs + 0 + 1 ≤ 601024; omega, by show ss + 0 + 6 ≤ 7293033; omega⟩ dL_law_939 (fun X hX => by cases hX) (fun v hv => ?_)
    cases hv
    show Z K (cs + 1) (ss + 6) 942 [(0, .ref b), (1, .ref (eA (kZ K) a1)), (2, .ref (eA (kZ K) a2)), (3, .ref (eA (kZ K) a3)), (4, .int a4)] [.int x330] s331
    refine Z_istore hk (lv' := [(5, .int x330), (0, .ref b), (1, .ref (eA (kZ K) a1)), (2, .ref (eA (kZ K) a2)), (3, .ref (eA (kZ K) a3)), (4, .int a4)]) dL_law_942 (by decide) rfl ?_
    refine Z_aload_n hk 3 dL_law_944 rfl rfl ?_
    refine Z_aload_n hk 1 dL_law_945 rfl rfl ?_
    refine Z_iload hk 5 dL_law_946 rfl ?_
    refine Z_iconst hk dL_law_948 zc_iconst_1 ?_
    refine Z_iadd hk dL_law_949 ?_
    obtain ⟨i336, x334, e335, h⟩ := ldT_get h
    refine Z_sld hk hsc i336 dL_law_950 ?_
    refine Z_eqI e335 ?_
    obtain ⟨x337, s338, h339, h⟩ := bd_ok h
    refine Z_callV 1 hk [.int x334] (c_X8_rounds hk.loc hk.inj F a2 x334 ha2 s331 h339) gL_law_X8_rounds rfl ⟨rfl, rfl⟩ (by decide +kernel) ⟨Nat.le_of_ble_eq_true rfl, Nat.le_of_ble_eq_true rfl⟩ ha2.cell.1 (ha2.cell.2 _) rfl rfl rfl (Nat.le_of_ble_eq_true rfl) ⟨by show cs + 1 + 0 ≤ 601024; omega, by show ss + 6 + 0 ≤ 7293033; omega⟩ dL_law_951 ?_
    show Z K (cs + 1) (ss + 6) 954 [(5, .int x330), (0, .ref b), (1, .ref (eA (kZ K) a1)), (2, .ref (eA (kZ K) a2)), (3, .ref (eA (kZ K) a3)), (4, .int a4)] [.int x337] s338
    refine Z_istore hk (lv' := [(6, .int x337), (5, .int x330), (0, .ref b), (1, .ref (eA (kZ K) a1)), (2, .ref (eA (kZ K) a2)), (3, .ref (eA (kZ K) a3)), (4, .int a4)]) dL_law_954 (by decide) rfl ?_
    refine Z_aload_n hk 4 dL_law_956 rfl rfl ?_
    obtain ⟨x340, s341, h342, h⟩ := bd_ok h
    refine Z_callV 0 hk [] (c_X8_thrown hk.loc hk.inj F a2 ha2 s338 h342) gL_law_X8_thrown rfl ⟨rfl, rfl⟩ (by decide +kernel) ⟨Nat.le_of_ble_eq_true rfl, Nat.le_of_ble_eq_true rfl⟩ ha2.cell.1 (ha2.cell.2 _) rfl rfl rfl (Nat.le_of_ble_eq_true rfl) ⟨by show cs + 1 + 0 ≤ 601024; omega, by show ss + 6 + 0 ≤ 7293033; omega⟩ dL_law_957 ?_
    show Z K (cs + 1) (ss + 6) 960 [(6, .int x337), (5, .int x330), (0, .ref b), (1, .ref (eA (kZ K) a1)), (2, .ref (eA (kZ K) a2)), (3, .ref (eA (kZ K) a3)), (4, .int a4)] [.int x340] s341
    refine Z_iload hk 1 dL_law_960 rfl ?_
    refine Z_icmp_eq hk (tgt := 967) dL_law_962 (by decide) (fun c343 => ?_) (fun c343 => ?_)
    · have h := if_yes h c343
      refine Z_iload hk 1 dL_law_967 rfl ?_
      refine Z_if_ne hk (tgt := 984) dL_law_969 (by decide) (fun c344 => ?_) (fun c344 => ?_)
      · have h := if_yes h c344
        refine Z_aload_n hk 5 dL_law_972 rfl rfl ?_
        refine Z_iconst hk dL_law_973 zc_iconst_0 ?_
        obtain ⟨i347, x345, e346, h⟩ := ldL_get h
        refine Z_lald hk ha3 i347 dL_law_974 ?_
        refine Z_eqL e346 ?_
        refine Z_iload hk 0 dL_law_975 rfl ?_
        refine Z_i2l hk dL_law_977 ?_
        refine Z_lcmp hk dL_law_978 ?_
        refine Z_if_eq hk (tgt := 984) dL_law_979 (by decide) (fun c348 => ?_) (fun c348 => ?_)
        · have h := if_yes h c348
          refine Z_sub [2, 3, 4, 5, 6] rfl ?_
          refine Z_widen (cs' := cs + 5) (ss' := ss + 30) (by omega) (by omega) ?_
          exact w_L_law_984 hsc cs ss hc1 hc2 hk hfl hq F k23 hk23 a1 a2 a3 a4 ha1 ha2 ha3 s341 h
        · have h := if_no h c348
          refine Z_iconst hk dL_law_982 zc_iconst_0 ?_
          cases h
          exact absurd hq.1 (by decide)
      · have h := if_no h c344
        refine Z_sub [2, 3, 4, 5, 6] rfl ?_
        refine Z_widen (cs' := cs + 5) (ss' := ss + 30) (by omega) (by omega) ?_
        exact w_L_law_984 hsc cs ss hc1 hc2 hk hfl hq F k23 hk23 a1 a2 a3 a4 ha1 ha2 ha3 s341 h
    · have h := if_no h c343
      refine Z_iconst hk dL_law_965 zc_iconst_0 ?_
      cases h
      exact absurd hq.1 (by decide)
set_option maxRecDepth 100000 in
set_option maxHeartbeats 4000000 in
theorem w_L_law_1039 {K : zK} {b L : Nat} {xs : Nat → Int32} (hsc : zSc K b L xs) (cs ss : Nat) (hc1 : cs + 5 ≤ 601024) (hc2 : ss + 30 ≤ 7293033) (hk : zIs K RL cL_law 8 wsL_law (some .boolean) room_1) (hfl : (kL K).stackTraces = false) {r0 : Int32} {τ0 : zST} (hq : zQL K b r0) (F : Nat) (k23 : Nat → Nat → Nat → Int32 → zST → Option (Int32 × zST)) (hk23 : ∀ (a1 : Nat) (a2 : Nat) (a3 : Nat) (a4 : Int32) (ha1 : atCanonCote (kZ K) a1) (ha2 : atCanonCoteModel (kZ K) a2) (ha3 : aJ (kZ K) a3 1) (σ : zST), k23 a1 a2 a3 a4 σ = some (r0, τ0) → Z K (cs + 5) (ss + 30) 23 [(0, .ref b), (1, .ref (eA (kZ K) a1)), (2, .ref (eA (kZ K) a2)), (3, .ref (eA (kZ K) a3)), (4, .int a4)] [] σ) (a1 : Nat) (a2 : Nat) (a3 : Nat) (a4 : Int32) (ha1 : atCanonCote (kZ K) a1) (ha2 : atCanonCoteModel (kZ K) a2) (ha3 : aJ (kZ K) a3 1) (σ : zST) (h : m_L_law_1039 F L xs k23 a1 a2 a3 a4 σ = some (r0, τ0)) : Z K (cs + 5) (ss + 30) 1039 [(0, .ref b), (1, .ref (eA (kZ K) a1)), (2, .ref (eA (kZ K) a2)), (3, .ref (eA (kZ K) a3)), (4, .int a4)] [] σ := by
  unfold m_L_law_1039 at h
  refine Z_goto hk (tgt := 1834) dL_law_1039 (by decide) ?_
  refine Z_sub [0, 1, 2, 3, 4] rfl ?_
  exact w_L_law_1834 hsc cs ss hc1 hc2 hk hfl hq F k23 hk23 a1 a2 a3 a4 ha1 ha2 ha3 σ h
set_option maxRecDepth 100000 in
set_option maxHeartbeats 4000000 in
theorem w_L_law_987 {K : zK} {b L : Nat} {xs : Nat → Int32} (hsc : zSc K b L xs) (cs ss : Nat) (hc1 : cs + 5 ≤ 601024) (hc2 : ss + 30 ≤ 7293033) (hk : zIs K RL cL_law 8 wsL_law (some .boolean) room_1) (hfl : (kL K).stackTraces = false) {r0 : Int32} {τ0 : zST} (hq : zQL K b r0) (F : Nat) (k23 : Nat → Nat → Nat → Int32 → zST → Option (Int32 × zST)) (hk23 : ∀ (a1 : Nat) (a2 : Nat) (a3 : Nat) (a4 : Int32) (ha1 : atCanonCote (kZ K) a1) (ha2 : atCanonCoteModel (kZ K) a2) (ha3 : aJ (kZ K) a3 1) (σ : zST), k23 a1 a2 a3 a4 σ = some (r0, τ0) → Z K (cs + 5) (ss + 30) 23 [(0, .ref b), (1, .ref (eA (kZ K) a1)), (2, .ref (eA (kZ K) a2)), (3, .ref (eA (kZ K) a3)), (4, .int a4)] [] σ) (a1 : Nat) (a2 : Nat) (a3 : Nat) (a4 : Int32) (ha1 : atCanonCote (kZ K) a1) (ha2 : atCanonCoteModel (kZ K) a2) (ha3 : aJ (kZ K) a3 1) (σ : zST) (h : m_L_law_987 F L xs k23 a1 a2 a3 a4 σ = some (r0, τ0)) : Z K cs ss 987 [(0, .ref b), (1, .ref (eA (kZ K) a1)), (2, .ref (eA (kZ K) a2)), (3, .ref (eA (kZ K) a3)), (4, .int a4)] [] σ := by
  unfold m_L_law_987 at h
  refine Z_aload_n hk 1 dL_law_987 rfl rfl ?_
  refine Z_aload_n hk 0 dL_law_988 rfl rfl ?_
  refine Z_iload hk 4 dL_law_989 rfl ?_
  refine Z_iconst hk dL_law_991 zc_iconst_1 ?_
  refine Z_iadd hk dL_law_992 ?_
  obtain ⟨i351, x349, e350, h⟩ := ldT_get h
  refine Z_sld hk hsc i351 dL_law_993 ?_
  refine Z_eqI e350 ?_
  refine Z_aload_n hk 3 dL_law_994 rfl rfl ?_
  obtain ⟨x352, s353, h354, h⟩ := bd_ok h
  · refine ZX_callW 3 hk [.ref (eA (kZ K) a1), .int x349, .ref (eA (kZ K) a3)] (c_L_form hk.loc hk.inj hfl F 1 a1 x349 a3 ha1 ha3 σ h354) gL_law_L_form rfl ⟨by decide +kernel, by decide +kernel, by decide +kernel⟩ ⟨Nat.le_of_ble_eq_true rfl, Nat.le_of_ble_eq_true rfl⟩ rfl rfl (Nat.le_of_ble_eq_true rfl) ⟨by show cs + 0 + 1 ≤ 601024; omega, by show ss + 0 + 6 ≤ 7293033; omega⟩ dL_law_995 (fun X hX => by cases hX) (fun v hv => ?_)
    cases hv
    show Z K (cs + 1) (ss + 6) 998 [(0, .ref b), (1, .ref (eA (kZ K) a1)), (2, .ref (eA (kZ K) a2)), (3, .ref (eA (kZ K) a3)), (4, .int a4)] [.int x352] s353
    refine Z_istore hk (lv' := [(5, .int x352), (0, .ref b), (1, .ref (eA (kZ K) a1)), (2, .ref (eA (kZ K) a2)), (3, .ref (eA (kZ K) a3)), (4, .int a4)]) dL_law_998 (by decide) rfl ?_
    refine Z_aload_n hk 3 dL_law_1000 rfl rfl ?_
    refine Z_aload_n hk 1 dL_law_1001 rfl rfl ?_
    refine Z_iload hk 5 dL_law_1002 rfl ?_
    refine Z_iconst hk dL_law_1004 zc_iconst_1 ?_
    refine Z_iadd hk dL_law_1005 ?_
    obtain ⟨i358, x356, e357, h⟩ := ldT_get h
    refine Z_sld hk hsc i358 dL_law_1006 ?_
    refine Z_eqI e357 ?_
    obtain ⟨x359, s360, h361, h⟩ := bd_ok h
    refine Z_callV 1 hk [.int x356] (c_X8_form hk.loc hk.inj F a2 x356 ha2 s353 h361) gL_law_X8_form rfl ⟨rfl, rfl⟩ (by decide +kernel) ⟨Nat.le_of_ble_eq_true rfl, Nat.le_of_ble_eq_true rfl⟩ ha2.cell.1 (ha2.cell.2 _) rfl rfl rfl (Nat.le_of_ble_eq_true rfl) ⟨by show cs + 1 + 0 ≤ 601024; omega, by show ss + 6 + 0 ≤ 7293033; omega⟩ dL_law_1007 ?_
    show Z K (cs + 1) (ss + 6) 1010 [(5, .int x352), (0, .ref b), (1, .ref (eA (kZ K) a1)), (2, .ref (eA (kZ K) a2)), (3, .ref (eA (kZ K) a3)), (4, .int a4)] [.long x359] s360
    refine Z_lstore hk (lv' := [(6, .long x359), (5, .int x352), (0, .ref b), (1, .ref (eA (kZ K) a1)), (2, .ref (eA (kZ K) a2)), (3, .ref (eA (kZ K) a3)), (4, .int a4)]) dL_law_1010 (by decide) rfl ?_
    refine Z_aload_n hk 4 dL_law_1012 rfl rfl ?_
    obtain ⟨x362, s363, h364, h⟩ := bd_ok h
    refine Z_callV 0 hk [] (c_X8_thrown hk.loc hk.inj F a2 ha2 s360 h364) gL_law_X8_thrown rfl ⟨rfl, rfl⟩ (by decide +kernel) ⟨Nat.le_of_ble_eq_true rfl, Nat.le_of_ble_eq_true rfl⟩ ha2.cell.1 (ha2.cell.2 _) rfl rfl rfl (Nat.le_of_ble_eq_true rfl) ⟨by show cs + 1 + 0 ≤ 601024; omega, by show ss + 6 + 0 ≤ 7293033; omega⟩ dL_law_1013 ?_
    show Z K (cs + 1) (ss + 6) 1016 [(6, .long x359), (5, .int x352), (0, .ref b), (1, .ref (eA (kZ K) a1)), (2, .ref (eA (kZ K) a2)), (3, .ref (eA (kZ K) a3)), (4, .int a4)] [.int x362] s363
    refine Z_iload hk 1 dL_law_1016 rfl ?_
    refine Z_icmp_eq hk (tgt := 1023) dL_law_1018 (by decide) (fun c365 => ?_) (fun c365 => ?_)
    · have h := if_yes h c365
      refine Z_iload hk 1 dL_law_1023 rfl ?_
      refine Z_if_ne hk (tgt := 1039) dL_law_1025 (by decide) (fun c366 => ?_) (fun c366 => ?_)
      · have h := if_yes h c366
        refine Z_aload_n hk 5 dL_law_1028 rfl rfl ?_
        refine Z_iconst hk dL_law_1029 zc_iconst_0 ?_
        obtain ⟨i369, x367, e368, h⟩ := ldL_get h
        refine Z_lald hk ha3 i369 dL_law_1030 ?_
        refine Z_eqL e368 ?_
        refine Z_lload hk 0 dL_law_1031 rfl ?_
        refine Z_lcmp hk dL_law_1033 ?_
        refine Z_if_eq hk (tgt := 1039) dL_law_1034 (by decide) (fun c370 => ?_) (fun c370 => ?_)
        · have h := if_yes h c370
          refine Z_sub [2, 3, 4, 5, 6] rfl ?_
          refine Z_widen (cs' := cs + 5) (ss' := ss + 30) (by omega) (by omega) ?_
          exact w_L_law_1039 hsc cs ss hc1 hc2 hk hfl hq F k23 hk23 a1 a2 a3 a4 ha1 ha2 ha3 s363 h
        · have h := if_no h c370
          refine Z_iconst hk dL_law_1037 zc_iconst_0 ?_
          cases h
          exact absurd hq.1 (by decide)
      · have h := if_no h c366
        refine Z_sub [2, 3, 4, 5, 6] rfl ?_
        refine Z_widen (cs' := cs + 5) (ss' := ss + 30) (by omega) (by omega) ?_
        exact w_L_law_1039 hsc cs ss hc1 hc2 hk hfl hq F k23 hk23 a1 a2 a3 a4 ha1 ha2 ha3 s363 h
    · have h := if_no h c365
      refine Z_iconst hk dL_law_1021 zc_iconst_0 ?_
      cases h
      exact absurd hq.1 (by decide)
set_option maxRecDepth 100000 in
set_option maxHeartbeats 4000000 in
theorem w_L_law_1107 {K : zK} {b L : Nat} {xs : Nat → Int32} (hsc : zSc K b L xs) (cs ss : Nat) (hc1 : cs + 5 ≤ 601024) (hc2 : ss + 30 ≤ 7293033) (hk : zIs K RL cL_law 8 wsL_law (some .boolean) room_1) (hfl : (kL K).stackTraces = false) {r0 : Int32} {τ0 : zST} (hq : zQL K b r0) (F : Nat) (k23 : Nat → Nat → Nat → Int32 → zST → Option (Int32 × zST)) (hk23 : ∀ (a1 : Nat) (a2 : Nat) (a3 : Nat) (a4 : Int32) (ha1 : atCanonCote (kZ K) a1) (ha2 : atCanonCoteModel (kZ K) a2) (ha3 : aJ (kZ K) a3 1) (σ : zST), k23 a1 a2 a3 a4 σ = some (r0, τ0) → Z K (cs + 5) (ss + 30) 23 [(0, .ref b), (1, .ref (eA (kZ K) a1)), (2, .ref (eA (kZ K) a2)), (3, .ref (eA (kZ K) a3)), (4, .int a4)] [] σ) (a1 : Nat) (a2 : Nat) (a3 : Nat) (a4 : Int32) (ha1 : atCanonCote (kZ K) a1) (ha2 : atCanonCoteModel (kZ K) a2) (ha3 : aJ (kZ K) a3 1) (σ : zST) (h : m_L_law_1107 F L xs k23 a1 a2 a3 a4 σ = some (r0, τ0)) : Z K (cs + 5) (ss + 30) 1107 [(0, .ref b), (1, .ref (eA (kZ K) a1)), (2, .ref (eA (kZ K) a2)), (3, .ref (eA (kZ K) a3)), (4, .int a4)] [] σ := by
  unfold m_L_law_1107 at h
  refine Z_goto hk (tgt := 1834) dL_law_1107 (by decide) ?_
  refine Z_sub [0, 1, 2, 3, 4] rfl ?_
  exact w_L_law_1834 hsc cs ss hc1 hc2 hk hfl hq F k23 hk23 a1 a2 a3 a4 ha1 ha2 ha3 σ h
set_option maxRecDepth 100000 in
set_option maxHeartbeats 4000000 in
theorem w_L_law_1042 {K : zK} {b L : Nat} {xs : Nat → Int32} (hsc : zSc K b L xs) (cs ss : Nat) (hc1 : cs + 5 ≤ 601024) (hc2 : ss + 30 ≤ 7293033) (hk : zIs K RL cL_law 8 wsL_law (some .boolean) room_1) (hfl : (kL K).stackTraces = false) {r0 : Int32} {τ0 : zST} (hq : zQL K b r0) (F : Nat) (k23 : Nat → Nat → Nat → Int32 → zST → Option (Int32 × zST)) (hk23 : ∀ (a1 : Nat) (a2 : Nat) (a3 : Nat) (a4 : Int32) (ha1 : atCanonCote (kZ K) a1) (ha2 : atCanonCoteModel (kZ K) a2) (ha3 : aJ (kZ K) a3 1) (σ : zST), k23 a1 a2 a3 a4 σ = some (r0, τ0) → Z K (cs + 5) (ss + 30) 23 [(0, .ref b), (1, .ref (eA (kZ K) a1)), (2, .ref (eA (kZ K) a2)), (3, .ref (eA (kZ K) a3)), (4, .int a4)] [] σ) (a1 : Nat) (a2 : Nat) (a3 : Nat) (a4 : Int32) (ha1 : atCanonCote (kZ K) a1) (ha2 : atCanonCoteModel (kZ K) a2) (ha3 : aJ (kZ K) a3 1) (σ : zST) (h : m_L_law_1042 F L xs k23 a1 a2 a3 a4 σ = some (r0, τ0)) : Z K cs ss 1042 [(0, .ref b), (1, .ref (eA (kZ K) a1)), (2, .ref (eA (kZ K) a2)), (3, .ref (eA (kZ K) a3)), (4, .int a4)] [] σ := by
  unfold m_L_law_1042 at h
  refine Z_aload_n hk 1 dL_law_1042 rfl rfl ?_
  refine Z_aload_n hk 0 dL_law_1043 rfl rfl ?_
  refine Z_iload hk 4 dL_law_1044 rfl ?_
  refine Z_iconst hk dL_law_1046 zc_iconst_1 ?_
  refine Z_iadd hk dL_law_1047 ?_
  obtain ⟨i373, x371, e372, h⟩ := ldT_get h
  refine Z_sld hk hsc i373 dL_law_1048 ?_
  refine Z_eqI e372 ?_
  refine Z_aload_n hk 0 dL_law_1049 rfl rfl ?_
  refine Z_iload hk 4 dL_law_1050 rfl ?_
  refine Z_iconst hk dL_law_1052 zc_iconst_2 ?_
  refine Z_iadd hk dL_law_1053 ?_
  obtain ⟨i376, x374, e375, h⟩ := ldT_get h
  refine Z_sld hk hsc i376 dL_law_1054 ?_
  refine Z_eqI e375 ?_
  refine Z_aload_n hk 3 dL_law_1055 rfl rfl ?_
  obtain ⟨x377, s378, h379, h⟩ := bd_ok h
  · refine ZX_callW 4 hk [.ref (eA (kZ K) a1), .int x371, .int x374, .ref (eA (kZ K) a3)] (c_L_placeOf hk.loc hk.inj hfl F 1 a1 x371 x374 a3 ha1 ha3 σ h379) gL_law_L_placeOf rfl ⟨by decide +kernel, by decide +kernel, by decide +kernel⟩ ⟨Nat.le_of_ble_eq_true rfl, Nat.le_of_ble_eq_true rfl⟩ rfl rfl (Nat.le_of_ble_eq_true rfl) ⟨by show cs + 0 + 2 ≤ 601024; omega, by show ss + 0 + 12 ≤ 7293033; omega⟩ dL_law_1056 (fun X hX => by cases hX) (fun v hv => ?_)
    cases hv
    show Z K (cs + 2) (ss + 12) 1059 [(0, .ref b), (1, .ref (eA (kZ K) a1)), (2, .ref (eA (kZ K) a2)), (3, .ref (eA (kZ K) a3)), (4, .int a4)] [.int x377] s378
    refine Z_istore hk (lv' := [(5, .int x377), (0, .ref b), (1, .ref (eA (kZ K) a1)), (2, .ref (eA (kZ K) a2)), (3, .ref (eA (kZ K) a3)), (4, .int a4)]) dL_law_1059 (by decide) rfl ?_
    refine Z_aload_n hk 3 dL_law_1061 rfl rfl ?_
    refine Z_aload_n hk 1 dL_law_1062 rfl rfl ?_
    refine Z_iload hk 5 dL_law_1063 rfl ?_
    refine Z_iconst hk dL_law_1065 zc_iconst_1 ?_
    refine Z_iadd hk dL_law_1066 ?_
    obtain ⟨i383, x381, e382, h⟩ := ldT_get h
    refine Z_sld hk hsc i383 dL_law_1067 ?_
    refine Z_eqI e382 ?_
    refine Z_aload_n hk 1 dL_law_1068 rfl rfl ?_
    refine Z_iload hk 5 dL_law_1069 rfl ?_
    refine Z_iconst hk dL_law_1071 zc_iconst_2 ?_
    refine Z_iadd hk dL_law_1072 ?_
    obtain ⟨i386, x384, e385, h⟩ := ldT_get h
    refine Z_sld hk hsc i386 dL_law_1073 ?_
    refine Z_eqI e385 ?_
    obtain ⟨x387, s388, h389, h⟩ := bd_ok h
    refine Z_callV 2 hk [.int x381, .int x384] (c_X8_placeOf hk.loc hk.inj F a2 x381 x384 ha2 s378 h389) gL_law_X8_placeOf rfl ⟨rfl, rfl⟩ (by decide +kernel) ⟨Nat.le_of_ble_eq_true rfl, Nat.le_of_ble_eq_true rfl⟩ ha2.cell.1 (ha2.cell.2 _) rfl rfl rfl (Nat.le_of_ble_eq_true rfl) ⟨by show cs + 2 + 0 ≤ 601024; omega, by show ss + 12 + 0 ≤ 7293033; omega⟩ dL_law_1074 ?_
    show Z K (cs + 2) (ss + 12) 1077 [(5, .int x377), (0, .ref b), (1, .ref (eA (kZ K) a1)), (2, .ref (eA (kZ K) a2)), (3, .ref (eA (kZ K) a3)), (4, .int a4)] [.int x387] s388
    refine Z_istore hk (lv' := [(6, .int x387), (5, .int x377), (0, .ref b), (1, .ref (eA (kZ K) a1)), (2, .ref (eA (kZ K) a2)), (3, .ref (eA (kZ K) a3)), (4, .int a4)]) dL_law_1077 (by decide) rfl ?_
    refine Z_aload_n hk 4 dL_law_1079 rfl rfl ?_
    obtain ⟨x390, s391, h392, h⟩ := bd_ok h
    refine Z_callV 0 hk [] (c_X8_thrown hk.loc hk.inj F a2 ha2 s388 h392) gL_law_X8_thrown rfl ⟨rfl, rfl⟩ (by decide +kernel) ⟨Nat.le_of_ble_eq_true rfl, Nat.le_of_ble_eq_true rfl⟩ ha2.cell.1 (ha2.cell.2 _) rfl rfl rfl (Nat.le_of_ble_eq_true rfl) ⟨by show cs + 2 + 0 ≤ 601024; omega, by show ss + 12 + 0 ≤ 7293033; omega⟩ dL_law_1080 ?_
    show Z K (cs + 2) (ss + 12) 1083 [(6, .int x387), (5, .int x377), (0, .ref b), (1, .ref (eA (kZ K) a1)), (2, .ref (eA (kZ K) a2)), (3, .ref (eA (kZ K) a3)), (4, .int a4)] [.int x390] s391
    refine Z_iload hk 1 dL_law_1083 rfl ?_
    refine Z_icmp_eq hk (tgt := 1090) dL_law_1085 (by decide) (fun c393 => ?_) (fun c393 => ?_)
    · have h := if_yes h c393
      refine Z_iload hk 1 dL_law_1090 rfl ?_
      refine Z_if_ne hk (tgt := 1107) dL_law_1092 (by decide) (fun c394 => ?_) (fun c394 => ?_)
      · have h := if_yes h c394
        refine Z_aload_n hk 5 dL_law_1095 rfl rfl ?_
        refine Z_iconst hk dL_law_1096 zc_iconst_0 ?_
        obtain ⟨i397, x395, e396, h⟩ := ldL_get h
        refine Z_lald hk ha3 i397 dL_law_1097 ?_
        refine Z_eqL e396 ?_
        refine Z_iload hk 0 dL_law_1098 rfl ?_
        refine Z_i2l hk dL_law_1100 ?_
        refine Z_lcmp hk dL_law_1101 ?_
        refine Z_if_eq hk (tgt := 1107) dL_law_1102 (by decide) (fun c398 => ?_) (fun c398 => ?_)
        · have h := if_yes h c398
          refine Z_sub [2, 3, 4, 5, 6] rfl ?_
          refine Z_widen (cs' := cs + 5) (ss' := ss + 30) (by omega) (by omega) ?_
          exact w_L_law_1107 hsc cs ss hc1 hc2 hk hfl hq F k23 hk23 a1 a2 a3 a4 ha1 ha2 ha3 s391 h
        · have h := if_no h c398
          refine Z_iconst hk dL_law_1105 zc_iconst_0 ?_
          cases h
          exact absurd hq.1 (by decide)
      · have h := if_no h c394
        refine Z_sub [2, 3, 4, 5, 6] rfl ?_
        refine Z_widen (cs' := cs + 5) (ss' := ss + 30) (by omega) (by omega) ?_
        exact w_L_law_1107 hsc cs ss hc1 hc2 hk hfl hq F k23 hk23 a1 a2 a3 a4 ha1 ha2 ha3 s391 h
    · have h := if_no h c393
      refine Z_iconst hk dL_law_1088 zc_iconst_0 ?_
      cases h
      exact absurd hq.1 (by decide)
set_option maxRecDepth 100000 in
set_option maxHeartbeats 4000000 in
theorem w_L_law_1182 {K : zK} {b L : Nat} {xs : Nat → Int32} (hsc : zSc K b L xs) (cs ss : Nat) (hc1 : cs + 5 ≤ 601024) (hc2 : ss + 30 ≤ 7293033) (hk : zIs K RL cL_law 8 wsL_law (some .boolean) room_1) (hfl : (kL K).stackTraces = false) {r0 : Int32} {τ0 : zST} (hq : zQL K b r0) (F : Nat) (k23 : Nat → Nat → Nat → Int32 → zST → Option (Int32 × zST)) (hk23 : ∀ (a1 : Nat) (a2 : Nat) (a3 : Nat) (a4 : Int32) (ha1 : atCanonCote (kZ K) a1) (ha2 : atCanonCoteModel (kZ K) a2) (ha3 : aJ (kZ K) a3 1) (σ : zST), k23 a1 a2 a3 a4 σ = some (r0, τ0) → Z K (cs + 5) (ss + 30) 23 [(0, .ref b), (1, .ref (eA (kZ K) a1)), (2, .ref (eA (kZ K) a2)), (3, .ref (eA (kZ K) a3)), (4, .int a4)] [] σ) (a1 : Nat) (a2 : Nat) (a3 : Nat) (a4 : Int32) (ha1 : atCanonCote (kZ K) a1) (ha2 : atCanonCoteModel (kZ K) a2) (ha3 : aJ (kZ K) a3 1) (σ : zST) (h : m_L_law_1182 F L xs k23 a1 a2 a3 a4 σ = some (r0, τ0)) : Z K (cs + 5) (ss + 30) 1182 [(0, .ref b), (1, .ref (eA (kZ K) a1)), (2, .ref (eA (kZ K) a2)), (3, .ref (eA (kZ K) a3)), (4, .int a4)] [] σ := by
  unfold m_L_law_1182 at h
  refine Z_goto hk (tgt := 1834) dL_law_1182 (by decide) ?_
  refine Z_sub [0, 1, 2, 3, 4] rfl ?_
  exact w_L_law_1834 hsc cs ss hc1 hc2 hk hfl hq F k23 hk23 a1 a2 a3 a4 ha1 ha2 ha3 σ h
set_option maxRecDepth 100000 in
set_option maxHeartbeats 4000000 in
theorem w_L_law_1176 {K : zK} {b L : Nat} {xs : Nat → Int32} (hsc : zSc K b L xs) (cs ss : Nat) (hc1 : cs + 5 ≤ 601024) (hc2 : ss + 30 ≤ 7293033) (hk : zIs K RL cL_law 8 wsL_law (some .boolean) room_1) (hfl : (kL K).stackTraces = false) {r0 : Int32} {τ0 : zST} (hq : zQL K b r0) (F : Nat) (k23 : Nat → Nat → Nat → Int32 → zST → Option (Int32 × zST)) (hk23 : ∀ (a1 : Nat) (a2 : Nat) (a3 : Nat) (a4 : Int32) (ha1 : atCanonCote (kZ K) a1) (ha2 : atCanonCoteModel (kZ K) a2) (ha3 : aJ (kZ K) a3 1) (σ : zST), k23 a1 a2 a3 a4 σ = some (r0, τ0) → Z K (cs + 5) (ss + 30) 23 [(0, .ref b), (1, .ref (eA (kZ K) a1)), (2, .ref (eA (kZ K) a2)), (3, .ref (eA (kZ K) a3)), (4, .int a4)] [] σ) (a1 : Nat) (a2 : Nat) (a3 : Nat) (a4 : Int32) (t0 : Int64) (t1 : Int64) (ha1 : atCanonCote (kZ K) a1) (ha2 : atCanonCoteModel (kZ K) a2) (ha3 : aJ (kZ K) a3 1) (σ : zST) (h : m_L_law_1176 F L xs k23 a1 a2 a3 a4 t0 t1 σ = some (r0, τ0)) : Z K (cs + 5) (ss + 30) 1176 [(0, .ref b), (1, .ref (eA (kZ K) a1)), (2, .ref (eA (kZ K) a2)), (3, .ref (eA (kZ K) a3)), (4, .int a4)] [.long t0, .long t1] σ := by
  unfold m_L_law_1176 at h
  refine Z_lcmp hk dL_law_1176 ?_
  refine Z_if_eq hk (tgt := 1182) dL_law_1177 (by decide) (fun c678 => ?_) (fun c678 => ?_)
  · have h := if_yes h c678
    refine Z_sub [0, 1, 2, 3, 4] rfl ?_
    exact w_L_law_1182 hsc cs ss hc1 hc2 hk hfl hq F k23 hk23 a1 a2 a3 a4 ha1 ha2 ha3 σ h
  · have h := if_no h c678
    refine Z_iconst hk dL_law_1180 zc_iconst_0 ?_
    cases h
    exact absurd hq.1 (by decide)
set_option maxRecDepth 100000 in
set_option maxHeartbeats 4000000 in
theorem w_L_law_1110 {K : zK} {b L : Nat} {xs : Nat → Int32} (hsc : zSc K b L xs) (cs ss : Nat) (hc1 : cs + 5 ≤ 601024) (hc2 : ss + 30 ≤ 7293033) (hk : zIs K RL cL_law 8 wsL_law (some .boolean) room_1) (hfl : (kL K).stackTraces = false) {r0 : Int32} {τ0 : zST} (hq : zQL K b r0) (F : Nat) (k23 : Nat → Nat → Nat → Int32 → zST → Option (Int32 × zST)) (hk23 : ∀ (a1 : Nat) (a2 : Nat) (a3 : Nat) (a4 : Int32) (ha1 : atCanonCote (kZ K) a1) (ha2 : atCanonCoteModel (kZ K) a2) (ha3 : aJ (kZ K) a3 1) (σ : zST), k23 a1 a2 a3 a4 σ = some (r0, τ0) → Z K (cs + 5) (ss + 30) 23 [(0, .ref b), (1, .ref (eA (kZ K) a1)), (2, .ref (eA (kZ K) a2)), (3, .ref (eA (kZ K) a3)), (4, .int a4)] [] σ) (a1 : Nat) (a2 : Nat) (a3 : Nat) (a4 : Int32) (ha1 : atCanonCote (kZ K) a1) (ha2 : atCanonCoteModel (kZ K) a2) (ha3 : aJ (kZ K) a3 1) (σ : zST) (h : m_L_law_1110 F L xs k23 a1 a2 a3 a4 σ = some (r0, τ0)) : Z K cs ss 1110 [(0, .ref b), (1, .ref (eA (kZ K) a1)), (2, .ref (eA (kZ K) a2)), (3, .ref (eA (kZ K) a3)), (4, .int a4)] [] σ := by
  unfold m_L_law_1110 at h
  refine Z_aload_n hk 1 dL_law_1110 rfl rfl ?_
  refine Z_aload_n hk 0 dL_law_1111 rfl rfl ?_
  refine Z_iload hk 4 dL_law_1112 rfl ?_
  refine Z_iconst hk dL_law_1114 zc_iconst_1 ?_
  refine Z_iadd hk dL_law_1115 ?_
  obtain ⟨i401, x399, e400, h⟩ := ldT_get h
  refine Z_sld hk hsc i401 dL_law_1116 ?_
  refine Z_eqI e400 ?_
  refine Z_aload_n hk 0 dL_law_1117 rfl rfl ?_
  refine Z_iload hk 4 dL_law_1118 rfl ?_
  refine Z_iconst hk dL_law_1120 zc_iconst_2 ?_
  refine Z_iadd hk dL_law_1121 ?_
  obtain ⟨i404, x402, e403, h⟩ := ldT_get h
  refine Z_sld hk hsc i404 dL_law_1122 ?_
  refine Z_eqI e403 ?_
  refine Z_aload_n hk 3 dL_law_1123 rfl rfl ?_
  obtain ⟨x405, s406, h407, h⟩ := bd_ok h
  · refine ZX_callW 4 hk [.ref (eA (kZ K) a1), .int x399, .int x402, .ref (eA (kZ K) a3)] (c_L_areAlike hk.loc hk.inj hfl F 1 a1 x399 x402 a3 ha1 ha3 σ h407) gL_law_L_areAlike rfl ⟨by decide +kernel, by decide +kernel, by decide +kernel⟩ ⟨Nat.le_of_ble_eq_true rfl, Nat.le_of_ble_eq_true rfl⟩ rfl rfl (Nat.le_of_ble_eq_true rfl) ⟨by show cs + 0 + 2 ≤ 601024; omega, by show ss + 0 + 12 ≤ 7293033; omega⟩ dL_law_1124 (fun X hX => by cases hX) (fun v hv => ?_)
    cases hv
    show Z K (cs + 2) (ss + 12) 1127 [(0, .ref b), (1, .ref (eA (kZ K) a1)), (2, .ref (eA (kZ K) a2)), (3, .ref (eA (kZ K) a3)), (4, .int a4)] [.int x405] s406
    refine Z_istore hk (lv' := [(5, .int x405), (0, .ref b), (1, .ref (eA (kZ K) a1)), (2, .ref (eA (kZ K) a2)), (3, .ref (eA (kZ K) a3)), (4, .int a4)]) dL_law_1127 (by decide) rfl ?_
    refine Z_aload_n hk 3 dL_law_1129 rfl rfl ?_
    refine Z_aload_n hk 1 dL_law_1130 rfl rfl ?_
    refine Z_iload hk 5 dL_law_1131 rfl ?_
    refine Z_iconst hk dL_law_1133 zc_iconst_1 ?_
    refine Z_iadd hk dL_law_1134 ?_
    obtain ⟨i411, x409, e410, h⟩ := ldT_get h
    refine Z_sld hk hsc i411 dL_law_1135 ?_
    refine Z_eqI e410 ?_
    refine Z_aload_n hk 1 dL_law_1136 rfl rfl ?_
    refine Z_iload hk 5 dL_law_1137 rfl ?_
    refine Z_iconst hk dL_law_1139 zc_iconst_2 ?_
    refine Z_iadd hk dL_law_1140 ?_
    obtain ⟨i414, x412, e413, h⟩ := ldT_get h
    refine Z_sld hk hsc i414 dL_law_1141 ?_
    refine Z_eqI e413 ?_
    obtain ⟨x415, s416, h417, h⟩ := bd_ok h
    refine Z_callV 2 hk [.int x409, .int x412] (c_X8_areAlike hk.loc hk.inj F a2 x409 x412 ha2 s406 h417) gL_law_X8_areAlike rfl ⟨rfl, rfl⟩ (by decide +kernel) ⟨Nat.le_of_ble_eq_true rfl, Nat.le_of_ble_eq_true rfl⟩ ha2.cell.1 (ha2.cell.2 _) rfl rfl rfl (Nat.le_of_ble_eq_true rfl) ⟨by show cs + 2 + 0 ≤ 601024; omega, by show ss + 12 + 0 ≤ 7293033; omega⟩ dL_law_1142 ?_
    show Z K (cs + 2) (ss + 12) 1145 [(5, .int x405), (0, .ref b), (1, .ref (eA (kZ K) a1)), (2, .ref (eA (kZ K) a2)), (3, .ref (eA (kZ K) a3)), (4, .int a4)] [.int x415] s416
    refine Z_istore hk (lv' := [(6, .int x415), (5, .int x405), (0, .ref b), (1, .ref (eA (kZ K) a1)), (2, .ref (eA (kZ K) a2)), (3, .ref (eA (kZ K) a3)), (4, .int a4)]) dL_law_1145 (by decide) rfl ?_
    refine Z_aload_n hk 4 dL_law_1147 rfl rfl ?_
    obtain ⟨x418, s419, h420, h⟩ := bd_ok h
    refine Z_callV 0 hk [] (c_X8_thrown hk.loc hk.inj F a2 ha2 s416 h420) gL_law_X8_thrown rfl ⟨rfl, rfl⟩ (by decide +kernel) ⟨Nat.le_of_ble_eq_true rfl, Nat.le_of_ble_eq_true rfl⟩ ha2.cell.1 (ha2.cell.2 _) rfl rfl rfl (Nat.le_of_ble_eq_true rfl) ⟨by show cs + 2 + 0 ≤ 601024; omega, by show ss + 12 + 0 ≤ 7293033; omega⟩ dL_law_1148 ?_
    show Z K (cs + 2) (ss + 12) 1151 [(6, .int x415), (5, .int x405), (0, .ref b), (1, .ref (eA (kZ K) a1)), (2, .ref (eA (kZ K) a2)), (3, .ref (eA (kZ K) a3)), (4, .int a4)] [.int x418] s419
    refine Z_iload hk 1 dL_law_1151 rfl ?_
    refine Z_icmp_eq hk (tgt := 1158) dL_law_1153 (by decide) (fun c421 => ?_) (fun c421 => ?_)
    · have h := if_yes h c421
      refine Z_iload hk 1 dL_law_1158 rfl ?_
      refine Z_if_ne hk (tgt := 1182) dL_law_1160 (by decide) (fun c422 => ?_) (fun c422 => ?_)
      · have h := if_yes h c422
        refine Z_aload_n hk 5 dL_law_1163 rfl rfl ?_
        refine Z_iconst hk dL_law_1164 zc_iconst_0 ?_
        obtain ⟨i425, x423, e424, h⟩ := ldL_get h
        refine Z_lald hk ha3 i425 dL_law_1165 ?_
        refine Z_eqL e424 ?_
        refine Z_iload hk 0 dL_law_1166 rfl ?_
        refine Z_if_eq hk (tgt := 1175) dL_law_1168 (by decide) (fun c426 => ?_) (fun c426 => ?_)
        · have h := if_yes h c426
          refine Z_lconst hk dL_law_1175 (v := 0) rfl ?_
          refine Z_sub [2, 3, 4, 5, 6] rfl ?_
          refine Z_widen (cs' := cs + 5) (ss' := ss + 30) (by omega) (by omega) ?_
          exact w_L_law_1176 hsc cs ss hc1 hc2 hk hfl hq F k23 hk23 a1 a2 a3 a4 0 x423 ha1 ha2 ha3 s419 h
        · have h := if_no h c426
          refine Z_lconst hk dL_law_1171 (v := 1) rfl ?_
          refine Z_goto hk (tgt := 1176) dL_law_1172 (by decide) ?_
          refine Z_sub [2, 3, 4, 5, 6] rfl ?_
          refine Z_widen (cs' := cs + 5) (ss' := ss + 30) (by omega) (by omega) ?_
          exact w_L_law_1176 hsc cs ss hc1 hc2 hk hfl hq F k23 hk23 a1 a2 a3 a4 1 x423 ha1 ha2 ha3 s419 h
      · have h := if_no h c422
        refine Z_sub [2, 3, 4, 5, 6] rfl ?_
        refine Z_widen (cs' := cs + 5) (ss' := ss + 30) (by omega) (by omega) ?_
        exact w_L_law_1182 hsc cs ss hc1 hc2 hk hfl hq F k23 hk23 a1 a2 a3 a4 ha1 ha2 ha3 s419 h
    · have h := if_no h c421
      refine Z_iconst hk dL_law_1156 zc_iconst_0 ?_
      cases h
      exact absurd hq.1 (by decide)
set_option maxRecDepth 100000 in
set_option maxHeartbeats 4000000 in
theorem w_L_law_1262 {K : zK} {b L : Nat} {xs : Nat → Int32} (hsc : zSc K b L xs) (cs ss : Nat) (hc1 : cs + 5 ≤ 601024) (hc2 : ss + 30 ≤ 7293033) (hk : zIs K RL cL_law 8 wsL_law (some .boolean) room_1) (hfl : (kL K).stackTraces = false) {r0 : Int32} {τ0 : zST} (hq : zQL K b r0) (F : Nat) (k23 : Nat → Nat → Nat → Int32 → zST → Option (Int32 × zST)) (hk23 : ∀ (a1 : Nat) (a2 : Nat) (a3 : Nat) (a4 : Int32) (ha1 : atCanonCote (kZ K) a1) (ha2 : atCanonCoteModel (kZ K) a2) (ha3 : aJ (kZ K) a3 1) (σ : zST), k23 a1 a2 a3 a4 σ = some (r0, τ0) → Z K (cs + 5) (ss + 30) 23 [(0, .ref b), (1, .ref (eA (kZ K) a1)), (2, .ref (eA (kZ K) a2)), (3, .ref (eA (kZ K) a3)), (4, .int a4)] [] σ) (a1 : Nat) (a2 : Nat) (a3 : Nat) (a4 : Int32) (ha1 : atCanonCote (kZ K) a1) (ha2 : atCanonCoteModel (kZ K) a2) (ha3 : aJ (kZ K) a3 1) (σ : zST) (h : m_L_law_1262 F L xs k23 a1 a2 a3 a4 σ = some (r0, τ0)) : Z K (cs + 5) (ss + 30) 1262 [(0, .ref b), (1, .ref (eA (kZ K) a1)), (2, .ref (eA (kZ K) a2)), (3, .ref (eA (kZ K) a3)), (4, .int a4)] [] σ := by
  unfold m_L_law_1262 at h
  refine Z_goto hk (tgt := 1834) dL_law_1262 (by decide) ?_
  refine Z_sub [0, 1, 2, 3, 4] rfl ?_
  exact w_L_law_1834 hsc cs ss hc1 hc2 hk hfl hq F k23 hk23 a1 a2 a3 a4 ha1 ha2 ha3 σ h
set_option maxRecDepth 100000 in
set_option maxHeartbeats 4000000 in
theorem w_L_law_1185 {K : zK} {b L : Nat} {xs : Nat → Int32} (hsc : zSc K b L xs) (cs ss : Nat) (hc1 : cs + 5 ≤ 601024) (hc2 : ss + 30 ≤ 7293033) (hk : zIs K RL cL_law 8 wsL_law (some .boolean) room_1) (hfl : (kL K).stackTraces = false) {r0 : Int32} {τ0 : zST} (hq : zQL K b r0) (F : Nat) (k23 : Nat → Nat → Nat → Int32 → zST → Option (Int32 × zST)) (hk23 : ∀ (a1 : Nat) (a2 : Nat) (a3 : Nat) (a4 : Int32) (ha1 : atCanonCote (kZ K) a1) (ha2 : atCanonCoteModel (kZ K) a2) (ha3 : aJ (kZ K) a3 1) (σ : zST), k23 a1 a2 a3 a4 σ = some (r0, τ0) → Z K (cs + 5) (ss + 30) 23 [(0, .ref b), (1, .ref (eA (kZ K) a1)), (2, .ref (eA (kZ K) a2)), (3, .ref (eA (kZ K) a3)), (4, .int a4)] [] σ) (a1 : Nat) (a2 : Nat) (a3 : Nat) (a4 : Int32) (ha1 : atCanonCote (kZ K) a1) (ha2 : atCanonCoteModel (kZ K) a2) (ha3 : aJ (kZ K) a3 1) (σ : zST) (h : m_L_law_1185 F L xs k23 a1 a2 a3 a4 σ = some (r0, τ0)) : Z K cs ss 1185 [(0, .ref b), (1, .ref (eA (kZ K) a1)), (2, .ref (eA (kZ K) a2)), (3, .ref (eA (kZ K) a3)), (4, .int a4)] [] σ := by
  unfold m_L_law_1185 at h
  refine Z_aload_n hk 1 dL_law_1185 rfl rfl ?_
  refine Z_aload_n hk 0 dL_law_1186 rfl rfl ?_
  refine Z_iload hk 4 dL_law_1187 rfl ?_
  refine Z_iconst hk dL_law_1189 zc_iconst_1 ?_
  refine Z_iadd hk dL_law_1190 ?_
  obtain ⟨i429, x427, e428, h⟩ := ldT_get h
  refine Z_sld hk hsc i429 dL_law_1191 ?_
  refine Z_eqI e428 ?_
  refine Z_aload_n hk 0 dL_law_1192 rfl rfl ?_
  refine Z_iload hk 4 dL_law_1193 rfl ?_
  refine Z_iconst hk dL_law_1195 zc_iconst_2 ?_
  refine Z_iadd hk dL_law_1196 ?_
  obtain ⟨i432, x430, e431, h⟩ := ldT_get h
  refine Z_sld hk hsc i432 dL_law_1197 ?_
  refine Z_eqI e431 ?_
  refine Z_aload_n hk 0 dL_law_1198 rfl rfl ?_
  refine Z_iload hk 4 dL_law_1199 rfl ?_
  refine Z_iconst hk dL_law_1201 zc_iconst_3 ?_
  refine Z_iadd hk dL_law_1202 ?_
  obtain ⟨i435, x433, e434, h⟩ := ldT_get h
  refine Z_sld hk hsc i435 dL_law_1203 ?_
  refine Z_eqI e434 ?_
  refine Z_aload_n hk 3 dL_law_1204 rfl rfl ?_
  obtain ⟨x436, s437, h438, h⟩ := bd_ok h
  · refine ZX_callW 5 hk [.ref (eA (kZ K) a1), .int x427, .int x430, .int x433, .ref (eA (kZ K) a3)] (c_L_image hk.loc hk.inj hfl F 1 a1 x427 x430 x433 a3 ha1 ha3 σ h438) gL_law_L_image rfl ⟨by decide +kernel, by decide +kernel, by decide +kernel⟩ ⟨Nat.le_of_ble_eq_true rfl, Nat.le_of_ble_eq_true rfl⟩ rfl rfl (Nat.le_of_ble_eq_true rfl) ⟨by show cs + 0 + 3 ≤ 601024; omega, by show ss + 0 + 18 ≤ 7293033; omega⟩ dL_law_1205 (fun X hX => by cases hX) (fun v hv => ?_)
    cases hv
    show Z K (cs + 3) (ss + 18) 1208 [(0, .ref b), (1, .ref (eA (kZ K) a1)), (2, .ref (eA (kZ K) a2)), (3, .ref (eA (kZ K) a3)), (4, .int a4)] [.int x436] s437
    refine Z_istore hk (lv' := [(5, .int x436), (0, .ref b), (1, .ref (eA (kZ K) a1)), (2, .ref (eA (kZ K) a2)), (3, .ref (eA (kZ K) a3)), (4, .int a4)]) dL_law_1208 (by decide) rfl ?_
    refine Z_aload_n hk 3 dL_law_1210 rfl rfl ?_
    refine Z_aload_n hk 1 dL_law_1211 rfl rfl ?_
    refine Z_iload hk 5 dL_law_1212 rfl ?_
    refine Z_iconst hk dL_law_1214 zc_iconst_1 ?_
    refine Z_iadd hk dL_law_1215 ?_
    obtain ⟨i442, x440, e441, h⟩ := ldT_get h
    refine Z_sld hk hsc i442 dL_law_1216 ?_
    refine Z_eqI e441 ?_
    refine Z_aload_n hk 1 dL_law_1217 rfl rfl ?_
    refine Z_iload hk 5 dL_law_1218 rfl ?_
    refine Z_iconst hk dL_law_1220 zc_iconst_2 ?_
    refine Z_iadd hk dL_law_1221 ?_
    obtain ⟨i445, x443, e444, h⟩ := ldT_get h
    refine Z_sld hk hsc i445 dL_law_1222 ?_
    refine Z_eqI e444 ?_
    refine Z_aload_n hk 1 dL_law_1223 rfl rfl ?_
    refine Z_iload hk 5 dL_law_1224 rfl ?_
    refine Z_iconst hk dL_law_1226 zc_iconst_3 ?_
    refine Z_iadd hk dL_law_1227 ?_
    obtain ⟨i448, x446, e447, h⟩ := ldT_get h
    refine Z_sld hk hsc i448 dL_law_1228 ?_
    refine Z_eqI e447 ?_
    obtain ⟨x449, s450, h451, h⟩ := bd_ok h
    refine Z_callV 3 hk [.int x440, .int x443, .int x446] (c_X8_image hk.loc hk.inj F a2 x440 x443 x446 ha2 s437 h451) gL_law_X8_image rfl ⟨rfl, rfl⟩ (by decide +kernel) ⟨Nat.le_of_ble_eq_true rfl, Nat.le_of_ble_eq_true rfl⟩ ha2.cell.1 (ha2.cell.2 _) rfl rfl rfl (Nat.le_of_ble_eq_true rfl) ⟨by show cs + 3 + 0 ≤ 601024; omega, by show ss + 18 + 0 ≤ 7293033; omega⟩ dL_law_1229 ?_
    show Z K (cs + 3) (ss + 18) 1232 [(5, .int x436), (0, .ref b), (1, .ref (eA (kZ K) a1)), (2, .ref (eA (kZ K) a2)), (3, .ref (eA (kZ K) a3)), (4, .int a4)] [.int x449] s450
    refine Z_istore hk (lv' := [(6, .int x449), (5, .int x436), (0, .ref b), (1, .ref (eA (kZ K) a1)), (2, .ref (eA (kZ K) a2)), (3, .ref (eA (kZ K) a3)), (4, .int a4)]) dL_law_1232 (by decide) rfl ?_
    refine Z_aload_n hk 4 dL_law_1234 rfl rfl ?_
    obtain ⟨x452, s453, h454, h⟩ := bd_ok h
    refine Z_callV 0 hk [] (c_X8_thrown hk.loc hk.inj F a2 ha2 s450 h454) gL_law_X8_thrown rfl ⟨rfl, rfl⟩ (by decide +kernel) ⟨Nat.le_of_ble_eq_true rfl, Nat.le_of_ble_eq_true rfl⟩ ha2.cell.1 (ha2.cell.2 _) rfl rfl rfl (Nat.le_of_ble_eq_true rfl) ⟨by show cs + 3 + 0 ≤ 601024; omega, by show ss + 18 + 0 ≤ 7293033; omega⟩ dL_law_1235 ?_
    show Z K (cs + 3) (ss + 18) 1238 [(6, .int x449), (5, .int x436), (0, .ref b), (1, .ref (eA (kZ K) a1)), (2, .ref (eA (kZ K) a2)), (3, .ref (eA (kZ K) a3)), (4, .int a4)] [.int x452] s453
    refine Z_iload hk 1 dL_law_1238 rfl ?_
    refine Z_icmp_eq hk (tgt := 1245) dL_law_1240 (by decide) (fun c455 => ?_) (fun c455 => ?_)
    · have h := if_yes h c455
      refine Z_iload hk 1 dL_law_1245 rfl ?_
      refine Z_if_ne hk (tgt := 1262) dL_law_1247 (by decide) (fun c456 => ?_) (fun c456 => ?_)
      · have h := if_yes h c456
        refine Z_aload_n hk 5 dL_law_1250 rfl rfl ?_
        refine Z_iconst hk dL_law_1251 zc_iconst_0 ?_
        obtain ⟨i459, x457, e458, h⟩ := ldL_get h
        refine Z_lald hk ha3 i459 dL_law_1252 ?_
        refine Z_eqL e458 ?_
        refine Z_iload hk 0 dL_law_1253 rfl ?_
        refine Z_i2l hk dL_law_1255 ?_
        refine Z_lcmp hk dL_law_1256 ?_
        refine Z_if_eq hk (tgt := 1262) dL_law_1257 (by decide) (fun c460 => ?_) (fun c460 => ?_)
        · have h := if_yes h c460
          refine Z_sub [2, 3, 4, 5, 6] rfl ?_
          refine Z_widen (cs' := cs + 5) (ss' := ss + 30) (by omega) (by omega) ?_
          exact w_L_law_1262 hsc cs ss hc1 hc2 hk hfl hq F k23 hk23 a1 a2 a3 a4 ha1 ha2 ha3 s453 h
        · have h := if_no h c460
          refine Z_iconst hk dL_law_1260 zc_iconst_0 ?_
          cases h
          exact absurd hq.1 (by decide)
      · have h := if_no h c456
        refine Z_sub [2, 3, 4, 5, 6] rfl ?_
        refine Z_widen (cs' := cs + 5) (ss' := ss + 30) (by omega) (by omega) ?_
        exact w_L_law_1262 hsc cs ss hc1 hc2 hk hfl hq F k23 hk23 a1 a2 a3 a4 ha1 ha2 ha3 s453 h
    · have h := if_no h c455
      refine Z_iconst hk dL_law_1243 zc_iconst_0 ?_
      cases h
      exact absurd hq.1 (by decide)
set_option maxRecDepth 100000 in
set_option maxHeartbeats 4000000 in
theorem w_L_law_1330 {K : zK} {b L : Nat} {xs : Nat → Int32} (hsc : zSc K b L xs) (cs ss : Nat) (hc1 : cs + 5 ≤ 601024) (hc2 : ss + 30 ≤ 7293033) (hk : zIs K RL cL_law 8 wsL_law (some .boolean) room_1) (hfl : (kL K).stackTraces = false) {r0 : Int32} {τ0 : zST} (hq : zQL K b r0) (F : Nat) (k23 : Nat → Nat → Nat → Int32 → zST → Option (Int32 × zST)) (hk23 : ∀ (a1 : Nat) (a2 : Nat) (a3 : Nat) (a4 : Int32) (ha1 : atCanonCote (kZ K) a1) (ha2 : atCanonCoteModel (kZ K) a2) (ha3 : aJ (kZ K) a3 1) (σ : zST), k23 a1 a2 a3 a4 σ = some (r0, τ0) → Z K (cs + 5) (ss + 30) 23 [(0, .ref b), (1, .ref (eA (kZ K) a1)), (2, .ref (eA (kZ K) a2)), (3, .ref (eA (kZ K) a3)), (4, .int a4)] [] σ) (a1 : Nat) (a2 : Nat) (a3 : Nat) (a4 : Int32) (ha1 : atCanonCote (kZ K) a1) (ha2 : atCanonCoteModel (kZ K) a2) (ha3 : aJ (kZ K) a3 1) (σ : zST) (h : m_L_law_1330 F L xs k23 a1 a2 a3 a4 σ = some (r0, τ0)) : Z K (cs + 5) (ss + 30) 1330 [(0, .ref b), (1, .ref (eA (kZ K) a1)), (2, .ref (eA (kZ K) a2)), (3, .ref (eA (kZ K) a3)), (4, .int a4)] [] σ := by
  unfold m_L_law_1330 at h
  refine Z_goto hk (tgt := 1834) dL_law_1330 (by decide) ?_
  refine Z_sub [0, 1, 2, 3, 4] rfl ?_
  exact w_L_law_1834 hsc cs ss hc1 hc2 hk hfl hq F k23 hk23 a1 a2 a3 a4 ha1 ha2 ha3 σ h
set_option maxRecDepth 100000 in
set_option maxHeartbeats 4000000 in
theorem w_L_law_1265 {K : zK} {b L : Nat} {xs : Nat → Int32} (hsc : zSc K b L xs) (cs ss : Nat) (hc1 : cs + 5 ≤ 601024) (hc2 : ss + 30 ≤ 7293033) (hk : zIs K RL cL_law 8 wsL_law (some .boolean) room_1) (hfl : (kL K).stackTraces = false) {r0 : Int32} {τ0 : zST} (hq : zQL K b r0) (F : Nat) (k23 : Nat → Nat → Nat → Int32 → zST → Option (Int32 × zST)) (hk23 : ∀ (a1 : Nat) (a2 : Nat) (a3 : Nat) (a4 : Int32) (ha1 : atCanonCote (kZ K) a1) (ha2 : atCanonCoteModel (kZ K) a2) (ha3 : aJ (kZ K) a3 1) (σ : zST), k23 a1 a2 a3 a4 σ = some (r0, τ0) → Z K (cs + 5) (ss + 30) 23 [(0, .ref b), (1, .ref (eA (kZ K) a1)), (2, .ref (eA (kZ K) a2)), (3, .ref (eA (kZ K) a3)), (4, .int a4)] [] σ) (a1 : Nat) (a2 : Nat) (a3 : Nat) (a4 : Int32) (ha1 : atCanonCote (kZ K) a1) (ha2 : atCanonCoteModel (kZ K) a2) (ha3 : aJ (kZ K) a3 1) (σ : zST) (h : m_L_law_1265 F L xs k23 a1 a2 a3 a4 σ = some (r0, τ0)) : Z K cs ss 1265 [(0, .ref b), (1, .ref (eA (kZ K) a1)), (2, .ref (eA (kZ K) a2)), (3, .ref (eA (kZ K) a3)), (4, .int a4)] [] σ := by
  unfold m_L_law_1265 at h
  refine Z_aload_n hk 1 dL_law_1265 rfl rfl ?_
  refine Z_aload_n hk 0 dL_law_1266 rfl rfl ?_
  refine Z_iload hk 4 dL_law_1267 rfl ?_
  refine Z_iconst hk dL_law_1269 zc_iconst_1 ?_
  refine Z_iadd hk dL_law_1270 ?_
  obtain ⟨i463, x461, e462, h⟩ := ldT_get h
  refine Z_sld hk hsc i463 dL_law_1271 ?_
  refine Z_eqI e462 ?_
  refine Z_aload_n hk 0 dL_law_1272 rfl rfl ?_
  refine Z_iload hk 4 dL_law_1273 rfl ?_
  refine Z_iconst hk dL_law_1275 zc_iconst_2 ?_
  refine Z_iadd hk dL_law_1276 ?_
  obtain ⟨i466, x464, e465, h⟩ := ldT_get h
  refine Z_sld hk hsc i466 dL_law_1277 ?_
  refine Z_eqI e465 ?_
  refine Z_aload_n hk 3 dL_law_1278 rfl rfl ?_
  obtain ⟨x467, s468, h469, h⟩ := bd_ok h
  · refine ZX_callW 4 hk [.ref (eA (kZ K) a1), .int x461, .int x464, .ref (eA (kZ K) a3)] (c_L_copies hk.loc hk.inj hfl F 1 a1 x461 x464 a3 ha1 ha3 σ h469) gL_law_L_copies rfl ⟨by decide +kernel, by decide +kernel, by decide +kernel⟩ ⟨Nat.le_of_ble_eq_true rfl, Nat.le_of_ble_eq_true rfl⟩ rfl rfl (Nat.le_of_ble_eq_true rfl) ⟨by show cs + 0 + 2 ≤ 601024; omega, by show ss + 0 + 12 ≤ 7293033; omega⟩ dL_law_1279 (fun X hX => by cases hX) (fun v hv => ?_)
    cases hv
    show Z K (cs + 2) (ss + 12) 1282 [(0, .ref b), (1, .ref (eA (kZ K) a1)), (2, .ref (eA (kZ K) a2)), (3, .ref (eA (kZ K) a3)), (4, .int a4)] [.int x467] s468
    refine Z_istore hk (lv' := [(5, .int x467), (0, .ref b), (1, .ref (eA (kZ K) a1)), (2, .ref (eA (kZ K) a2)), (3, .ref (eA (kZ K) a3)), (4, .int a4)]) dL_law_1282 (by decide) rfl ?_
    refine Z_aload_n hk 3 dL_law_1284 rfl rfl ?_
    refine Z_aload_n hk 1 dL_law_1285 rfl rfl ?_
    refine Z_iload hk 5 dL_law_1286 rfl ?_
    refine Z_iconst hk dL_law_1288 zc_iconst_1 ?_
    refine Z_iadd hk dL_law_1289 ?_
    obtain ⟨i473, x471, e472, h⟩ := ldT_get h
    refine Z_sld hk hsc i473 dL_law_1290 ?_
    refine Z_eqI e472 ?_
    refine Z_aload_n hk 1 dL_law_1291 rfl rfl ?_
    refine Z_iload hk 5 dL_law_1292 rfl ?_
    refine Z_iconst hk dL_law_1294 zc_iconst_2 ?_
    refine Z_iadd hk dL_law_1295 ?_
    obtain ⟨i476, x474, e475, h⟩ := ldT_get h
    refine Z_sld hk hsc i476 dL_law_1296 ?_
    refine Z_eqI e475 ?_
    obtain ⟨x477, s478, h479, h⟩ := bd_ok h
    refine Z_callV 2 hk [.int x471, .int x474] (c_X8_copies hk.loc hk.inj F a2 x471 x474 ha2 s468 h479) gL_law_X8_copies rfl ⟨rfl, rfl⟩ (by decide +kernel) ⟨Nat.le_of_ble_eq_true rfl, Nat.le_of_ble_eq_true rfl⟩ ha2.cell.1 (ha2.cell.2 _) rfl rfl rfl (Nat.le_of_ble_eq_true rfl) ⟨by show cs + 2 + 0 ≤ 601024; omega, by show ss + 12 + 0 ≤ 7293033; omega⟩ dL_law_1297 ?_
    show Z K (cs + 2) (ss + 12) 1300 [(5, .int x467), (0, .ref b), (1, .ref (eA (kZ K) a1)), (2, .ref (eA (kZ K) a2)), (3, .ref (eA (kZ K) a3)), (4, .int a4)] [.int x477] s478
    refine Z_istore hk (lv' := [(6, .int x477), (5, .int x467), (0, .ref b), (1, .ref (eA (kZ K) a1)), (2, .ref (eA (kZ K) a2)), (3, .ref (eA (kZ K) a3)), (4, .int a4)]) dL_law_1300 (by decide) rfl ?_
    refine Z_aload_n hk 4 dL_law_1302 rfl rfl ?_
    obtain ⟨x480, s481, h482, h⟩ := bd_ok h
    refine Z_callV 0 hk [] (c_X8_thrown hk.loc hk.inj F a2 ha2 s478 h482) gL_law_X8_thrown rfl ⟨rfl, rfl⟩ (by decide +kernel) ⟨Nat.le_of_ble_eq_true rfl, Nat.le_of_ble_eq_true rfl⟩ ha2.cell.1 (ha2.cell.2 _) rfl rfl rfl (Nat.le_of_ble_eq_true rfl) ⟨by show cs + 2 + 0 ≤ 601024; omega, by show ss + 12 + 0 ≤ 7293033; omega⟩ dL_law_1303 ?_
    show Z K (cs + 2) (ss + 12) 1306 [(6, .int x477), (5, .int x467), (0, .ref b), (1, .ref (eA (kZ K) a1)), (2, .ref (eA (kZ K) a2)), (3, .ref (eA (kZ K) a3)), (4, .int a4)] [.int x480] s481
    refine Z_iload hk 1 dL_law_1306 rfl ?_
    refine Z_icmp_eq hk (tgt := 1313) dL_law_1308 (by decide) (fun c483 => ?_) (fun c483 => ?_)
    · have h := if_yes h c483
      refine Z_iload hk 1 dL_law_1313 rfl ?_
      refine Z_if_ne hk (tgt := 1330) dL_law_1315 (by decide) (fun c484 => ?_) (fun c484 => ?_)
      · have h := if_yes h c484
        refine Z_aload_n hk 5 dL_law_1318 rfl rfl ?_
        refine Z_iconst hk dL_law_1319 zc_iconst_0 ?_
        obtain ⟨i487, x485, e486, h⟩ := ldL_get h
        refine Z_lald hk ha3 i487 dL_law_1320 ?_
        refine Z_eqL e486 ?_
        refine Z_iload hk 0 dL_law_1321 rfl ?_
        refine Z_i2l hk dL_law_1323 ?_
        refine Z_lcmp hk dL_law_1324 ?_
        refine Z_if_eq hk (tgt := 1330) dL_law_1325 (by decide) (fun c488 => ?_) (fun c488 => ?_)
        · have h := if_yes h c488
          refine Z_sub [2, 3, 4, 5, 6] rfl ?_
          refine Z_widen (cs' := cs + 5) (ss' := ss + 30) (by omega) (by omega) ?_
          exact w_L_law_1330 hsc cs ss hc1 hc2 hk hfl hq F k23 hk23 a1 a2 a3 a4 ha1 ha2 ha3 s481 h
        · have h := if_no h c488
          refine Z_iconst hk dL_law_1328 zc_iconst_0 ?_
          cases h
          exact absurd hq.1 (by decide)
      · have h := if_no h c484
        refine Z_sub [2, 3, 4, 5, 6] rfl ?_
        refine Z_widen (cs' := cs + 5) (ss' := ss + 30) (by omega) (by omega) ?_
        exact w_L_law_1330 hsc cs ss hc1 hc2 hk hfl hq F k23 hk23 a1 a2 a3 a4 ha1 ha2 ha3 s481 h
    · have h := if_no h c483
      refine Z_iconst hk dL_law_1311 zc_iconst_0 ?_
      cases h
      exact absurd hq.1 (by decide)
set_option maxRecDepth 100000 in
set_option maxHeartbeats 4000000 in
theorem w_L_law_1386 {K : zK} {b L : Nat} {xs : Nat → Int32} (hsc : zSc K b L xs) (cs ss : Nat) (hc1 : cs + 5 ≤ 601024) (hc2 : ss + 30 ≤ 7293033) (hk : zIs K RL cL_law 8 wsL_law (some .boolean) room_1) (hfl : (kL K).stackTraces = false) {r0 : Int32} {τ0 : zST} (hq : zQL K b r0) (F : Nat) (k23 : Nat → Nat → Nat → Int32 → zST → Option (Int32 × zST)) (hk23 : ∀ (a1 : Nat) (a2 : Nat) (a3 : Nat) (a4 : Int32) (ha1 : atCanonCote (kZ K) a1) (ha2 : atCanonCoteModel (kZ K) a2) (ha3 : aJ (kZ K) a3 1) (σ : zST), k23 a1 a2 a3 a4 σ = some (r0, τ0) → Z K (cs + 5) (ss + 30) 23 [(0, .ref b), (1, .ref (eA (kZ K) a1)), (2, .ref (eA (kZ K) a2)), (3, .ref (eA (kZ K) a3)), (4, .int a4)] [] σ) (a1 : Nat) (a2 : Nat) (a3 : Nat) (a4 : Int32) (ha1 : atCanonCote (kZ K) a1) (ha2 : atCanonCoteModel (kZ K) a2) (ha3 : aJ (kZ K) a3 1) (σ : zST) (h : m_L_law_1386 F L xs k23 a1 a2 a3 a4 σ = some (r0, τ0)) : Z K (cs + 5) (ss + 30) 1386 [(0, .ref b), (1, .ref (eA (kZ K) a1)), (2, .ref (eA (kZ K) a2)), (3, .ref (eA (kZ K) a3)), (4, .int a4)] [] σ := by
  unfold m_L_law_1386 at h
  refine Z_goto hk (tgt := 1834) dL_law_1386 (by decide) ?_
  refine Z_sub [0, 1, 2, 3, 4] rfl ?_
  exact w_L_law_1834 hsc cs ss hc1 hc2 hk hfl hq F k23 hk23 a1 a2 a3 a4 ha1 ha2 ha3 σ h
set_option maxRecDepth 100000 in
set_option maxHeartbeats 4000000 in
theorem w_L_law_1333 {K : zK} {b L : Nat} {xs : Nat → Int32} (hsc : zSc K b L xs) (cs ss : Nat) (hc1 : cs + 5 ≤ 601024) (hc2 : ss + 30 ≤ 7293033) (hk : zIs K RL cL_law 8 wsL_law (some .boolean) room_1) (hfl : (kL K).stackTraces = false) {r0 : Int32} {τ0 : zST} (hq : zQL K b r0) (F : Nat) (k23 : Nat → Nat → Nat → Int32 → zST → Option (Int32 × zST)) (hk23 : ∀ (a1 : Nat) (a2 : Nat) (a3 : Nat) (a4 : Int32) (ha1 : atCanonCote (kZ K) a1) (ha2 : atCanonCoteModel (kZ K) a2) (ha3 : aJ (kZ K) a3 1) (σ : zST), k23 a1 a2 a3 a4 σ = some (r0, τ0) → Z K (cs + 5) (ss + 30) 23 [(0, .ref b), (1, .ref (eA (kZ K) a1)), (2, .ref (eA (kZ K) a2)), (3, .ref (eA (kZ K) a3)), (4, .int a4)] [] σ) (a1 : Nat) (a2 : Nat) (a3 : Nat) (a4 : Int32) (ha1 : atCanonCote (kZ K) a1) (ha2 : atCanonCoteModel (kZ K) a2) (ha3 : aJ (kZ K) a3 1) (σ : zST) (h : m_L_law_1333 F L xs k23 a1 a2 a3 a4 σ = some (r0, τ0)) : Z K cs ss 1333 [(0, .ref b), (1, .ref (eA (kZ K) a1)), (2, .ref (eA (kZ K) a2)), (3, .ref (eA (kZ K) a3)), (4, .int a4)] [] σ := by
  unfold m_L_law_1333 at h
  refine Z_aload_n hk 1 dL_law_1333 rfl rfl ?_
  refine Z_aload_n hk 0 dL_law_1334 rfl rfl ?_
  refine Z_iload hk 4 dL_law_1335 rfl ?_
  refine Z_iconst hk dL_law_1337 zc_iconst_1 ?_
  refine Z_iadd hk dL_law_1338 ?_
  obtain ⟨i491, x489, e490, h⟩ := ldT_get h
  refine Z_sld hk hsc i491 dL_law_1339 ?_
  refine Z_eqI e490 ?_
  refine Z_aload_n hk 3 dL_law_1340 rfl rfl ?_
  obtain ⟨x492, s493, h494, h⟩ := bd_ok h
  · refine ZX_callW 3 hk [.ref (eA (kZ K) a1), .int x489, .ref (eA (kZ K) a3)] (c_L_symmetries hk.loc hk.inj hfl F 1 a1 x489 a3 ha1 ha3 σ h494) gL_law_L_symmetries rfl ⟨by decide +kernel, by decide +kernel, by decide +kernel⟩ ⟨Nat.le_of_ble_eq_true rfl, Nat.le_of_ble_eq_true rfl⟩ rfl rfl (Nat.le_of_ble_eq_true rfl) ⟨by show cs + 0 + 1 ≤ 601024; omega, by show ss + 0 + 6 ≤ 7293033; omega⟩ dL_law_1341 (fun X hX => by cases hX) (fun v hv => ?_)
    cases hv
    show Z K (cs + 1) (ss + 6) 1344 [(0, .ref b), (1, .ref (eA (kZ K) a1)), (2, .ref (eA (kZ K) a2)), (3, .ref (eA (kZ K) a3)), (4, .int a4)] [.int x492] s493
    refine Z_istore hk (lv' := [(5, .int x492), (0, .ref b), (1, .ref (eA (kZ K) a1)), (2, .ref (eA (kZ K) a2)), (3, .ref (eA (kZ K) a3)), (4, .int a4)]) dL_law_1344 (by decide) rfl ?_
    refine Z_aload_n hk 3 dL_law_1346 rfl rfl ?_
    refine Z_aload_n hk 1 dL_law_1347 rfl rfl ?_
    refine Z_iload hk 5 dL_law_1348 rfl ?_
    refine Z_iconst hk dL_law_1350 zc_iconst_1 ?_
    refine Z_iadd hk dL_law_1351 ?_
    obtain ⟨i498, x496, e497, h⟩ := ldT_get h
    refine Z_sld hk hsc i498 dL_law_1352 ?_
    refine Z_eqI e497 ?_
    obtain ⟨x499, s500, h501, h⟩ := bd_ok h
    refine Z_callV 1 hk [.int x496] (c_X8_symmetries hk.loc hk.inj F a2 x496 ha2 s493 h501) gL_law_X8_symmetries rfl ⟨rfl, rfl⟩ (by decide +kernel) ⟨Nat.le_of_ble_eq_true rfl, Nat.le_of_ble_eq_true rfl⟩ ha2.cell.1 (ha2.cell.2 _) rfl rfl rfl (Nat.le_of_ble_eq_true rfl) ⟨by show cs + 1 + 0 ≤ 601024; omega, by show ss + 6 + 0 ≤ 7293033; omega⟩ dL_law_1353 ?_
    show Z K (cs + 1) (ss + 6) 1356 [(5, .int x492), (0, .ref b), (1, .ref (eA (kZ K) a1)), (2, .ref (eA (kZ K) a2)), (3, .ref (eA (kZ K) a3)), (4, .int a4)] [.int x499] s500
    refine Z_istore hk (lv' := [(6, .int x499), (5, .int x492), (0, .ref b), (1, .ref (eA (kZ K) a1)), (2, .ref (eA (kZ K) a2)), (3, .ref (eA (kZ K) a3)), (4, .int a4)]) dL_law_1356 (by decide) rfl ?_
    refine Z_aload_n hk 4 dL_law_1358 rfl rfl ?_
    obtain ⟨x502, s503, h504, h⟩ := bd_ok h
    refine Z_callV 0 hk [] (c_X8_thrown hk.loc hk.inj F a2 ha2 s500 h504) gL_law_X8_thrown rfl ⟨rfl, rfl⟩ (by decide +kernel) ⟨Nat.le_of_ble_eq_true rfl, Nat.le_of_ble_eq_true rfl⟩ ha2.cell.1 (ha2.cell.2 _) rfl rfl rfl (Nat.le_of_ble_eq_true rfl) ⟨by show cs + 1 + 0 ≤ 601024; omega, by show ss + 6 + 0 ≤ 7293033; omega⟩ dL_law_1359 ?_
    show Z K (cs + 1) (ss + 6) 1362 [(6, .int x499), (5, .int x492), (0, .ref b), (1, .ref (eA (kZ K) a1)), (2, .ref (eA (kZ K) a2)), (3, .ref (eA (kZ K) a3)), (4, .int a4)] [.int x502] s503
    refine Z_iload hk 1 dL_law_1362 rfl ?_
    refine Z_icmp_eq hk (tgt := 1369) dL_law_1364 (by decide) (fun c505 => ?_) (fun c505 => ?_)
    · have h := if_yes h c505
      refine Z_iload hk 1 dL_law_1369 rfl ?_
      refine Z_if_ne hk (tgt := 1386) dL_law_1371 (by decide) (fun c506 => ?_) (fun c506 => ?_)
      · have h := if_yes h c506
        refine Z_aload_n hk 5 dL_law_1374 rfl rfl ?_
        refine Z_iconst hk dL_law_1375 zc_iconst_0 ?_
        obtain ⟨i509, x507, e508, h⟩ := ldL_get h
        refine Z_lald hk ha3 i509 dL_law_1376 ?_
        refine Z_eqL e508 ?_
        refine Z_iload hk 0 dL_law_1377 rfl ?_
        refine Z_i2l hk dL_law_1379 ?_
        refine Z_lcmp hk dL_law_1380 ?_
        refine Z_if_eq hk (tgt := 1386) dL_law_1381 (by decide) (fun c510 => ?_) (fun c510 => ?_)
        · have h := if_yes h c510
          refine Z_sub [2, 3, 4, 5, 6] rfl ?_
          refine Z_widen (cs' := cs + 5) (ss' := ss + 30) (by omega) (by omega) ?_
          exact w_L_law_1386 hsc cs ss hc1 hc2 hk hfl hq F k23 hk23 a1 a2 a3 a4 ha1 ha2 ha3 s503 h
        · have h := if_no h c510
          refine Z_iconst hk dL_law_1384 zc_iconst_0 ?_
          cases h
          exact absurd hq.1 (by decide)
      · have h := if_no h c506
        refine Z_sub [2, 3, 4, 5, 6] rfl ?_
        refine Z_widen (cs' := cs + 5) (ss' := ss + 30) (by omega) (by omega) ?_
        exact w_L_law_1386 hsc cs ss hc1 hc2 hk hfl hq F k23 hk23 a1 a2 a3 a4 ha1 ha2 ha3 s503 h
    · have h := if_no h c505
      refine Z_iconst hk dL_law_1367 zc_iconst_0 ?_
      cases h
      exact absurd hq.1 (by decide)
set_option maxRecDepth 100000 in
set_option maxHeartbeats 4000000 in
theorem w_L_law_1442 {K : zK} {b L : Nat} {xs : Nat → Int32} (hsc : zSc K b L xs) (cs ss : Nat) (hc1 : cs + 5 ≤ 601024) (hc2 : ss + 30 ≤ 7293033) (hk : zIs K RL cL_law 8 wsL_law (some .boolean) room_1) (hfl : (kL K).stackTraces = false) {r0 : Int32} {τ0 : zST} (hq : zQL K b r0) (F : Nat) (k23 : Nat → Nat → Nat → Int32 → zST → Option (Int32 × zST)) (hk23 : ∀ (a1 : Nat) (a2 : Nat) (a3 : Nat) (a4 : Int32) (ha1 : atCanonCote (kZ K) a1) (ha2 : atCanonCoteModel (kZ K) a2) (ha3 : aJ (kZ K) a3 1) (σ : zST), k23 a1 a2 a3 a4 σ = some (r0, τ0) → Z K (cs + 5) (ss + 30) 23 [(0, .ref b), (1, .ref (eA (kZ K) a1)), (2, .ref (eA (kZ K) a2)), (3, .ref (eA (kZ K) a3)), (4, .int a4)] [] σ) (a1 : Nat) (a2 : Nat) (a3 : Nat) (a4 : Int32) (ha1 : atCanonCote (kZ K) a1) (ha2 : atCanonCoteModel (kZ K) a2) (ha3 : aJ (kZ K) a3 1) (σ : zST) (h : m_L_law_1442 F L xs k23 a1 a2 a3 a4 σ = some (r0, τ0)) : Z K (cs + 5) (ss + 30) 1442 [(0, .ref b), (1, .ref (eA (kZ K) a1)), (2, .ref (eA (kZ K) a2)), (3, .ref (eA (kZ K) a3)), (4, .int a4)] [] σ := by
  unfold m_L_law_1442 at h
  refine Z_goto hk (tgt := 1834) dL_law_1442 (by decide) ?_
  refine Z_sub [0, 1, 2, 3, 4] rfl ?_
  exact w_L_law_1834 hsc cs ss hc1 hc2 hk hfl hq F k23 hk23 a1 a2 a3 a4 ha1 ha2 ha3 σ h
set_option maxRecDepth 100000 in
set_option maxHeartbeats 4000000 in
theorem w_L_law_1389 {K : zK} {b L : Nat} {xs : Nat → Int32} (hsc : zSc K b L xs) (cs ss : Nat) (hc1 : cs + 5 ≤ 601024) (hc2 : ss + 30 ≤ 7293033) (hk : zIs K RL cL_law 8 wsL_law (some .boolean) room_1) (hfl : (kL K).stackTraces = false) {r0 : Int32} {τ0 : zST} (hq : zQL K b r0) (F : Nat) (k23 : Nat → Nat → Nat → Int32 → zST → Option (Int32 × zST)) (hk23 : ∀ (a1 : Nat) (a2 : Nat) (a3 : Nat) (a4 : Int32) (ha1 : atCanonCote (kZ K) a1) (ha2 : atCanonCoteModel (kZ K) a2) (ha3 : aJ (kZ K) a3 1) (σ : zST), k23 a1 a2 a3 a4 σ = some (r0, τ0) → Z K (cs + 5) (ss + 30) 23 [(0, .ref b), (1, .ref (eA (kZ K) a1)), (2, .ref (eA (kZ K) a2)), (3, .ref (eA (kZ K) a3)), (4, .int a4)] [] σ) (a1 : Nat) (a2 : Nat) (a3 : Nat) (a4 : Int32) (ha1 : atCanonCote (kZ K) a1) (ha2 : atCanonCoteModel (kZ K) a2) (ha3 : aJ (kZ K) a3 1) (σ : zST) (h : m_L_law_1389 F L xs k23 a1 a2 a3 a4 σ = some (r0, τ0)) : Z K cs ss 1389 [(0, .ref b), (1, .ref (eA (kZ K) a1)), (2, .ref (eA (kZ K) a2)), (3, .ref (eA (kZ K) a3)), (4, .int a4)] [] σ := by
  unfold m_L_law_1389 at h
  refine Z_aload_n hk 1 dL_law_1389 rfl rfl ?_
  refine Z_aload_n hk 0 dL_law_1390 rfl rfl ?_
  refine Z_iload hk 4 dL_law_1391 rfl ?_
  refine Z_iconst hk dL_law_1393 zc_iconst_1 ?_
  refine Z_iadd hk dL_law_1394 ?_
  obtain ⟨i513, x511, e512, h⟩ := ldT_get h
  refine Z_sld hk hsc i513 dL_law_1395 ?_
  refine Z_eqI e512 ?_
  refine Z_aload_n hk 3 dL_law_1396 rfl rfl ?_
  obtain ⟨x514, s515, h516, h⟩ := bd_ok h
  · refine ZX_callW 3 hk [.ref (eA (kZ K) a1), .int x511, .ref (eA (kZ K) a3)] (c_L_orbits hk.loc hk.inj hfl F 1 a1 x511 a3 ha1 ha3 σ h516) gL_law_L_orbits rfl ⟨by decide +kernel, by decide +kernel, by decide +kernel⟩ ⟨Nat.le_of_ble_eq_true rfl, Nat.le_of_ble_eq_true rfl⟩ rfl rfl (Nat.le_of_ble_eq_true rfl) ⟨by show cs + 0 + 1 ≤ 601024; omega, by show ss + 0 + 6 ≤ 7293033; omega⟩ dL_law_1397 (fun X hX => by cases hX) (fun v hv => ?_)
    cases hv
    show Z K (cs + 1) (ss + 6) 1400 [(0, .ref b), (1, .ref (eA (kZ K) a1)), (2, .ref (eA (kZ K) a2)), (3, .ref (eA (kZ K) a3)), (4, .int a4)] [.int x514] s515
    refine Z_istore hk (lv' := [(5, .int x514), (0, .ref b), (1, .ref (eA (kZ K) a1)), (2, .ref (eA (kZ K) a2)), (3, .ref (eA (kZ K) a3)), (4, .int a4)]) dL_law_1400 (by decide) rfl ?_
    refine Z_aload_n hk 3 dL_law_1402 rfl rfl ?_
    refine Z_aload_n hk 1 dL_law_1403 rfl rfl ?_
    refine Z_iload hk 5 dL_law_1404 rfl ?_
    refine Z_iconst hk dL_law_1406 zc_iconst_1 ?_
    refine Z_iadd hk dL_law_1407 ?_
    obtain ⟨i520, x518, e519, h⟩ := ldT_get h
    refine Z_sld hk hsc i520 dL_law_1408 ?_
    refine Z_eqI e519 ?_
    obtain ⟨x521, s522, h523, h⟩ := bd_ok h
    refine Z_callV 1 hk [.int x518] (c_X8_orbits hk.loc hk.inj F a2 x518 ha2 s515 h523) gL_law_X8_orbits rfl ⟨rfl, rfl⟩ (by decide +kernel) ⟨Nat.le_of_ble_eq_true rfl, Nat.le_of_ble_eq_true rfl⟩ ha2.cell.1 (ha2.cell.2 _) rfl rfl rfl (Nat.le_of_ble_eq_true rfl) ⟨by show cs + 1 + 0 ≤ 601024; omega, by show ss + 6 + 0 ≤ 7293033; omega⟩ dL_law_1409 ?_
    show Z K (cs + 1) (ss + 6) 1412 [(5, .int x514), (0, .ref b), (1, .ref (eA (kZ K) a1)), (2, .ref (eA (kZ K) a2)), (3, .ref (eA (kZ K) a3)), (4, .int a4)] [.int x521] s522
    refine Z_istore hk (lv' := [(6, .int x521), (5, .int x514), (0, .ref b), (1, .ref (eA (kZ K) a1)), (2, .ref (eA (kZ K) a2)), (3, .ref (eA (kZ K) a3)), (4, .int a4)]) dL_law_1412 (by decide) rfl ?_
    refine Z_aload_n hk 4 dL_law_1414 rfl rfl ?_
    obtain ⟨x524, s525, h526, h⟩ := bd_ok h
    refine Z_callV 0 hk [] (c_X8_thrown hk.loc hk.inj F a2 ha2 s522 h526) gL_law_X8_thrown rfl ⟨rfl, rfl⟩ (by decide +kernel) ⟨Nat.le_of_ble_eq_true rfl, Nat.le_of_ble_eq_true rfl⟩ ha2.cell.1 (ha2.cell.2 _) rfl rfl rfl (Nat.le_of_ble_eq_true rfl) ⟨by show cs + 1 + 0 ≤ 601024; omega, by show ss + 6 + 0 ≤ 7293033; omega⟩ dL_law_1415 ?_
    show Z K (cs + 1) (ss + 6) 1418 [(6, .int x521), (5, .int x514), (0, .ref b), (1, .ref (eA (kZ K) a1)), (2, .ref (eA (kZ K) a2)), (3, .ref (eA (kZ K) a3)), (4, .int a4)] [.int x524] s525
    refine Z_iload hk 1 dL_law_1418 rfl ?_
    refine Z_icmp_eq hk (tgt := 1425) dL_law_1420 (by decide) (fun c527 => ?_) (fun c527 => ?_)
    · have h := if_yes h c527
      refine Z_iload hk 1 dL_law_1425 rfl ?_
      refine Z_if_ne hk (tgt := 1442) dL_law_1427 (by decide) (fun c528 => ?_) (fun c528 => ?_)
      · have h := if_yes h c528
        refine Z_aload_n hk 5 dL_law_1430 rfl rfl ?_
        refine Z_iconst hk dL_law_1431 zc_iconst_0 ?_
        obtain ⟨i531, x529, e530, h⟩ := ldL_get h
        refine Z_lald hk ha3 i531 dL_law_1432 ?_
        refine Z_eqL e530 ?_
        refine Z_iload hk 0 dL_law_1433 rfl ?_
        refine Z_i2l hk dL_law_1435 ?_
        refine Z_lcmp hk dL_law_1436 ?_
        refine Z_if_eq hk (tgt := 1442) dL_law_1437 (by decide) (fun c532 => ?_) (fun c532 => ?_)
        · have h := if_yes h c532
          refine Z_sub [2, 3, 4, 5, 6] rfl ?_
          refine Z_widen (cs' := cs + 5) (ss' := ss + 30) (by omega) (by omega) ?_
          exact w_L_law_1442 hsc cs ss hc1 hc2 hk hfl hq F k23 hk23 a1 a2 a3 a4 ha1 ha2 ha3 s525 h
        · have h := if_no h c532
          refine Z_iconst hk dL_law_1440 zc_iconst_0 ?_
          cases h
          exact absurd hq.1 (by decide)
      · have h := if_no h c528
        refine Z_sub [2, 3, 4, 5, 6] rfl ?_
        refine Z_widen (cs' := cs + 5) (ss' := ss + 30) (by omega) (by omega) ?_
        exact w_L_law_1442 hsc cs ss hc1 hc2 hk hfl hq F k23 hk23 a1 a2 a3 a4 ha1 ha2 ha3 s525 h
    · have h := if_no h c527
      refine Z_iconst hk dL_law_1423 zc_iconst_0 ?_
      cases h
      exact absurd hq.1 (by decide)
set_option maxRecDepth 100000 in
set_option maxHeartbeats 4000000 in
theorem w_L_law_1510 {K : zK} {b L : Nat} {xs : Nat → Int32} (hsc : zSc K b L xs) (cs ss : Nat) (hc1 : cs + 5 ≤ 601024) (hc2 : ss + 30 ≤ 7293033) (hk : zIs K RL cL_law 8 wsL_law (some .boolean) room_1) (hfl : (kL K).stackTraces = false) {r0 : Int32} {τ0 : zST} (hq : zQL K b r0) (F : Nat) (k23 : Nat → Nat → Nat → Int32 → zST → Option (Int32 × zST)) (hk23 : ∀ (a1 : Nat) (a2 : Nat) (a3 : Nat) (a4 : Int32) (ha1 : atCanonCote (kZ K) a1) (ha2 : atCanonCoteModel (kZ K) a2) (ha3 : aJ (kZ K) a3 1) (σ : zST), k23 a1 a2 a3 a4 σ = some (r0, τ0) → Z K (cs + 5) (ss + 30) 23 [(0, .ref b), (1, .ref (eA (kZ K) a1)), (2, .ref (eA (kZ K) a2)), (3, .ref (eA (kZ K) a3)), (4, .int a4)] [] σ) (a1 : Nat) (a2 : Nat) (a3 : Nat) (a4 : Int32) (ha1 : atCanonCote (kZ K) a1) (ha2 : atCanonCoteModel (kZ K) a2) (ha3 : aJ (kZ K) a3 1) (σ : zST) (h : m_L_law_1510 F L xs k23 a1 a2 a3 a4 σ = some (r0, τ0)) : Z K (cs + 5) (ss + 30) 1510 [(0, .ref b), (1, .ref (eA (kZ K) a1)), (2, .ref (eA (kZ K) a2)), (3, .ref (eA (kZ K) a3)), (4, .int a4)] [] σ := by
  unfold m_L_law_1510 at h
  refine Z_goto hk (tgt := 1834) dL_law_1510 (by decide) ?_
  refine Z_sub [0, 1, 2, 3, 4] rfl ?_
  exact w_L_law_1834 hsc cs ss hc1 hc2 hk hfl hq F k23 hk23 a1 a2 a3 a4 ha1 ha2 ha3 σ h
set_option maxRecDepth 100000 in
set_option maxHeartbeats 4000000 in
theorem w_L_law_1445 {K : zK} {b L : Nat} {xs : Nat → Int32} (hsc : zSc K b L xs) (cs ss : Nat) (hc1 : cs + 5 ≤ 601024) (hc2 : ss + 30 ≤ 7293033) (hk : zIs K RL cL_law 8 wsL_law (some .boolean) room_1) (hfl : (kL K).stackTraces = false) {r0 : Int32} {τ0 : zST} (hq : zQL K b r0) (F : Nat) (k23 : Nat → Nat → Nat → Int32 → zST → Option (Int32 × zST)) (hk23 : ∀ (a1 : Nat) (a2 : Nat) (a3 : Nat) (a4 : Int32) (ha1 : atCanonCote (kZ K) a1) (ha2 : atCanonCoteModel (kZ K) a2) (ha3 : aJ (kZ K) a3 1) (σ : zST), k23 a1 a2 a3 a4 σ = some (r0, τ0) → Z K (cs + 5) (ss + 30) 23 [(0, .ref b), (1, .ref (eA (kZ K) a1)), (2, .ref (eA (kZ K) a2)), (3, .ref (eA (kZ K) a3)), (4, .int a4)] [] σ) (a1 : Nat) (a2 : Nat) (a3 : Nat) (a4 : Int32) (ha1 : atCanonCote (kZ K) a1) (ha2 : atCanonCoteModel (kZ K) a2) (ha3 : aJ (kZ K) a3 1) (σ : zST) (h : m_L_law_1445 F L xs k23 a1 a2 a3 a4 σ = some (r0, τ0)) : Z K cs ss 1445 [(0, .ref b), (1, .ref (eA (kZ K) a1)), (2, .ref (eA (kZ K) a2)), (3, .ref (eA (kZ K) a3)), (4, .int a4)] [] σ := by
  unfold m_L_law_1445 at h
  refine Z_aload_n hk 1 dL_law_1445 rfl rfl ?_
  refine Z_aload_n hk 0 dL_law_1446 rfl rfl ?_
  refine Z_iload hk 4 dL_law_1447 rfl ?_
  refine Z_iconst hk dL_law_1449 zc_iconst_1 ?_
  refine Z_iadd hk dL_law_1450 ?_
  obtain ⟨i535, x533, e534, h⟩ := ldT_get h
  refine Z_sld hk hsc i535 dL_law_1451 ?_
  refine Z_eqI e534 ?_
  refine Z_aload_n hk 0 dL_law_1452 rfl rfl ?_
  refine Z_iload hk 4 dL_law_1453 rfl ?_
  refine Z_iconst hk dL_law_1455 zc_iconst_2 ?_
  refine Z_iadd hk dL_law_1456 ?_
  obtain ⟨i538, x536, e537, h⟩ := ldT_get h
  refine Z_sld hk hsc i538 dL_law_1457 ?_
  refine Z_eqI e537 ?_
  refine Z_aload_n hk 3 dL_law_1458 rfl rfl ?_
  obtain ⟨x539, s540, h541, h⟩ := bd_ok h
  · refine ZX_callW 4 hk [.ref (eA (kZ K) a1), .int x533, .int x536, .ref (eA (kZ K) a3)] (c_L_orbit hk.loc hk.inj hfl F 1 a1 x533 x536 a3 ha1 ha3 σ h541) gL_law_L_orbit rfl ⟨by decide +kernel, by decide +kernel, by decide +kernel⟩ ⟨Nat.le_of_ble_eq_true rfl, Nat.le_of_ble_eq_true rfl⟩ rfl rfl (Nat.le_of_ble_eq_true rfl) ⟨by show cs + 0 + 2 ≤ 601024; omega, by show ss + 0 + 12 ≤ 7293033; omega⟩ dL_law_1459 (fun X hX => by cases hX) (fun v hv => ?_)
    cases hv
    show Z K (cs + 2) (ss + 12) 1462 [(0, .ref b), (1, .ref (eA (kZ K) a1)), (2, .ref (eA (kZ K) a2)), (3, .ref (eA (kZ K) a3)), (4, .int a4)] [.int x539] s540
    refine Z_istore hk (lv' := [(5, .int x539), (0, .ref b), (1, .ref (eA (kZ K) a1)), (2, .ref (eA (kZ K) a2)), (3, .ref (eA (kZ K) a3)), (4, .int a4)]) dL_law_1462 (by decide) rfl ?_
    refine Z_aload_n hk 3 dL_law_1464 rfl rfl ?_
    refine Z_aload_n hk 1 dL_law_1465 rfl rfl ?_
    refine Z_iload hk 5 dL_law_1466 rfl ?_
    refine Z_iconst hk dL_law_1468 zc_iconst_1 ?_
    refine Z_iadd hk dL_law_1469 ?_
    obtain ⟨i545, x543, e544, h⟩ := ldT_get h
    refine Z_sld hk hsc i545 dL_law_1470 ?_
    refine Z_eqI e544 ?_
    refine Z_aload_n hk 1 dL_law_1471 rfl rfl ?_
    refine Z_iload hk 5 dL_law_1472 rfl ?_
    refine Z_iconst hk dL_law_1474 zc_iconst_2 ?_
    refine Z_iadd hk dL_law_1475 ?_
    obtain ⟨i548, x546, e547, h⟩ := ldT_get h
    refine Z_sld hk hsc i548 dL_law_1476 ?_
    refine Z_eqI e547 ?_
    obtain ⟨x549, s550, h551, h⟩ := bd_ok h
    refine Z_callV 2 hk [.int x543, .int x546] (c_X8_orbit hk.loc hk.inj F a2 x543 x546 ha2 s540 h551) gL_law_X8_orbit rfl ⟨rfl, rfl⟩ (by decide +kernel) ⟨Nat.le_of_ble_eq_true rfl, Nat.le_of_ble_eq_true rfl⟩ ha2.cell.1 (ha2.cell.2 _) rfl rfl rfl (Nat.le_of_ble_eq_true rfl) ⟨by show cs + 2 + 0 ≤ 601024; omega, by show ss + 12 + 0 ≤ 7293033; omega⟩ dL_law_1477 ?_
    show Z K (cs + 2) (ss + 12) 1480 [(5, .int x539), (0, .ref b), (1, .ref (eA (kZ K) a1)), (2, .ref (eA (kZ K) a2)), (3, .ref (eA (kZ K) a3)), (4, .int a4)] [.int x549] s550
    refine Z_istore hk (lv' := [(6, .int x549), (5, .int x539), (0, .ref b), (1, .ref (eA (kZ K) a1)), (2, .ref (eA (kZ K) a2)), (3, .ref (eA (kZ K) a3)), (4, .int a4)]) dL_law_1480 (by decide) rfl ?_
    refine Z_aload_n hk 4 dL_law_1482 rfl rfl ?_
    obtain ⟨x552, s553, h554, h⟩ := bd_ok h
    refine Z_callV 0 hk [] (c_X8_thrown hk.loc hk.inj F a2 ha2 s550 h554) gL_law_X8_thrown rfl ⟨rfl, rfl⟩ (by decide +kernel) ⟨Nat.le_of_ble_eq_true rfl, Nat.le_of_ble_eq_true rfl⟩ ha2.cell.1 (ha2.cell.2 _) rfl rfl rfl (Nat.le_of_ble_eq_true rfl) ⟨by show cs + 2 + 0 ≤ 601024; omega, by show ss + 12 + 0 ≤ 7293033; omega⟩ dL_law_1483 ?_
    show Z K (cs + 2) (ss + 12) 1486 [(6, .int x549), (5, .int x539), (0, .ref b), (1, .ref (eA (kZ K) a1)), (2, .ref (eA (kZ K) a2)), (3, .ref (eA (kZ K) a3)), (4, .int a4)] [.int x552] s553
    refine Z_iload hk 1 dL_law_1486 rfl ?_
    refine Z_icmp_eq hk (tgt := 1493) dL_law_1488 (by decide) (fun c555 => ?_) (fun c555 => ?_)
    · have h := if_yes h c555
      refine Z_iload hk 1 dL_law_1493 rfl ?_
      refine Z_if_ne hk (tgt := 1510) dL_law_1495 (by decide) (fun c556 => ?_) (fun c556 => ?_)
      · have h := if_yes h c556
        refine Z_aload_n hk 5 dL_law_1498 rfl rfl ?_
        refine Z_iconst hk dL_law_1499 zc_iconst_0 ?_
        obtain ⟨i559, x557, e558, h⟩ := ldL_get h
        refine Z_lald hk ha3 i559 dL_law_1500 ?_
        refine Z_eqL e558 ?_
        refine Z_iload hk 0 dL_law_1501 rfl ?_
        refine Z_i2l hk dL_law_1503 ?_
        refine Z_lcmp hk dL_law_1504 ?_
        refine Z_if_eq hk (tgt := 1510) dL_law_1505 (by decide) (fun c560 => ?_) (fun c560 => ?_)
        · have h := if_yes h c560
          refine Z_sub [2, 3, 4, 5, 6] rfl ?_
          refine Z_widen (cs' := cs + 5) (ss' := ss + 30) (by omega) (by omega) ?_
          exact w_L_law_1510 hsc cs ss hc1 hc2 hk hfl hq F k23 hk23 a1 a2 a3 a4 ha1 ha2 ha3 s553 h
        · have h := if_no h c560
          refine Z_iconst hk dL_law_1508 zc_iconst_0 ?_
          cases h
          exact absurd hq.1 (by decide)
      · have h := if_no h c556
        refine Z_sub [2, 3, 4, 5, 6] rfl ?_
        refine Z_widen (cs' := cs + 5) (ss' := ss + 30) (by omega) (by omega) ?_
        exact w_L_law_1510 hsc cs ss hc1 hc2 hk hfl hq F k23 hk23 a1 a2 a3 a4 ha1 ha2 ha3 s553 h
    · have h := if_no h c555
      refine Z_iconst hk dL_law_1491 zc_iconst_0 ?_
      cases h
      exact absurd hq.1 (by decide)
set_option maxRecDepth 100000 in
set_option maxHeartbeats 4000000 in
theorem w_L_law_1598 {K : zK} {b L : Nat} {xs : Nat → Int32} (hsc : zSc K b L xs) (cs ss : Nat) (hc1 : cs + 5 ≤ 601024) (hc2 : ss + 30 ≤ 7293033) (hk : zIs K RL cL_law 8 wsL_law (some .boolean) room_1) (hfl : (kL K).stackTraces = false) {r0 : Int32} {τ0 : zST} (hq : zQL K b r0) (F : Nat) (k23 : Nat → Nat → Nat → Int32 → zST → Option (Int32 × zST)) (hk23 : ∀ (a1 : Nat) (a2 : Nat) (a3 : Nat) (a4 : Int32) (ha1 : atCanonCote (kZ K) a1) (ha2 : atCanonCoteModel (kZ K) a2) (ha3 : aJ (kZ K) a3 1) (σ : zST), k23 a1 a2 a3 a4 σ = some (r0, τ0) → Z K (cs + 5) (ss + 30) 23 [(0, .ref b), (1, .ref (eA (kZ K) a1)), (2, .ref (eA (kZ K) a2)), (3, .ref (eA (kZ K) a3)), (4, .int a4)] [] σ) (a1 : Nat) (a2 : Nat) (a3 : Nat) (a4 : Int32) (ha1 : atCanonCote (kZ K) a1) (ha2 : atCanonCoteModel (kZ K) a2) (ha3 : aJ (kZ K) a3 1) (σ : zST) (h : m_L_law_1598 F L xs k23 a1 a2 a3 a4 σ = some (r0, τ0)) : Z K (cs + 5) (ss + 30) 1598 [(0, .ref b), (1, .ref (eA (kZ K) a1)), (2, .ref (eA (kZ K) a2)), (3, .ref (eA (kZ K) a3)), (4, .int a4)] [] σ := by
  unfold m_L_law_1598 at h
  refine Z_goto hk (tgt := 1834) dL_law_1598 (by decide) ?_
  refine Z_sub [0, 1, 2, 3, 4] rfl ?_
  exact w_L_law_1834 hsc cs ss hc1 hc2 hk hfl hq F k23 hk23 a1 a2 a3 a4 ha1 ha2 ha3 σ h
set_option maxRecDepth 100000 in
set_option maxHeartbeats 4000000 in
theorem w_L_law_1513 {K : zK} {b L : Nat} {xs : Nat → Int32} (hsc : zSc K b L xs) (cs ss : Nat) (hc1 : cs + 5 ≤ 601024) (hc2 : ss + 30 ≤ 7293033) (hk : zIs K RL cL_law 8 wsL_law (some .boolean) room_1) (hfl : (kL K).stackTraces = false) {r0 : Int32} {τ0 : zST} (hq : zQL K b r0) (F : Nat) (k23 : Nat → Nat → Nat → Int32 → zST → Option (Int32 × zST)) (hk23 : ∀ (a1 : Nat) (a2 : Nat) (a3 : Nat) (a4 : Int32) (ha1 : atCanonCote (kZ K) a1) (ha2 : atCanonCoteModel (kZ K) a2) (ha3 : aJ (kZ K) a3 1) (σ : zST), k23 a1 a2 a3 a4 σ = some (r0, τ0) → Z K (cs + 5) (ss + 30) 23 [(0, .ref b), (1, .ref (eA (kZ K) a1)), (2, .ref (eA (kZ K) a2)), (3, .ref (eA (kZ K) a3)), (4, .int a4)] [] σ) (a1 : Nat) (a2 : Nat) (a3 : Nat) (a4 : Int32) (ha1 : atCanonCote (kZ K) a1) (ha2 : atCanonCoteModel (kZ K) a2) (ha3 : aJ (kZ K) a3 1) (σ : zST) (h : m_L_law_1513 F L xs k23 a1 a2 a3 a4 σ = some (r0, τ0)) : Z K cs ss 1513 [(0, .ref b), (1, .ref (eA (kZ K) a1)), (2, .ref (eA (kZ K) a2)), (3, .ref (eA (kZ K) a3)), (4, .int a4)] [] σ := by
  unfold m_L_law_1513 at h
  refine Z_aload_n hk 1 dL_law_1513 rfl rfl ?_
  refine Z_aload_n hk 0 dL_law_1514 rfl rfl ?_
  refine Z_iload hk 4 dL_law_1515 rfl ?_
  refine Z_iconst hk dL_law_1517 zc_iconst_1 ?_
  refine Z_iadd hk dL_law_1518 ?_
  obtain ⟨i563, x561, e562, h⟩ := ldT_get h
  refine Z_sld hk hsc i563 dL_law_1519 ?_
  refine Z_eqI e562 ?_
  refine Z_i2l hk dL_law_1520 ?_
  refine Z_bipush hk dL_law_1521 zc_bipush_32 ?_
  refine Z_lshl hk dL_law_1523 ?_
  refine Z_aload_n hk 0 dL_law_1524 rfl rfl ?_
  refine Z_iload hk 4 dL_law_1525 rfl ?_
  refine Z_iconst hk dL_law_1527 zc_iconst_2 ?_
  refine Z_iadd hk dL_law_1528 ?_
  obtain ⟨i566, x564, e565, h⟩ := ldT_get h
  refine Z_sld hk hsc i566 dL_law_1529 ?_
  refine Z_eqI e565 ?_
  refine Z_i2l hk dL_law_1530 ?_
  refine Z_ldc2 hk (v := 4294967295) dL_law_1531 wd_L_law_0 ?_
  refine Z_land hk dL_law_1534 ?_
  refine Z_lor hk dL_law_1535 ?_
  refine Z_aload_n hk 3 dL_law_1536 rfl rfl ?_
  obtain ⟨x567, s568, h569, h⟩ := bd_ok h
  · refine ZX_callW 3 hk [.ref (eA (kZ K) a1), .long ((jlshl (x561.toInt64) 32) ||| ((x564.toInt64) &&& 4294967295)), .ref (eA (kZ K) a3)] (c_L_addGenerator hk.loc hk.inj hfl F 1 a1 ((jlshl (x561.toInt64) 32) ||| ((x564.toInt64) &&& 4294967295)) a3 ha1 ha3 σ h569) gL_law_L_addGenerator rfl ⟨by decide +kernel, by decide +kernel, by decide +kernel⟩ ⟨Nat.le_of_ble_eq_true rfl, Nat.le_of_ble_eq_true rfl⟩ rfl rfl (Nat.le_of_ble_eq_true rfl) ⟨by show cs + 0 + 2 ≤ 601024; omega, by show ss + 0 + 12 ≤ 7293033; omega⟩ dL_law_1537 (fun X hX => by cases hX) (fun v hv => ?_)
    cases hv
    show Z K (cs + 2) (ss + 12) 1540 [(0, .ref b), (1, .ref (eA (kZ K) a1)), (2, .ref (eA (kZ K) a2)), (3, .ref (eA (kZ K) a3)), (4, .int a4)] [.int x567] s568
    refine Z_istore hk (lv' := [(5, .int x567), (0, .ref b), (1, .ref (eA (kZ K) a1)), (2, .ref (eA (kZ K) a2)), (3, .ref (eA (kZ K) a3)), (4, .int a4)]) dL_law_1540 (by decide) rfl ?_
    refine Z_aload_n hk 3 dL_law_1542 rfl rfl ?_
    refine Z_aload_n hk 1 dL_law_1543 rfl rfl ?_
    refine Z_iload hk 5 dL_law_1544 rfl ?_
    refine Z_iconst hk dL_law_1546 zc_iconst_1 ?_
    refine Z_iadd hk dL_law_1547 ?_
    obtain ⟨i573, x571, e572, h⟩ := ldT_get h
    refine Z_sld hk hsc i573 dL_law_1548 ?_
    refine Z_eqI e572 ?_
    refine Z_i2l hk dL_law_1549 ?_
    refine Z_bipush hk dL_law_1550 zc_bipush_32 ?_
    refine Z_lshl hk dL_law_1552 ?_
    refine Z_aload_n hk 1 dL_law_1553 rfl rfl ?_
    refine Z_iload hk 5 dL_law_1554 rfl ?_
    refine Z_iconst hk dL_law_1556 zc_iconst_2 ?_
    refine Z_iadd hk dL_law_1557 ?_
    obtain ⟨i576, x574, e575, h⟩ := ldT_get h
    refine Z_sld hk hsc i576 dL_law_1558 ?_
    refine Z_eqI e575 ?_
    refine Z_i2l hk dL_law_1559 ?_
    refine Z_ldc2 hk (v := 4294967295) dL_law_1560 wd_L_law_0 ?_
    refine Z_land hk dL_law_1563 ?_
    refine Z_lor hk dL_law_1564 ?_
    obtain ⟨x577, s578, h579, h⟩ := bd_ok h
    refine Z_callV 1 hk [.long ((jlshl (x571.toInt64) 32) ||| ((x574.toInt64) &&& 4294967295))] (c_X8_addGenerator hk.loc hk.inj F a2 ((jlshl (x571.toInt64) 32) ||| ((x574.toInt64) &&& 4294967295)) ha2 s568 h579) gL_law_X8_addGenerator rfl ⟨rfl, rfl⟩ (by decide +kernel) ⟨Nat.le_of_ble_eq_true rfl, Nat.le_of_ble_eq_true rfl⟩ ha2.cell.1 (ha2.cell.2 _) rfl rfl rfl (Nat.le_of_ble_eq_true rfl) ⟨by show cs + 2 + 0 ≤ 601024; omega, by show ss + 12 + 0 ≤ 7293033; omega⟩ dL_law_1565 ?_
    show Z K (cs + 2) (ss + 12) 1568 [(5, .int x567), (0, .ref b), (1, .ref (eA (kZ K) a1)), (2, .ref (eA (kZ K) a2)), (3, .ref (eA (kZ K) a3)), (4, .int a4)] [.int x577] s578
    refine Z_istore hk (lv' := [(6, .int x577), (5, .int x567), (0, .ref b), (1, .ref (eA (kZ K) a1)), (2, .ref (eA (kZ K) a2)), (3, .ref (eA (kZ K) a3)), (4, .int a4)]) dL_law_1568 (by decide) rfl ?_
    refine Z_aload_n hk 4 dL_law_1570 rfl rfl ?_
    obtain ⟨x580, s581, h582, h⟩ := bd_ok h
    refine Z_callV 0 hk [] (c_X8_thrown hk.loc hk.inj F a2 ha2 s578 h582) gL_law_X8_thrown rfl ⟨rfl, rfl⟩ (by decide +kernel) ⟨Nat.le_of_ble_eq_true rfl, Nat.le_of_ble_eq_true rfl⟩ ha2.cell.1 (ha2.cell.2 _) rfl rfl rfl (Nat.le_of_ble_eq_true rfl) ⟨by show cs + 2 + 0 ≤ 601024; omega, by show ss + 12 + 0 ≤ 7293033; omega⟩ dL_law_1571 ?_
    show Z K (cs + 2) (ss + 12) 1574 [(6, .int x577), (5, .int x567), (0, .ref b), (1, .ref (eA (kZ K) a1)), (2, .ref (eA (kZ K) a2)), (3, .ref (eA (kZ K) a3)), (4, .int a4)] [.int x580] s581
    refine Z_iload hk 1 dL_law_1574 rfl ?_
    refine Z_icmp_eq hk (tgt := 1581) dL_law_1576 (by decide) (fun c583 => ?_) (fun c583 => ?_)
    · have h := if_yes h c583
      refine Z_iload hk 1 dL_law_1581 rfl ?_
      refine Z_if_ne hk (tgt := 1598) dL_law_1583 (by decide) (fun c584 => ?_) (fun c584 => ?_)
      · have h := if_yes h c584
        refine Z_aload_n hk 5 dL_law_1586 rfl rfl ?_
        refine Z_iconst hk dL_law_1587 zc_iconst_0 ?_
        obtain ⟨i587, x585, e586, h⟩ := ldL_get h
        refine Z_lald hk ha3 i587 dL_law_1588 ?_
        refine Z_eqL e586 ?_
        refine Z_iload hk 0 dL_law_1589 rfl ?_
        refine Z_i2l hk dL_law_1591 ?_
        refine Z_lcmp hk dL_law_1592 ?_
        refine Z_if_eq hk (tgt := 1598) dL_law_1593 (by decide) (fun c588 => ?_) (fun c588 => ?_)
        · have h := if_yes h c588
          refine Z_sub [2, 3, 4, 5, 6] rfl ?_
          refine Z_widen (cs' := cs + 5) (ss' := ss + 30) (by omega) (by omega) ?_
          exact w_L_law_1598 hsc cs ss hc1 hc2 hk hfl hq F k23 hk23 a1 a2 a3 a4 ha1 ha2 ha3 s581 h
        · have h := if_no h c588
          refine Z_iconst hk dL_law_1596 zc_iconst_0 ?_
          cases h
          exact absurd hq.1 (by decide)
      · have h := if_no h c584
        refine Z_sub [2, 3, 4, 5, 6] rfl ?_
        refine Z_widen (cs' := cs + 5) (ss' := ss + 30) (by omega) (by omega) ?_
        exact w_L_law_1598 hsc cs ss hc1 hc2 hk hfl hq F k23 hk23 a1 a2 a3 a4 ha1 ha2 ha3 s581 h
    · have h := if_no h c583
      refine Z_iconst hk dL_law_1579 zc_iconst_0 ?_
      cases h
      exact absurd hq.1 (by decide)
set_option maxRecDepth 100000 in
set_option maxHeartbeats 4000000 in
theorem w_L_law_1601 {K : zK} {b L : Nat} {xs : Nat → Int32} (hsc : zSc K b L xs) (cs ss : Nat) (hc1 : cs + 5 ≤ 601024) (hc2 : ss + 30 ≤ 7293033) (hk : zIs K RL cL_law 8 wsL_law (some .boolean) room_1) (hfl : (kL K).stackTraces = false) {r0 : Int32} {τ0 : zST} (hq : zQL K b r0) (F : Nat) (k23 : Nat → Nat → Nat → Int32 → zST → Option (Int32 × zST)) (hk23 : ∀ (a1 : Nat) (a2 : Nat) (a3 : Nat) (a4 : Int32) (ha1 : atCanonCote (kZ K) a1) (ha2 : atCanonCoteModel (kZ K) a2) (ha3 : aJ (kZ K) a3 1) (σ : zST), k23 a1 a2 a3 a4 σ = some (r0, τ0) → Z K (cs + 5) (ss + 30) 23 [(0, .ref b), (1, .ref (eA (kZ K) a1)), (2, .ref (eA (kZ K) a2)), (3, .ref (eA (kZ K) a3)), (4, .int a4)] [] σ) (a1 : Nat) (a2 : Nat) (a3 : Nat) (a4 : Int32) (ha1 : atCanonCote (kZ K) a1) (ha2 : atCanonCoteModel (kZ K) a2) (ha3 : aJ (kZ K) a3 1) (σ : zST) (h : m_L_law_1601 F L xs k23 a1 a2 a3 a4 σ = some (r0, τ0)) : Z K cs ss 1601 [(0, .ref b), (1, .ref (eA (kZ K) a1)), (2, .ref (eA (kZ K) a2)), (3, .ref (eA (kZ K) a3)), (4, .int a4)] [] σ := by
  unfold m_L_law_1601 at h
  refine Z_aload_n hk 1 dL_law_1601 rfl rfl ?_
  obtain ⟨x589, s590, h591, h⟩ := bd_ok h
  refine Z_callV 0 hk [] (c_X7_forgetGenerators hk.loc hk.inj F a1 ha1 σ h591) gL_law_X7_forgetGenerators rfl ⟨rfl, rfl⟩ (by decide +kernel) ⟨Nat.le_of_ble_eq_true rfl, Nat.le_of_ble_eq_true rfl⟩ ha1.cell.1 (ha1.cell.2 _) rfl rfl rfl (Nat.le_of_ble_eq_true rfl) ⟨by show cs + 0 + 0 ≤ 601024; omega, by show ss + 0 + 0 ≤ 7293033; omega⟩ dL_law_1602 ?_
  show Z K cs ss 1605 [(0, .ref b), (1, .ref (eA (kZ K) a1)), (2, .ref (eA (kZ K) a2)), (3, .ref (eA (kZ K) a3)), (4, .int a4)] [.int x589] s590
  refine Z_aload_n hk 2 dL_law_1605 rfl rfl ?_
  obtain ⟨x592, s593, h594, h⟩ := bd_ok h
  refine Z_callV 0 hk [] (c_X8_forgetGenerators hk.loc hk.inj F a2 ha2 s590 h594) gL_law_X8_forgetGenerators rfl ⟨rfl, rfl⟩ (by decide +kernel) ⟨Nat.le_of_ble_eq_true rfl, Nat.le_of_ble_eq_true rfl⟩ ha2.cell.1 (ha2.cell.2 _) rfl rfl rfl (Nat.le_of_ble_eq_true rfl) ⟨by show cs + 0 + 0 ≤ 601024; omega, by show ss + 0 + 0 ≤ 7293033; omega⟩ dL_law_1606 ?_
  show Z K cs ss 1609 [(0, .ref b), (1, .ref (eA (kZ K) a1)), (2, .ref (eA (kZ K) a2)), (3, .ref (eA (kZ K) a3)), (4, .int a4)] [.int x592, .int x589] s593
  refine Z_icmp_eq hk (tgt := 1834) dL_law_1609 (by decide) (fun c595 => ?_) (fun c595 => ?_)
  · have h := if_yes h c595
    refine Z_sub [0, 1, 2, 3, 4] rfl ?_
    refine Z_widen (cs' := cs + 5) (ss' := ss + 30) (by omega) (by omega) ?_
    exact w_L_law_1834 hsc cs ss hc1 hc2 hk hfl hq F k23 hk23 a1 a2 a3 a4 ha1 ha2 ha3 s593 h
  · have h := if_no h c595
    refine Z_iconst hk dL_law_1612 zc_iconst_0 ?_
    cases h
    exact absurd hq.1 (by decide)
set_option maxRecDepth 100000 in
set_option maxHeartbeats 4000000 in
theorem w_L_law_1614 {K : zK} {b L : Nat} {xs : Nat → Int32} (hsc : zSc K b L xs) (cs ss : Nat) (hc1 : cs + 5 ≤ 601024) (hc2 : ss + 30 ≤ 7293033) (hk : zIs K RL cL_law 8 wsL_law (some .boolean) room_1) (hfl : (kL K).stackTraces = false) {r0 : Int32} {τ0 : zST} (hq : zQL K b r0) (F : Nat) (k23 : Nat → Nat → Nat → Int32 → zST → Option (Int32 × zST)) (hk23 : ∀ (a1 : Nat) (a2 : Nat) (a3 : Nat) (a4 : Int32) (ha1 : atCanonCote (kZ K) a1) (ha2 : atCanonCoteModel (kZ K) a2) (ha3 : aJ (kZ K) a3 1) (σ : zST), k23 a1 a2 a3 a4 σ = some (r0, τ0) → Z K (cs + 5) (ss + 30) 23 [(0, .ref b), (1, .ref (eA (kZ K) a1)), (2, .ref (eA (kZ K) a2)), (3, .ref (eA (kZ K) a3)), (4, .int a4)] [] σ) (a1 : Nat) (a2 : Nat) (a3 : Nat) (a4 : Int32) (ha1 : atCanonCote (kZ K) a1) (ha2 : atCanonCoteModel (kZ K) a2) (ha3 : aJ (kZ K) a3 1) (σ : zST) (h : m_L_law_1614 F L xs k23 a1 a2 a3 a4 σ = some (r0, τ0)) : Z K cs ss 1614 [(0, .ref b), (1, .ref (eA (kZ K) a1)), (2, .ref (eA (kZ K) a2)), (3, .ref (eA (kZ K) a3)), (4, .int a4)] [] σ := by
  unfold m_L_law_1614 at h
  refine Z_aload_n hk 1 dL_law_1614 rfl rfl ?_
  obtain ⟨x596, s597, h598, h⟩ := bd_ok h
  refine Z_callV 0 hk [] (c_X7_order hk.loc hk.inj F a1 ha1 σ h598) gL_law_X7_order rfl ⟨rfl, rfl⟩ (by decide +kernel) ⟨Nat.le_of_ble_eq_true rfl, Nat.le_of_ble_eq_true rfl⟩ ha1.cell.1 (ha1.cell.2 _) rfl rfl rfl (Nat.le_of_ble_eq_true rfl) ⟨by show cs + 0 + 0 ≤ 601024; omega, by show ss + 0 + 0 ≤ 7293033; omega⟩ dL_law_1615 ?_
  show Z K cs ss 1618 [(0, .ref b), (1, .ref (eA (kZ K) a1)), (2, .ref (eA (kZ K) a2)), (3, .ref (eA (kZ K) a3)), (4, .int a4)] [.int x596] s597
  refine Z_aload_n hk 2 dL_law_1618 rfl rfl ?_
  obtain ⟨x599, s600, h601, h⟩ := bd_ok h
  refine Z_callV 0 hk [] (c_X8_order hk.loc hk.inj F a2 ha2 s597 h601) gL_law_X8_order rfl ⟨rfl, rfl⟩ (by decide +kernel) ⟨Nat.le_of_ble_eq_true rfl, Nat.le_of_ble_eq_true rfl⟩ ha2.cell.1 (ha2.cell.2 _) rfl rfl rfl (Nat.le_of_ble_eq_true rfl) ⟨by show cs + 0 + 0 ≤ 601024; omega, by show ss + 0 + 0 ≤ 7293033; omega⟩ dL_law_1619 ?_
  show Z K cs ss 1622 [(0, .ref b), (1, .ref (eA (kZ K) a1)), (2, .ref (eA (kZ K) a2)), (3, .ref (eA (kZ K) a3)), (4, .int a4)] [.int x599, .int x596] s600
  refine Z_icmp_eq hk (tgt := 1834) dL_law_1622 (by decide) (fun c602 => ?_) (fun c602 => ?_)
  · have h := if_yes h c602
    refine Z_sub [0, 1, 2, 3, 4] rfl ?_
    refine Z_widen (cs' := cs + 5) (ss' := ss + 30) (by omega) (by omega) ?_
    exact w_L_law_1834 hsc cs ss hc1 hc2 hk hfl hq F k23 hk23 a1 a2 a3 a4 ha1 ha2 ha3 s600 h
  · have h := if_no h c602
    refine Z_iconst hk dL_law_1625 zc_iconst_0 ?_
    cases h
    exact absurd hq.1 (by decide)
set_option maxRecDepth 100000 in
set_option maxHeartbeats 4000000 in
theorem w_L_law_1719 {K : zK} {b L : Nat} {xs : Nat → Int32} (hsc : zSc K b L xs) (cs ss : Nat) (hc1 : cs + 5 ≤ 601024) (hc2 : ss + 30 ≤ 7293033) (hk : zIs K RL cL_law 8 wsL_law (some .boolean) room_1) (hfl : (kL K).stackTraces = false) {r0 : Int32} {τ0 : zST} (hq : zQL K b r0) (F : Nat) (k23 : Nat → Nat → Nat → Int32 → zST → Option (Int32 × zST)) (hk23 : ∀ (a1 : Nat) (a2 : Nat) (a3 : Nat) (a4 : Int32) (ha1 : atCanonCote (kZ K) a1) (ha2 : atCanonCoteModel (kZ K) a2) (ha3 : aJ (kZ K) a3 1) (σ : zST), k23 a1 a2 a3 a4 σ = some (r0, τ0) → Z K (cs + 5) (ss + 30) 23 [(0, .ref b), (1, .ref (eA (kZ K) a1)), (2, .ref (eA (kZ K) a2)), (3, .ref (eA (kZ K) a3)), (4, .int a4)] [] σ) (a1 : Nat) (a2 : Nat) (a3 : Nat) (a4 : Int32) (ha1 : atCanonCote (kZ K) a1) (ha2 : atCanonCoteModel (kZ K) a2) (ha3 : aJ (kZ K) a3 1) (σ : zST) (h : m_L_law_1719 F L xs k23 a1 a2 a3 a4 σ = some (r0, τ0)) : Z K (cs + 5) (ss + 30) 1719 [(0, .ref b), (1, .ref (eA (kZ K) a1)), (2, .ref (eA (kZ K) a2)), (3, .ref (eA (kZ K) a3)), (4, .int a4)] [] σ := by
  unfold m_L_law_1719 at h
  refine Z_goto hk (tgt := 1834) dL_law_1719 (by decide) ?_
  refine Z_sub [0, 1, 2, 3, 4] rfl ?_
  exact w_L_law_1834 hsc cs ss hc1 hc2 hk hfl hq F k23 hk23 a1 a2 a3 a4 ha1 ha2 ha3 σ h
set_option maxRecDepth 100000 in
set_option maxHeartbeats 4000000 in
theorem w_L_law_1713 {K : zK} {b L : Nat} {xs : Nat → Int32} (hsc : zSc K b L xs) (cs ss : Nat) (hc1 : cs + 5 ≤ 601024) (hc2 : ss + 30 ≤ 7293033) (hk : zIs K RL cL_law 8 wsL_law (some .boolean) room_1) (hfl : (kL K).stackTraces = false) {r0 : Int32} {τ0 : zST} (hq : zQL K b r0) (F : Nat) (k23 : Nat → Nat → Nat → Int32 → zST → Option (Int32 × zST)) (hk23 : ∀ (a1 : Nat) (a2 : Nat) (a3 : Nat) (a4 : Int32) (ha1 : atCanonCote (kZ K) a1) (ha2 : atCanonCoteModel (kZ K) a2) (ha3 : aJ (kZ K) a3 1) (σ : zST), k23 a1 a2 a3 a4 σ = some (r0, τ0) → Z K (cs + 5) (ss + 30) 23 [(0, .ref b), (1, .ref (eA (kZ K) a1)), (2, .ref (eA (kZ K) a2)), (3, .ref (eA (kZ K) a3)), (4, .int a4)] [] σ) (a1 : Nat) (a2 : Nat) (a3 : Nat) (a4 : Int32) (t0 : Int64) (t1 : Int64) (ha1 : atCanonCote (kZ K) a1) (ha2 : atCanonCoteModel (kZ K) a2) (ha3 : aJ (kZ K) a3 1) (σ : zST) (h : m_L_law_1713 F L xs k23 a1 a2 a3 a4 t0 t1 σ = some (r0, τ0)) : Z K (cs + 5) (ss + 30) 1713 [(0, .ref b), (1, .ref (eA (kZ K) a1)), (2, .ref (eA (kZ K) a2)), (3, .ref (eA (kZ K) a3)), (4, .int a4)] [.long t0, .long t1] σ := by
  unfold m_L_law_1713 at h
  refine Z_lcmp hk dL_law_1713 ?_
  refine Z_if_eq hk (tgt := 1719) dL_law_1714 (by decide) (fun c679 => ?_) (fun c679 => ?_)
  · have h := if_yes h c679
    refine Z_sub [0, 1, 2, 3, 4] rfl ?_
    exact w_L_law_1719 hsc cs ss hc1 hc2 hk hfl hq F k23 hk23 a1 a2 a3 a4 ha1 ha2 ha3 σ h
  · have h := if_no h c679
    refine Z_iconst hk dL_law_1717 zc_iconst_0 ?_
    cases h
    exact absurd hq.1 (by decide)
set_option maxRecDepth 100000 in
set_option maxHeartbeats 4000000 in
theorem w_L_law_1627 {K : zK} {b L : Nat} {xs : Nat → Int32} (hsc : zSc K b L xs) (cs ss : Nat) (hc1 : cs + 5 ≤ 601024) (hc2 : ss + 30 ≤ 7293033) (hk : zIs K RL cL_law 8 wsL_law (some .boolean) room_1) (hfl : (kL K).stackTraces = false) {r0 : Int32} {τ0 : zST} (hq : zQL K b r0) (F : Nat) (k23 : Nat → Nat → Nat → Int32 → zST → Option (Int32 × zST)) (hk23 : ∀ (a1 : Nat) (a2 : Nat) (a3 : Nat) (a4 : Int32) (ha1 : atCanonCote (kZ K) a1) (ha2 : atCanonCoteModel (kZ K) a2) (ha3 : aJ (kZ K) a3 1) (σ : zST), k23 a1 a2 a3 a4 σ = some (r0, τ0) → Z K (cs + 5) (ss + 30) 23 [(0, .ref b), (1, .ref (eA (kZ K) a1)), (2, .ref (eA (kZ K) a2)), (3, .ref (eA (kZ K) a3)), (4, .int a4)] [] σ) (a1 : Nat) (a2 : Nat) (a3 : Nat) (a4 : Int32) (ha1 : atCanonCote (kZ K) a1) (ha2 : atCanonCoteModel (kZ K) a2) (ha3 : aJ (kZ K) a3 1) (σ : zST) (h : m_L_law_1627 F L xs k23 a1 a2 a3 a4 σ = some (r0, τ0)) : Z K cs ss 1627 [(0, .ref b), (1, .ref (eA (kZ K) a1)), (2, .ref (eA (kZ K) a2)), (3, .ref (eA (kZ K) a3)), (4, .int a4)] [] σ := by
  unfold m_L_law_1627 at h
  refine Z_aload_n hk 1 dL_law_1627 rfl rfl ?_
  refine Z_aload_n hk 0 dL_law_1628 rfl rfl ?_
  refine Z_iload hk 4 dL_law_1629 rfl ?_
  refine Z_iconst hk dL_law_1631 zc_iconst_1 ?_
  refine Z_iadd hk dL_law_1632 ?_
  obtain ⟨i605, x603, e604, h⟩ := ldT_get h
  refine Z_sld hk hsc i605 dL_law_1633 ?_
  refine Z_eqI e604 ?_
  refine Z_i2l hk dL_law_1634 ?_
  refine Z_bipush hk dL_law_1635 zc_bipush_32 ?_
  refine Z_lshl hk dL_law_1637 ?_
  refine Z_aload_n hk 0 dL_law_1638 rfl rfl ?_
  refine Z_iload hk 4 dL_law_1639 rfl ?_
  refine Z_iconst hk dL_law_1641 zc_iconst_2 ?_
  refine Z_iadd hk dL_law_1642 ?_
  obtain ⟨i608, x606, e607, h⟩ := ldT_get h
  refine Z_sld hk hsc i608 dL_law_1643 ?_
  refine Z_eqI e607 ?_
  refine Z_i2l hk dL_law_1644 ?_
  refine Z_ldc2 hk (v := 4294967295) dL_law_1645 wd_L_law_0 ?_
  refine Z_land hk dL_law_1648 ?_
  refine Z_lor hk dL_law_1649 ?_
  refine Z_aload_n hk 3 dL_law_1650 rfl rfl ?_
  obtain ⟨x609, s610, h611, h⟩ := bd_ok h
  · refine ZX_callW 3 hk [.ref (eA (kZ K) a1), .long ((jlshl (x603.toInt64) 32) ||| ((x606.toInt64) &&& 4294967295)), .ref (eA (kZ K) a3)] (c_L_isInGroup hk.loc hk.inj hfl F 1 a1 ((jlshl (x603.toInt64) 32) ||| ((x606.toInt64) &&& 4294967295)) a3 ha1 ha3 σ h611) gL_law_L_isInGroup rfl ⟨by decide +kernel, by decide +kernel, by decide +kernel⟩ ⟨Nat.le_of_ble_eq_true rfl, Nat.le_of_ble_eq_true rfl⟩ rfl rfl (Nat.le_of_ble_eq_true rfl) ⟨by show cs + 0 + 1 ≤ 601024; omega, by show ss + 0 + 6 ≤ 7293033; omega⟩ dL_law_1651 (fun X hX => by cases hX) (fun v hv => ?_)
    cases hv
    show Z K (cs + 1) (ss + 6) 1654 [(0, .ref b), (1, .ref (eA (kZ K) a1)), (2, .ref (eA (kZ K) a2)), (3, .ref (eA (kZ K) a3)), (4, .int a4)] [.int x609] s610
    refine Z_istore hk (lv' := [(5, .int x609), (0, .ref b), (1, .ref (eA (kZ K) a1)), (2, .ref (eA (kZ K) a2)), (3, .ref (eA (kZ K) a3)), (4, .int a4)]) dL_law_1654 (by decide) rfl ?_
    refine Z_aload_n hk 3 dL_law_1656 rfl rfl ?_
    refine Z_aload_n hk 1 dL_law_1657 rfl rfl ?_
    refine Z_iload hk 5 dL_law_1658 rfl ?_
    refine Z_iconst hk dL_law_1660 zc_iconst_1 ?_
    refine Z_iadd hk dL_law_1661 ?_
    obtain ⟨i615, x613, e614, h⟩ := ldT_get h
    refine Z_sld hk hsc i615 dL_law_1662 ?_
    refine Z_eqI e614 ?_
    refine Z_i2l hk dL_law_1663 ?_
    refine Z_bipush hk dL_law_1664 zc_bipush_32 ?_
    refine Z_lshl hk dL_law_1666 ?_
    refine Z_aload_n hk 1 dL_law_1667 rfl rfl ?_
    refine Z_iload hk 5 dL_law_1668 rfl ?_
    refine Z_iconst hk dL_law_1670 zc_iconst_2 ?_
    refine Z_iadd hk dL_law_1671 ?_
    obtain ⟨i618, x616, e617, h⟩ := ldT_get h
    refine Z_sld hk hsc i618 dL_law_1672 ?_
    refine Z_eqI e617 ?_
    refine Z_i2l hk dL_law_1673 ?_
    refine Z_ldc2 hk (v := 4294967295) dL_law_1674 wd_L_law_0 ?_
    refine Z_land hk dL_law_1677 ?_
    refine Z_lor hk dL_law_1678 ?_
    obtain ⟨x619, s620, h621, h⟩ := bd_ok h
    refine Z_callV 1 hk [.long ((jlshl (x613.toInt64) 32) ||| ((x616.toInt64) &&& 4294967295))] (c_X8_isInGroup hk.loc hk.inj F a2 ((jlshl (x613.toInt64) 32) ||| ((x616.toInt64) &&& 4294967295)) ha2 s610 h621) gL_law_X8_isInGroup rfl ⟨rfl, rfl⟩ (by decide +kernel) ⟨Nat.le_of_ble_eq_true rfl, Nat.le_of_ble_eq_true rfl⟩ ha2.cell.1 (ha2.cell.2 _) rfl rfl rfl (Nat.le_of_ble_eq_true rfl) ⟨by show cs + 1 + 0 ≤ 601024; omega, by show ss + 6 + 0 ≤ 7293033; omega⟩ dL_law_1679 ?_
    show Z K (cs + 1) (ss + 6) 1682 [(5, .int x609), (0, .ref b), (1, .ref (eA (kZ K) a1)), (2, .ref (eA (kZ K) a2)), (3, .ref (eA (kZ K) a3)), (4, .int a4)] [.int x619] s620
    refine Z_istore hk (lv' := [(6, .int x619), (5, .int x609), (0, .ref b), (1, .ref (eA (kZ K) a1)), (2, .ref (eA (kZ K) a2)), (3, .ref (eA (kZ K) a3)), (4, .int a4)]) dL_law_1682 (by decide) rfl ?_
    refine Z_aload_n hk 4 dL_law_1684 rfl rfl ?_
    obtain ⟨x622, s623, h624, h⟩ := bd_ok h
    refine Z_callV 0 hk [] (c_X8_thrown hk.loc hk.inj F a2 ha2 s620 h624) gL_law_X8_thrown rfl ⟨rfl, rfl⟩ (by decide +kernel) ⟨Nat.le_of_ble_eq_true rfl, Nat.le_of_ble_eq_true rfl⟩ ha2.cell.1 (ha2.cell.2 _) rfl rfl rfl (Nat.le_of_ble_eq_true rfl) ⟨by show cs + 1 + 0 ≤ 601024; omega, by show ss + 6 + 0 ≤ 7293033; omega⟩ dL_law_1685 ?_
    show Z K (cs + 1) (ss + 6) 1688 [(6, .int x619), (5, .int x609), (0, .ref b), (1, .ref (eA (kZ K) a1)), (2, .ref (eA (kZ K) a2)), (3, .ref (eA (kZ K) a3)), (4, .int a4)] [.int x622] s623
    refine Z_iload hk 1 dL_law_1688 rfl ?_
    refine Z_icmp_eq hk (tgt := 1695) dL_law_1690 (by decide) (fun c625 => ?_) (fun c625 => ?_)
    · have h := if_yes h c625
      refine Z_iload hk 1 dL_law_1695 rfl ?_
      refine Z_if_ne hk (tgt := 1719) dL_law_1697 (by decide) (fun c626 => ?_) (fun c626 => ?_)
      · have h := if_yes h c626
        refine Z_aload_n hk 5 dL_law_1700 rfl rfl ?_
        refine Z_iconst hk dL_law_1701 zc_iconst_0 ?_
        obtain ⟨i629, x627, e628, h⟩ := ldL_get h
        refine Z_lald hk ha3 i629 dL_law_1702 ?_
        refine Z_eqL e628 ?_
        refine Z_iload hk 0 dL_law_1703 rfl ?_
        refine Z_if_eq hk (tgt := 1712) dL_law_1705 (by decide) (fun c630 => ?_) (fun c630 => ?_)
        · have h := if_yes h c630
          refine Z_lconst hk dL_law_1712 (v := 0) rfl ?_
          refine Z_sub [2, 3, 4, 5, 6] rfl ?_
          refine Z_widen (cs' := cs + 5) (ss' := ss + 30) (by omega) (by omega) ?_
          exact w_L_law_1713 hsc cs ss hc1 hc2 hk hfl hq F k23 hk23 a1 a2 a3 a4 0 x627 ha1 ha2 ha3 s623 h
        · have h := if_no h c630
          refine Z_lconst hk dL_law_1708 (v := 1) rfl ?_
          refine Z_goto hk (tgt := 1713) dL_law_1709 (by decide) ?_
          refine Z_sub [2, 3, 4, 5, 6] rfl ?_
          refine Z_widen (cs' := cs + 5) (ss' := ss + 30) (by omega) (by omega) ?_
          exact w_L_law_1713 hsc cs ss hc1 hc2 hk hfl hq F k23 hk23 a1 a2 a3 a4 1 x627 ha1 ha2 ha3 s623 h
      · have h := if_no h c626
        refine Z_sub [2, 3, 4, 5, 6] rfl ?_
        refine Z_widen (cs' := cs + 5) (ss' := ss + 30) (by omega) (by omega) ?_
        exact w_L_law_1719 hsc cs ss hc1 hc2 hk hfl hq F k23 hk23 a1 a2 a3 a4 ha1 ha2 ha3 s623 h
    · have h := if_no h c625
      refine Z_iconst hk dL_law_1693 zc_iconst_0 ?_
      cases h
      exact absurd hq.1 (by decide)
set_option maxRecDepth 100000 in
set_option maxHeartbeats 4000000 in
theorem w_L_law_1775 {K : zK} {b L : Nat} {xs : Nat → Int32} (hsc : zSc K b L xs) (cs ss : Nat) (hc1 : cs + 5 ≤ 601024) (hc2 : ss + 30 ≤ 7293033) (hk : zIs K RL cL_law 8 wsL_law (some .boolean) room_1) (hfl : (kL K).stackTraces = false) {r0 : Int32} {τ0 : zST} (hq : zQL K b r0) (F : Nat) (k23 : Nat → Nat → Nat → Int32 → zST → Option (Int32 × zST)) (hk23 : ∀ (a1 : Nat) (a2 : Nat) (a3 : Nat) (a4 : Int32) (ha1 : atCanonCote (kZ K) a1) (ha2 : atCanonCoteModel (kZ K) a2) (ha3 : aJ (kZ K) a3 1) (σ : zST), k23 a1 a2 a3 a4 σ = some (r0, τ0) → Z K (cs + 5) (ss + 30) 23 [(0, .ref b), (1, .ref (eA (kZ K) a1)), (2, .ref (eA (kZ K) a2)), (3, .ref (eA (kZ K) a3)), (4, .int a4)] [] σ) (a1 : Nat) (a2 : Nat) (a3 : Nat) (a4 : Int32) (ha1 : atCanonCote (kZ K) a1) (ha2 : atCanonCoteModel (kZ K) a2) (ha3 : aJ (kZ K) a3 1) (σ : zST) (h : m_L_law_1775 F L xs k23 a1 a2 a3 a4 σ = some (r0, τ0)) : Z K (cs + 5) (ss + 30) 1775 [(0, .ref b), (1, .ref (eA (kZ K) a1)), (2, .ref (eA (kZ K) a2)), (3, .ref (eA (kZ K) a3)), (4, .int a4)] [] σ := by
  unfold m_L_law_1775 at h
  refine Z_goto hk (tgt := 1834) dL_law_1775 (by decide) ?_
  refine Z_sub [0, 1, 2, 3, 4] rfl ?_
  exact w_L_law_1834 hsc cs ss hc1 hc2 hk hfl hq F k23 hk23 a1 a2 a3 a4 ha1 ha2 ha3 σ h
set_option maxRecDepth 100000 in
set_option maxHeartbeats 4000000 in
theorem w_L_law_1722 {K : zK} {b L : Nat} {xs : Nat → Int32} (hsc : zSc K b L xs) (cs ss : Nat) (hc1 : cs + 5 ≤ 601024) (hc2 : ss + 30 ≤ 7293033) (hk : zIs K RL cL_law 8 wsL_law (some .boolean) room_1) (hfl : (kL K).stackTraces = false) {r0 : Int32} {τ0 : zST} (hq : zQL K b r0) (F : Nat) (k23 : Nat → Nat → Nat → Int32 → zST → Option (Int32 × zST)) (hk23 : ∀ (a1 : Nat) (a2 : Nat) (a3 : Nat) (a4 : Int32) (ha1 : atCanonCote (kZ K) a1) (ha2 : atCanonCoteModel (kZ K) a2) (ha3 : aJ (kZ K) a3 1) (σ : zST), k23 a1 a2 a3 a4 σ = some (r0, τ0) → Z K (cs + 5) (ss + 30) 23 [(0, .ref b), (1, .ref (eA (kZ K) a1)), (2, .ref (eA (kZ K) a2)), (3, .ref (eA (kZ K) a3)), (4, .int a4)] [] σ) (a1 : Nat) (a2 : Nat) (a3 : Nat) (a4 : Int32) (ha1 : atCanonCote (kZ K) a1) (ha2 : atCanonCoteModel (kZ K) a2) (ha3 : aJ (kZ K) a3 1) (σ : zST) (h : m_L_law_1722 F L xs k23 a1 a2 a3 a4 σ = some (r0, τ0)) : Z K cs ss 1722 [(0, .ref b), (1, .ref (eA (kZ K) a1)), (2, .ref (eA (kZ K) a2)), (3, .ref (eA (kZ K) a3)), (4, .int a4)] [] σ := by
  unfold m_L_law_1722 at h
  refine Z_aload_n hk 1 dL_law_1722 rfl rfl ?_
  refine Z_aload_n hk 0 dL_law_1723 rfl rfl ?_
  refine Z_iload hk 4 dL_law_1724 rfl ?_
  refine Z_iconst hk dL_law_1726 zc_iconst_1 ?_
  refine Z_iadd hk dL_law_1727 ?_
  obtain ⟨i633, x631, e632, h⟩ := ldT_get h
  refine Z_sld hk hsc i633 dL_law_1728 ?_
  refine Z_eqI e632 ?_
  refine Z_aload_n hk 3 dL_law_1729 rfl rfl ?_
  obtain ⟨x634, s635, h636, h⟩ := bd_ok h
  · refine ZX_callW 3 hk [.ref (eA (kZ K) a1), .int x631, .ref (eA (kZ K) a3)] (c_L_moves hk.loc hk.inj hfl F 1 a1 x631 a3 ha1 ha3 σ h636) gL_law_L_moves rfl ⟨by decide +kernel, by decide +kernel, by decide +kernel⟩ ⟨Nat.le_of_ble_eq_true rfl, Nat.le_of_ble_eq_true rfl⟩ rfl rfl (Nat.le_of_ble_eq_true rfl) ⟨by show cs + 0 + 1 ≤ 601024; omega, by show ss + 0 + 6 ≤ 7293033; omega⟩ dL_law_1730 (fun X hX => by cases hX) (fun v hv => ?_)
    cases hv
    show Z K (cs + 1) (ss + 6) 1733 [(0, .ref b), (1, .ref (eA (kZ K) a1)), (2, .ref (eA (kZ K) a2)), (3, .ref (eA (kZ K) a3)), (4, .int a4)] [.int x634] s635
    refine Z_istore hk (lv' := [(5, .int x634), (0, .ref b), (1, .ref (eA (kZ K) a1)), (2, .ref (eA (kZ K) a2)), (3, .ref (eA (kZ K) a3)), (4, .int a4)]) dL_law_1733 (by decide) rfl ?_
    refine Z_aload_n hk 3 dL_law_1735 rfl rfl ?_
    refine Z_aload_n hk 1 dL_law_1736 rfl rfl ?_
    refine Z_iload hk 5 dL_law_1737 rfl ?_
    refine Z_iconst hk dL_law_1739 zc_iconst_1 ?_
    refine Z_iadd hk dL_law_1740 ?_
    obtain ⟨i640, x638, e639, h⟩ := ldT_get h
    refine Z_sld hk hsc i640 dL_law_1741 ?_
    refine Z_eqI e639 ?_
    obtain ⟨x641, s642, h643, h⟩ := bd_ok h
    refine Z_callV 1 hk [.int x638] (c_X8_moves hk.loc hk.inj F a2 x638 ha2 s635 h643) gL_law_X8_moves rfl ⟨rfl, rfl⟩ (by decide +kernel) ⟨Nat.le_of_ble_eq_true rfl, Nat.le_of_ble_eq_true rfl⟩ ha2.cell.1 (ha2.cell.2 _) rfl rfl rfl (Nat.le_of_ble_eq_true rfl) ⟨by show cs + 1 + 0 ≤ 601024; omega, by show ss + 6 + 0 ≤ 7293033; omega⟩ dL_law_1742 ?_
    show Z K (cs + 1) (ss + 6) 1745 [(5, .int x634), (0, .ref b), (1, .ref (eA (kZ K) a1)), (2, .ref (eA (kZ K) a2)), (3, .ref (eA (kZ K) a3)), (4, .int a4)] [.int x641] s642
    refine Z_istore hk (lv' := [(6, .int x641), (5, .int x634), (0, .ref b), (1, .ref (eA (kZ K) a1)), (2, .ref (eA (kZ K) a2)), (3, .ref (eA (kZ K) a3)), (4, .int a4)]) dL_law_1745 (by decide) rfl ?_
    refine Z_aload_n hk 4 dL_law_1747 rfl rfl ?_
    obtain ⟨x644, s645, h646, h⟩ := bd_ok h
    refine Z_callV 0 hk [] (c_X8_thrown hk.loc hk.inj F a2 ha2 s642 h646) gL_law_X8_thrown rfl ⟨rfl, rfl⟩ (by decide +kernel) ⟨Nat.le_of_ble_eq_true rfl, Nat.le_of_ble_eq_true rfl⟩ ha2.cell.1 (ha2.cell.2 _) rfl rfl rfl (Nat.le_of_ble_eq_true rfl) ⟨by show cs + 1 + 0 ≤ 601024; omega, by show ss + 6 + 0 ≤ 7293033; omega⟩ dL_law_1748 ?_
    show Z K (cs + 1) (ss + 6) 1751 [(6, .int x641), (5, .int x634), (0, .ref b), (1, .ref (eA (kZ K) a1)), (2, .ref (eA (kZ K) a2)), (3, .ref (eA (kZ K) a3)), (4, .int a4)] [.int x644] s645
    refine Z_iload hk 1 dL_law_1751 rfl ?_
    refine Z_icmp_eq hk (tgt := 1758) dL_law_1753 (by decide) (fun c647 => ?_) (fun c647 => ?_)
    · have h := if_yes h c647
      refine Z_iload hk 1 dL_law_1758 rfl ?_
      refine Z_if_ne hk (tgt := 1775) dL_law_1760 (by decide) (fun c648 => ?_) (fun c648 => ?_)
      · have h := if_yes h c648
        refine Z_aload_n hk 5 dL_law_1763 rfl rfl ?_
        refine Z_iconst hk dL_law_1764 zc_iconst_0 ?_
        obtain ⟨i651, x649, e650, h⟩ := ldL_get h
        refine Z_lald hk ha3 i651 dL_law_1765 ?_
        refine Z_eqL e650 ?_
        refine Z_iload hk 0 dL_law_1766 rfl ?_
        refine Z_i2l hk dL_law_1768 ?_
        refine Z_lcmp hk dL_law_1769 ?_
        refine Z_if_eq hk (tgt := 1775) dL_law_1770 (by decide) (fun c652 => ?_) (fun c652 => ?_)
        · have h := if_yes h c652
          refine Z_sub [2, 3, 4, 5, 6] rfl ?_
          refine Z_widen (cs' := cs + 5) (ss' := ss + 30) (by omega) (by omega) ?_
          exact w_L_law_1775 hsc cs ss hc1 hc2 hk hfl hq F k23 hk23 a1 a2 a3 a4 ha1 ha2 ha3 s645 h
        · have h := if_no h c652
          refine Z_iconst hk dL_law_1773 zc_iconst_0 ?_
          cases h
          exact absurd hq.1 (by decide)
      · have h := if_no h c648
        refine Z_sub [2, 3, 4, 5, 6] rfl ?_
        refine Z_widen (cs' := cs + 5) (ss' := ss + 30) (by omega) (by omega) ?_
        exact w_L_law_1775 hsc cs ss hc1 hc2 hk hfl hq F k23 hk23 a1 a2 a3 a4 ha1 ha2 ha3 s645 h
    · have h := if_no h c647
      refine Z_iconst hk dL_law_1756 zc_iconst_0 ?_
      cases h
      exact absurd hq.1 (by decide)
set_option maxRecDepth 100000 in
set_option maxHeartbeats 4000000 in
theorem w_L_law_1831 {K : zK} {b L : Nat} {xs : Nat → Int32} (hsc : zSc K b L xs) (cs ss : Nat) (hc1 : cs + 5 ≤ 601024) (hc2 : ss + 30 ≤ 7293033) (hk : zIs K RL cL_law 8 wsL_law (some .boolean) room_1) (hfl : (kL K).stackTraces = false) {r0 : Int32} {τ0 : zST} (hq : zQL K b r0) (F : Nat) (k23 : Nat → Nat → Nat → Int32 → zST → Option (Int32 × zST)) (hk23 : ∀ (a1 : Nat) (a2 : Nat) (a3 : Nat) (a4 : Int32) (ha1 : atCanonCote (kZ K) a1) (ha2 : atCanonCoteModel (kZ K) a2) (ha3 : aJ (kZ K) a3 1) (σ : zST), k23 a1 a2 a3 a4 σ = some (r0, τ0) → Z K (cs + 5) (ss + 30) 23 [(0, .ref b), (1, .ref (eA (kZ K) a1)), (2, .ref (eA (kZ K) a2)), (3, .ref (eA (kZ K) a3)), (4, .int a4)] [] σ) (a1 : Nat) (a2 : Nat) (a3 : Nat) (a4 : Int32) (ha1 : atCanonCote (kZ K) a1) (ha2 : atCanonCoteModel (kZ K) a2) (ha3 : aJ (kZ K) a3 1) (σ : zST) (h : m_L_law_1831 F L xs k23 a1 a2 a3 a4 σ = some (r0, τ0)) : Z K (cs + 5) (ss + 30) 1831 [(0, .ref b), (1, .ref (eA (kZ K) a1)), (2, .ref (eA (kZ K) a2)), (3, .ref (eA (kZ K) a3)), (4, .int a4)] [] σ := by
  unfold m_L_law_1831 at h
  refine Z_goto hk (tgt := 1834) dL_law_1831 (by decide) ?_
  refine Z_sub [0, 1, 2, 3, 4] rfl ?_
  exact w_L_law_1834 hsc cs ss hc1 hc2 hk hfl hq F k23 hk23 a1 a2 a3 a4 ha1 ha2 ha3 σ h
set_option maxRecDepth 100000 in
set_option maxHeartbeats 4000000 in
theorem w_L_law_1778 {K : zK} {b L : Nat} {xs : Nat → Int32} (hsc : zSc K b L xs) (cs ss : Nat) (hc1 : cs + 5 ≤ 601024) (hc2 : ss + 30 ≤ 7293033) (hk : zIs K RL cL_law 8 wsL_law (some .boolean) room_1) (hfl : (kL K).stackTraces = false) {r0 : Int32} {τ0 : zST} (hq : zQL K b r0) (F : Nat) (k23 : Nat → Nat → Nat → Int32 → zST → Option (Int32 × zST)) (hk23 : ∀ (a1 : Nat) (a2 : Nat) (a3 : Nat) (a4 : Int32) (ha1 : atCanonCote (kZ K) a1) (ha2 : atCanonCoteModel (kZ K) a2) (ha3 : aJ (kZ K) a3 1) (σ : zST), k23 a1 a2 a3 a4 σ = some (r0, τ0) → Z K (cs + 5) (ss + 30) 23 [(0, .ref b), (1, .ref (eA (kZ K) a1)), (2, .ref (eA (kZ K) a2)), (3, .ref (eA (kZ K) a3)), (4, .int a4)] [] σ) (a1 : Nat) (a2 : Nat) (a3 : Nat) (a4 : Int32) (ha1 : atCanonCote (kZ K) a1) (ha2 : atCanonCoteModel (kZ K) a2) (ha3 : aJ (kZ K) a3 1) (σ : zST) (h : m_L_law_1778 F L xs k23 a1 a2 a3 a4 σ = some (r0, τ0)) : Z K cs ss 1778 [(0, .ref b), (1, .ref (eA (kZ K) a1)), (2, .ref (eA (kZ K) a2)), (3, .ref (eA (kZ K) a3)), (4, .int a4)] [] σ := by
  unfold m_L_law_1778 at h
  refine Z_aload_n hk 1 dL_law_1778 rfl rfl ?_
  refine Z_aload_n hk 0 dL_law_1779 rfl rfl ?_
  refine Z_iload hk 4 dL_law_1780 rfl ?_
  refine Z_iconst hk dL_law_1782 zc_iconst_1 ?_
  refine Z_iadd hk dL_law_1783 ?_
  obtain ⟨i655, x653, e654, h⟩ := ldT_get h
  refine Z_sld hk hsc i655 dL_law_1784 ?_
  refine Z_eqI e654 ?_
  refine Z_aload_n hk 3 dL_law_1785 rfl rfl ?_
  obtain ⟨x656, s657, h658, h⟩ := bd_ok h
  · refine ZX_callW 3 hk [.ref (eA (kZ K) a1), .int x653, .ref (eA (kZ K) a3)] (c_L_fixing hk.loc hk.inj hfl F 1 a1 x653 a3 ha1 ha3 σ h658) gL_law_L_fixing rfl ⟨by decide +kernel, by decide +kernel, by decide +kernel⟩ ⟨Nat.le_of_ble_eq_true rfl, Nat.le_of_ble_eq_true rfl⟩ rfl rfl (Nat.le_of_ble_eq_true rfl) ⟨by show cs + 0 + 1 ≤ 601024; omega, by show ss + 0 + 6 ≤ 7293033; omega⟩ dL_law_1786 (fun X hX => by cases hX) (fun v hv => ?_)
    cases hv
    show Z K (cs + 1) (ss + 6) 1789 [(0, .ref b), (1, .ref (eA (kZ K) a1)), (2, .ref (eA (kZ K) a2)), (3, .ref (eA (kZ K) a3)), (4, .int a4)] [.int x656] s657
    refine Z_istore hk (lv' := [(5, .int x656), (0, .ref b), (1, .ref (eA (kZ K) a1)), (2, .ref (eA (kZ K) a2)), (3, .ref (eA (kZ K) a3)), (4, .int a4)]) dL_law_1789 (by decide) rfl ?_
    refine Z_aload_n hk 3 dL_law_1791 rfl rfl ?_
    refine Z_aload_n hk 1 dL_law_1792 rfl rfl ?_
    refine Z_iload hk 5 dL_law_1793 rfl ?_
    refine Z_iconst hk dL_law_1795 zc_iconst_1 ?_
    refine Z_iadd hk dL_law_1796 ?_
    obtain ⟨i662, x660, e661, h⟩ := ldT_get h
    refine Z_sld hk hsc i662 dL_law_1797 ?_
    refine Z_eqI e661 ?_
    obtain ⟨x663, s664, h665, h⟩ := bd_ok h
    refine Z_callV 1 hk [.int x660] (c_X8_fixing hk.loc hk.inj F a2 x660 ha2 s657 h665) gL_law_X8_fixing rfl ⟨rfl, rfl⟩ (by decide +kernel) ⟨Nat.le_of_ble_eq_true rfl, Nat.le_of_ble_eq_true rfl⟩ ha2.cell.1 (ha2.cell.2 _) rfl rfl rfl (Nat.le_of_ble_eq_true rfl) ⟨by show cs + 1 + 0 ≤ 601024; omega, by show ss + 6 + 0 ≤ 7293033; omega⟩ dL_law_1798 ?_
    show Z K (cs + 1) (ss + 6) 1801 [(5, .int x656), (0, .ref b), (1, .ref (eA (kZ K) a1)), (2, .ref (eA (kZ K) a2)), (3, .ref (eA (kZ K) a3)), (4, .int a4)] [.int x663] s664
    refine Z_istore hk (lv' := [(6, .int x663), (5, .int x656), (0, .ref b), (1, .ref (eA (kZ K) a1)), (2, .ref (eA (kZ K) a2)), (3, .ref (eA (kZ K) a3)), (4, .int a4)]) dL_law_1801 (by decide) rfl ?_
    refine Z_aload_n hk 4 dL_law_1803 rfl rfl ?_
    obtain ⟨x666, s667, h668, h⟩ := bd_ok h
    refine Z_callV 0 hk [] (c_X8_thrown hk.loc hk.inj F a2 ha2 s664 h668) gL_law_X8_thrown rfl ⟨rfl, rfl⟩ (by decide +kernel) ⟨Nat.le_of_ble_eq_true rfl, Nat.le_of_ble_eq_true rfl⟩ ha2.cell.1 (ha2.cell.2 _) rfl rfl rfl (Nat.le_of_ble_eq_true rfl) ⟨by show cs + 1 + 0 ≤ 601024; omega, by show ss + 6 + 0 ≤ 7293033; omega⟩ dL_law_1804 ?_
    show Z K (cs + 1) (ss + 6) 1807 [(6, .int x663), (5, .int x656), (0, .ref b), (1, .ref (eA (kZ K) a1)), (2, .ref (eA (kZ K) a2)), (3, .ref (eA (kZ K) a3)), (4, .int a4)] [.int x666] s667
    refine Z_iload hk 1 dL_law_1807 rfl ?_
    refine Z_icmp_eq hk (tgt := 1814) dL_law_1809 (by decide) (fun c669 => ?_) (fun c669 => ?_)
    · have h := if_yes h c669
      refine Z_iload hk 1 dL_law_1814 rfl ?_
      refine Z_if_ne hk (tgt := 1831) dL_law_1816 (by decide) (fun c670 => ?_) (fun c670 => ?_)
      · have h := if_yes h c670
        refine Z_aload_n hk 5 dL_law_1819 rfl rfl ?_
        refine Z_iconst hk dL_law_1820 zc_iconst_0 ?_
        obtain ⟨i673, x671, e672, h⟩ := ldL_get h
        refine Z_lald hk ha3 i673 dL_law_1821 ?_
        refine Z_eqL e672 ?_
        refine Z_iload hk 0 dL_law_1822 rfl ?_
        refine Z_i2l hk dL_law_1824 ?_
        refine Z_lcmp hk dL_law_1825 ?_
        refine Z_if_eq hk (tgt := 1831) dL_law_1826 (by decide) (fun c674 => ?_) (fun c674 => ?_)
        · have h := if_yes h c674
          refine Z_sub [2, 3, 4, 5, 6] rfl ?_
          refine Z_widen (cs' := cs + 5) (ss' := ss + 30) (by omega) (by omega) ?_
          exact w_L_law_1831 hsc cs ss hc1 hc2 hk hfl hq F k23 hk23 a1 a2 a3 a4 ha1 ha2 ha3 s667 h
        · have h := if_no h c674
          refine Z_iconst hk dL_law_1829 zc_iconst_0 ?_
          cases h
          exact absurd hq.1 (by decide)
      · have h := if_no h c670
        refine Z_sub [2, 3, 4, 5, 6] rfl ?_
        refine Z_widen (cs' := cs + 5) (ss' := ss + 30) (by omega) (by omega) ?_
        exact w_L_law_1831 hsc cs ss hc1 hc2 hk hfl hq F k23 hk23 a1 a2 a3 a4 ha1 ha2 ha3 s667 h
    · have h := if_no h c669
      refine Z_iconst hk dL_law_1812 zc_iconst_0 ?_
      cases h
      exact absurd hq.1 (by decide)
set_option maxRecDepth 100000 in
set_option maxHeartbeats 4000000 in
theorem w_L_law_23 {K : zK} {b L : Nat} {xs : Nat → Int32} (hsc : zSc K b L xs) (hk : zIs K RL cL_law 8 wsL_law (some .boolean) room_1) (hfl : (kL K).stackTraces = false) {r0 : Int32} {τ0 : zST} (hq : zQL K b r0) (F : Nat) : ∀ (n : Nat) (cs ss : Nat) (hc1 : cs + 5 * n ≤ 601024) (hc2 : ss + 30 * n ≤ 7293033) (a1 : Nat) (a2 : Nat) (a3 : Nat) (a4 : Int32) (ha1 : atCanonCote (kZ K) a1) (ha2 : atCanonCoteModel (kZ K) a2) (ha3 : aJ (kZ K) a3 1) (σ : zST), m_L_law_23 F L xs n a1 a2 a3 a4 σ = some (r0, τ0) → Z K cs ss 23 [(0, .ref b), (1, .ref (eA (kZ K) a1)), (2, .ref (eA (kZ K) a2)), (3, .ref (eA (kZ K) a3)), (4, .int a4)] [] σ := by
  intro n
  induction n with
  | zero => intro cs ss hc1 hc2 a1 a2 a3 a4 ha1 ha2 ha3 σ h; cases h
  | succ n ih0 =>
    intro cs ss hc1 hc2 a1 a2 a3 a4 ha1 ha2 ha3 σ h
    have ih := ih0 (cs + 5) (ss + 30) (by omega) (by omega)
    rw [m_L_law_23] at h
    refine Z_iload hk 4 dL_law_23 rfl ?_
    refine Z_aload_n hk 0 dL_law_25 rfl rfl ?_
    refine Z_slen hk hsc dL_law_26 ?_
    refine Z_iconst hk dL_law_27 zc_iconst_4 ?_
    refine Z_isub hk dL_law_28 ?_
    refine Z_icmp_gt hk (tgt := 1840) dL_law_29 (by decide) (fun c1 => ?_) (fun c1 => ?_)
    · have h := if_yes h c1
      refine Z_iconst hk dL_law_1840 zc_iconst_1 ?_
      cases h
      exact Z_lawret hk hq ⟨by omega, by omega⟩ dL_law_1841
    · have h := if_no h c1
      refine Z_aload_n hk 0 dL_law_32 rfl rfl ?_
      refine Z_iload hk 4 dL_law_33 rfl ?_
      obtain ⟨i4, x2, e3, h⟩ := ldT_get h
      refine Z_sld hk hsc i4 dL_law_35 ?_
      refine Z_eqI e3 ?_
      refine Z_bipush hk dL_law_36 zc_bipush_31 ?_
      refine Z_iand hk dL_law_38 ?_
      obtain ⟨y5, e6, h⟩ := nm_get h
      refine Z_eqI e6 ?_
      by_cases cc0 : y5 = 0
      · have h := if_yes h cc0
        refine Z_tswIn hk (off := 121) (tgt := 160) dL_law_39 cc0 (by decide +kernel) (by decide +kernel) (by decide +kernel) (by decide) ?_
        refine Z_sub [0, 1, 2, 3, 4] rfl ?_
        have hc1 : cs + 5 ≤ 601024 := by omega
        have hc2 : ss + 30 ≤ 7293033 := by omega
        exact w_L_law_160 hsc cs ss hc1 hc2 hk hfl hq F (m_L_law_23 F L xs n) ih a1 a2 a3 a4 ha1 ha2 ha3 σ h
      have h := if_no h cc0
      by_cases cc1 : y5 = 1
      · have h := if_yes h cc1
        refine Z_tswIn hk (off := 189) (tgt := 228) dL_law_39 cc1 (by decide +kernel) (by decide +kernel) (by decide +kernel) (by decide) ?_
        refine Z_sub [0, 1, 2, 3, 4] rfl ?_
        have hc1 : cs + 5 ≤ 601024 := by omega
        have hc2 : ss + 30 ≤ 7293033 := by omega
        exact w_L_law_228 hsc cs ss hc1 hc2 hk hfl hq F (m_L_law_23 F L xs n) ih a1 a2 a3 a4 ha1 ha2 ha3 σ h
      have h := if_no h cc1
      by_cases cc2 : y5 = 2
      · have h := if_yes h cc2
        refine Z_tswIn hk (off := 276) (tgt := 315) dL_law_39 cc2 (by decide +kernel) (by decide +kernel) (by decide +kernel) (by decide) ?_
        refine Z_sub [0, 1, 2, 3, 4] rfl ?_
        have hc1 : cs + 5 ≤ 601024 := by omega
        have hc2 : ss + 30 ≤ 7293033 := by omega
        exact w_L_law_315 hsc cs ss hc1 hc2 hk hfl hq F (m_L_law_23 F L xs n) ih a1 a2 a3 a4 ha1 ha2 ha3 σ h
      have h := if_no h cc2
      by_cases cc3 : y5 = 3
      · have h := if_yes h cc3
        refine Z_tswIn hk (off := 356) (tgt := 395) dL_law_39 cc3 (by decide +kernel) (by decide +kernel) (by decide +kernel) (by decide) ?_
        refine Z_sub [0, 1, 2, 3, 4] rfl ?_
        have hc1 : cs + 5 ≤ 601024 := by omega
        have hc2 : ss + 30 ≤ 7293033 := by omega
        exact w_L_law_395 hsc cs ss hc1 hc2 hk hfl hq F (m_L_law_23 F L xs n) ih a1 a2 a3 a4 ha1 ha2 ha3 σ h
      have h := if_no h cc3
      by_cases cc4 : y5 = 4
      · have h := if_yes h cc4
        refine Z_tswIn hk (off := 416) (tgt := 455) dL_law_39 cc4 (by decide +kernel) (by decide +kernel) (by decide +kernel) (by decide) ?_
        refine Z_sub [0, 1, 2, 3, 4] rfl ?_
        have hc1 : cs + 5 ≤ 601024 := by omega
        have hc2 : ss + 30 ≤ 7293033 := by omega
        exact w_L_law_455 hsc cs ss hc1 hc2 hk hfl hq F (m_L_law_23 F L xs n) ih a1 a2 a3 a4 ha1 ha2 ha3 σ h
      have h := if_no h cc4
      by_cases cc5 : y5 = 5
      · have h := if_yes h cc5
        refine Z_tswIn hk (off := 464) (tgt := 503) dL_law_39 cc5 (by decide +kernel) (by decide +kernel) (by decide +kernel) (by decide) ?_
        refine Z_sub [0, 1, 2, 3, 4] rfl ?_
        have hc1 : cs + 5 ≤ 601024 := by omega
        have hc2 : ss + 30 ≤ 7293033 := by omega
        exact w_L_law_503 hsc cs ss hc1 hc2 hk hfl hq F (m_L_law_23 F L xs n) ih a1 a2 a3 a4 ha1 ha2 ha3 σ h
      have h := if_no h cc5
      by_cases cc6 : y5 = 6
      · have h := if_yes h cc6
        refine Z_tswIn hk (off := 520) (tgt := 559) dL_law_39 cc6 (by decide +kernel) (by decide +kernel) (by decide +kernel) (by decide) ?_
        refine Z_sub [0, 1, 2, 3, 4] rfl ?_
        have hc1 : cs + 5 ≤ 601024 := by omega
        have hc2 : ss + 30 ≤ 7293033 := by omega
        exact w_L_law_559 hsc cs ss hc1 hc2 hk hfl hq F (m_L_law_23 F L xs n) ih a1 a2 a3 a4 ha1 ha2 ha3 σ h
      have h := if_no h cc6
      by_cases cc7 : y5 = 7
      · have h := if_yes h cc7
        refine Z_tswIn hk (off := 576) (tgt := 615) dL_law_39 cc7 (by decide +kernel) (by decide +kernel) (by decide +kernel) (by decide) ?_
        refine Z_sub [0, 1, 2, 3, 4] rfl ?_
        have hc1 : cs + 5 ≤ 601024 := by omega
        have hc2 : ss + 30 ≤ 7293033 := by omega
        exact w_L_law_615 hsc cs ss hc1 hc2 hk hfl hq F (m_L_law_23 F L xs n) ih a1 a2 a3 a4 ha1 ha2 ha3 σ h
      have h := if_no h cc7
      by_cases cc8 : y5 = 8
      · have h := if_yes h cc8
        refine Z_tswIn hk (off := 632) (tgt := 671) dL_law_39 cc8 (by decide +kernel) (by decide +kernel) (by decide +kernel) (by decide) ?_
        refine Z_sub [0, 1, 2, 3, 4] rfl ?_
        have hc1 : cs + 5 ≤ 601024 := by omega
        have hc2 : ss + 30 ≤ 7293033 := by omega
        exact w_L_law_671 hsc cs ss hc1 hc2 hk hfl hq F (m_L_law_23 F L xs n) ih a1 a2 a3 a4 ha1 ha2 ha3 σ h
      have h := if_no h cc8
      by_cases cc9 : y5 = 9
      · have h := if_yes h cc9
        refine Z_tswIn hk (off := 700) (tgt := 739) dL_law_39 cc9 (by decide +kernel) (by decide +kernel) (by decide +kernel) (by decide) ?_
        refine Z_sub [0, 1, 2, 3, 4] rfl ?_
        have hc1 : cs + 5 ≤ 601024 := by omega
        have hc2 : ss + 30 ≤ 7293033 := by omega
        exact w_L_law_739 hsc cs ss hc1 hc2 hk hfl hq F (m_L_law_23 F L xs n) ih a1 a2 a3 a4 ha1 ha2 ha3 σ h
      have h := if_no h cc9
      by_cases cc10 : y5 = 10
      · have h := if_yes h cc10
        refine Z_tswIn hk (off := 768) (tgt := 807) dL_law_39 cc10 (by decide +kernel) (by decide +kernel) (by decide +kernel) (by decide) ?_
        refine Z_sub [0, 1, 2, 3, 4] rfl ?_
        have hc1 : cs + 5 ≤ 601024 := by omega
        have hc2 : ss + 30 ≤ 7293033 := by omega
        exact w_L_law_807 hsc cs ss hc1 hc2 hk hfl hq F (m_L_law_23 F L xs n) ih a1 a2 a3 a4 ha1 ha2 ha3 σ h
      have h := if_no h cc10
      by_cases cc11 : y5 = 11
      · have h := if_yes h cc11
        refine Z_tswIn hk (off := 824) (tgt := 863) dL_law_39 cc11 (by decide +kernel) (by decide +kernel) (by decide +kernel) (by decide) ?_
        refine Z_sub [0, 1, 2, 3, 4] rfl ?_
        have hc1 : cs + 5 ≤ 601024 := by omega
        have hc2 : ss + 30 ≤ 7293033 := by omega
        exact w_L_law_863 hsc cs ss hc1 hc2 hk hfl hq F (m_L_law_23 F L xs n) ih a1 a2 a3 a4 ha1 ha2 ha3 σ h
      have h := if_no h cc11
      by_cases cc12 : y5 = 12
      · have h := if_yes h cc12
        refine Z_tswIn hk (off := 892) (tgt := 931) dL_law_39 cc12 (by decide +kernel) (by decide +kernel) (by decide +kernel) (by decide) ?_
        refine Z_sub [0, 1, 2, 3, 4] rfl ?_
        have hc1 : cs + 5 ≤ 601024 := by omega
        have hc2 : ss + 30 ≤ 7293033 := by omega
        exact w_L_law_931 hsc cs ss hc1 hc2 hk hfl hq F (m_L_law_23 F L xs n) ih a1 a2 a3 a4 ha1 ha2 ha3 σ h
      have h := if_no h cc12
      by_cases cc13 : y5 = 13
      · have h := if_yes h cc13
        refine Z_tswIn hk (off := 948) (tgt := 987) dL_law_39 cc13 (by decide +kernel) (by decide +kernel) (by decide +kernel) (by decide) ?_
        refine Z_sub [0, 1, 2, 3, 4] rfl ?_
        have hc1 : cs + 5 ≤ 601024 := by omega
        have hc2 : ss + 30 ≤ 7293033 := by omega
        exact w_L_law_987 hsc cs ss hc1 hc2 hk hfl hq F (m_L_law_23 F L xs n) ih a1 a2 a3 a4 ha1 ha2 ha3 σ h
      have h := if_no h cc13
      by_cases cc14 : y5 = 14
      · have h := if_yes h cc14
        refine Z_tswIn hk (off := 1003) (tgt := 1042) dL_law_39 cc14 (by decide +kernel) (by decide +kernel) (by decide +kernel) (by decide) ?_
        refine Z_sub [0, 1, 2, 3, 4] rfl ?_
        have hc1 : cs + 5 ≤ 601024 := by omega
        have hc2 : ss + 30 ≤ 7293033 := by omega
        exact w_L_law_1042 hsc cs ss hc1 hc2 hk hfl hq F (m_L_law_23 F L xs n) ih a1 a2 a3 a4 ha1 ha2 ha3 σ h
      have h := if_no h cc14
      by_cases cc15 : y5 = 15
      · have h := if_yes h cc15
        refine Z_tswIn hk (off := 1071) (tgt := 1110) dL_law_39 cc15 (by decide +kernel) (by decide +kernel) (by decide +kernel) (by decide) ?_
        refine Z_sub [0, 1, 2, 3, 4] rfl ?_
        have hc1 : cs + 5 ≤ 601024 := by omega
        have hc2 : ss + 30 ≤ 7293033 := by omega
        exact w_L_law_1110 hsc cs ss hc1 hc2 hk hfl hq F (m_L_law_23 F L xs n) ih a1 a2 a3 a4 ha1 ha2 ha3 σ h
      have h := if_no h cc15
      by_cases cc16 : y5 = 16
      · have h := if_yes h cc16
        refine Z_tswIn hk (off := 1146) (tgt := 1185) dL_law_39 cc16 (by decide +kernel) (by decide +kernel) (by decide +kernel) (by decide) ?_
        refine Z_sub [0, 1, 2, 3, 4] rfl ?_
        have hc1 : cs + 5 ≤ 601024 := by omega
        have hc2 : ss + 30 ≤ 7293033 := by omega
        exact w_L_law_1185 hsc cs ss hc1 hc2 hk hfl hq F (m_L_law_23 F L xs n) ih a1 a2 a3 a4 ha1 ha2 ha3 σ h
      have h := if_no h cc16
      by_cases cc17 : y5 = 17
      · have h := if_yes h cc17
        refine Z_tswIn hk (off := 1226) (tgt := 1265) dL_law_39 cc17 (by decide +kernel) (by decide +kernel) (by decide +kernel) (by decide) ?_
        refine Z_sub [0, 1, 2, 3, 4] rfl ?_
        have hc1 : cs + 5 ≤ 601024 := by omega
        have hc2 : ss + 30 ≤ 7293033 := by omega
        exact w_L_law_1265 hsc cs ss hc1 hc2 hk hfl hq F (m_L_law_23 F L xs n) ih a1 a2 a3 a4 ha1 ha2 ha3 σ h
      have h := if_no h cc17
      by_cases cc18 : y5 = 18
      · have h := if_yes h cc18
        refine Z_tswIn hk (off := 1294) (tgt := 1333) dL_law_39 cc18 (by decide +kernel) (by decide +kernel) (by decide +kernel) (by decide) ?_
        refine Z_sub [0, 1, 2, 3, 4] rfl ?_
        have hc1 : cs + 5 ≤ 601024 := by omega
        have hc2 : ss + 30 ≤ 7293033 := by omega
        exact w_L_law_1333 hsc cs ss hc1 hc2 hk hfl hq F (m_L_law_23 F L xs n) ih a1 a2 a3 a4 ha1 ha2 ha3 σ h
      have h := if_no h cc18
      by_cases cc19 : y5 = 19
      · have h := if_yes h cc19
        refine Z_tswIn hk (off := 1350) (tgt := 1389) dL_law_39 cc19 (by decide +kernel) (by decide +kernel) (by decide +kernel) (by decide) ?_
        refine Z_sub [0, 1, 2, 3, 4] rfl ?_
        have hc1 : cs + 5 ≤ 601024 := by omega
        have hc2 : ss + 30 ≤ 7293033 := by omega
        exact w_L_law_1389 hsc cs ss hc1 hc2 hk hfl hq F (m_L_law_23 F L xs n) ih a1 a2 a3 a4 ha1 ha2 ha3 σ h
      have h := if_no h cc19
      by_cases cc20 : y5 = 20
      · have h := if_yes h cc20
        refine Z_tswIn hk (off := 1406) (tgt := 1445) dL_law_39 cc20 (by decide +kernel) (by decide +kernel) (by decide +kernel) (by decide) ?_
        refine Z_sub [0, 1, 2, 3, 4] rfl ?_
        have hc1 : cs + 5 ≤ 601024 := by omega
        have hc2 : ss + 30 ≤ 7293033 := by omega
        exact w_L_law_1445 hsc cs ss hc1 hc2 hk hfl hq F (m_L_law_23 F L xs n) ih a1 a2 a3 a4 ha1 ha2 ha3 σ h
      have h := if_no h cc20
      by_cases cc21 : y5 = 21
      · have h := if_yes h cc21
        refine Z_tswIn hk (off := 1474) (tgt := 1513) dL_law_39 cc21 (by decide +kernel) (by decide +kernel) (by decide +kernel) (by decide) ?_
        refine Z_sub [0, 1, 2, 3, 4] rfl ?_
        have hc1 : cs + 5 ≤ 601024 := by omega
        have hc2 : ss + 30 ≤ 7293033 := by omega
        exact w_L_law_1513 hsc cs ss hc1 hc2 hk hfl hq F (m_L_law_23 F L xs n) ih a1 a2 a3 a4 ha1 ha2 ha3 σ h
      have h := if_no h cc21
      by_cases cc22 : y5 = 22
      · have h := if_yes h cc22
        refine Z_tswIn hk (off := 1562) (tgt := 1601) dL_law_39 cc22 (by decide +kernel) (by decide +kernel) (by decide +kernel) (by decide) ?_
        refine Z_sub [0, 1, 2, 3, 4] rfl ?_
        have hc1 : cs + 5 ≤ 601024 := by omega
        have hc2 : ss + 30 ≤ 7293033 := by omega
        exact w_L_law_1601 hsc cs ss hc1 hc2 hk hfl hq F (m_L_law_23 F L xs n) ih a1 a2 a3 a4 ha1 ha2 ha3 σ h
      have h := if_no h cc22
      by_cases cc23 : y5 = 23
      · have h := if_yes h cc23
        refine Z_tswIn hk (off := 1575) (tgt := 1614) dL_law_39 cc23 (by decide +kernel) (by decide +kernel) (by decide +kernel) (by decide) ?_
        refine Z_sub [0, 1, 2, 3, 4] rfl ?_
        have hc1 : cs + 5 ≤ 601024 := by omega
        have hc2 : ss + 30 ≤ 7293033 := by omega
        exact w_L_law_1614 hsc cs ss hc1 hc2 hk hfl hq F (m_L_law_23 F L xs n) ih a1 a2 a3 a4 ha1 ha2 ha3 σ h
      have h := if_no h cc23
      by_cases cc24 : y5 = 24
      · have h := if_yes h cc24
        refine Z_tswIn hk (off := 1588) (tgt := 1627) dL_law_39 cc24 (by decide +kernel) (by decide +kernel) (by decide +kernel) (by decide) ?_
        refine Z_sub [0, 1, 2, 3, 4] rfl ?_
        have hc1 : cs + 5 ≤ 601024 := by omega
        have hc2 : ss + 30 ≤ 7293033 := by omega
        exact w_L_law_1627 hsc cs ss hc1 hc2 hk hfl hq F (m_L_law_23 F L xs n) ih a1 a2 a3 a4 ha1 ha2 ha3 σ h
      have h := if_no h cc24
      by_cases cc25 : y5 = 25
      · have h := if_yes h cc25
        refine Z_tswIn hk (off := 1683) (tgt := 1722) dL_law_39 cc25 (by decide +kernel) (by decide +kernel) (by decide +kernel) (by decide) ?_
        refine Z_sub [0, 1, 2, 3, 4] rfl ?_
        have hc1 : cs + 5 ≤ 601024 := by omega
        have hc2 : ss + 30 ≤ 7293033 := by omega
        exact w_L_law_1722 hsc cs ss hc1 hc2 hk hfl hq F (m_L_law_23 F L xs n) ih a1 a2 a3 a4 ha1 ha2 ha3 σ h
      have h := if_no h cc25
      by_cases cc26 : y5 = 26
      · have h := if_yes h cc26
        refine Z_tswIn hk (off := 1739) (tgt := 1778) dL_law_39 cc26 (by decide +kernel) (by decide +kernel) (by decide +kernel) (by decide) ?_
        refine Z_sub [0, 1, 2, 3, 4] rfl ?_
        have hc1 : cs + 5 ≤ 601024 := by omega
        have hc2 : ss + 30 ≤ 7293033 := by omega
        exact w_L_law_1778 hsc cs ss hc1 hc2 hk hfl hq F (m_L_law_23 F L xs n) ih a1 a2 a3 a4 ha1 ha2 ha3 σ h
      have h := if_no h cc26
      refine Z_tswOut hk (tgt := 1834) dL_law_39 (tsw_out cc0 cc1 cc2 cc3 cc4 cc5 cc6 cc7 cc8 cc9 cc10 cc11 cc12 cc13 cc14 cc15 cc16 cc17 cc18 cc19 cc20 cc21 cc22 cc23 cc24 cc25 cc26) (by decide) ?_
      refine Z_sub [0, 1, 2, 3, 4] rfl ?_
      refine Z_widen (cs' := cs + 5) (ss' := ss + 30) (by omega) (by omega) ?_
      have hc1 : cs + 5 ≤ 601024 := by omega
      have hc2 : ss + 30 ≤ 7293033 := by omega
      exact w_L_law_1834 hsc cs ss hc1 hc2 hk hfl hq F (m_L_law_23 F L xs n) ih a1 a2 a3 a4 ha1 ha2 ha3 σ h
