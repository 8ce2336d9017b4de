def R_law : String := "CanonCoteLaw"
def lw_P (b : Addr) (xs : List Int32) (args : Array Value) (s : State) : Prop := args = #[.ref b] ∧ s.IntsAt b xs ∧ xs.length ≤ 260 ∧ (Jvm.Cond.and given_1 narrow_1).before args s = true
def lw_Q (_ : Array Value) (s : State) (o : Outcome) (t : State) : Prop := o = .returned (some (.int 1)) ∧ Framed s o t [] 639036 7184361
def lw_Z (below : List Frame) (a : Array Value) (s : State) : State → Prop := fun t => ∃ o, t.status = .running ∧ Ended t below o ∧ lw_Q a s o t
/-- the law's own end, with 1 on the stack, nothing written that was there before, its room as the claim has it -/
theorem lw_ret {p : Program} {l : Launch} {e : Env} {s : State} {m : MethodId} {below : List Frame} {meth : Method} {c : Code} {b : Nat} (hx : p.tables.exec = Jvm.exec) (hb : c.code = code) (hr : meth.sig.returnType = ret) (hlocks : meth.locks = false) {pc : Nat} {H : Heap} {ls : Array Slot} (hdg : decode code pc = .ok (.ireturn, 1)) : W p l e room_1 s m #[Value.ref b] below meth c H [] 639036 7184361 (lw_Z below #[Value.ref b] s) (F0 m pc ls [.int 1]) := by
  intro T hT X
  obtain ⟨fs, hret, hrun, hended, hW, hframe⟩ := X.leave (v := some (.int 1)) (hlocks := hlocks) (fun h => by rw [hr] at h; cases h)
  have hmeth' : T.vm.method? m = some meth := X.method'
  refine ⟨T.setFrames fs, ?_, .returned (some (.int 1)), hrun, hended, rfl, ⟨_, rfl⟩, hW, hframe⟩
  jvm_step X.here [X.here.top, hx, hb, hdg, hmeth', hr, ret, narrow_b1]
  (try refine ⟨rfl, ?_⟩); (try refine ⟨rfl, ?_⟩)
  first | (intro acts; rw [hret _ acts rfl rfl rfl]) | rw [hret _ _ rfl rfl rfl]
  exact Steps.refl _
/-- what holds at the law's entry: the machine, the code, the tables' words (any of lw_tbl by 'hts w (by decide +kernel)'), the script of L ints xs at the cell b, what the Statement gives of the start (any of its parts by flat_of_before) -/
def lw_At (p : Program) (s : State) (m : MethodId) (meth : Method) (c : Code) (b L : Nat) (xs : Nat → Int32) : Prop :=
  p.tables.exec = Jvm.exec ∧ c.code = code ∧ meth.sig.returnType = ret ∧ c.maxLocals = 1 ∧ s.vm.findClass R_law = some m.cls ∧ (∀ w ∈ lw_tbl, w.before #[Value.ref b] s = true) ∧ va_X b L xs s s.heap ∧ b < s.heap.size ∧ meth.locks = false ∧ (Jvm.Cond.and given_1 narrow_1).before #[Value.ref b] s = true
section
set_option maxRecDepth 100000 in
theorem lin__r1 : ∀ w ∈ wsL_law0_r1, w ∈ lw_tbl := by decide +kernel
set_option maxRecDepth 100000 in
theorem lin__r2 : ∀ w ∈ wsL_law0_r2, w ∈ lw_tbl := by decide +kernel
set_option maxRecDepth 100000 in
theorem lin__r3 : ∀ w ∈ wsL_law0_r3, w ∈ lw_tbl := by decide +kernel
set_option maxRecDepth 100000 in
theorem lin__r4 : ∀ w ∈ wsL_law0_r4, w ∈ lw_tbl := by decide +kernel
set_option maxRecDepth 100000 in
theorem lin__r5 : ∀ w ∈ wsL_law0_r5, w ∈ lw_tbl := by decide +kernel
set_option maxRecDepth 100000 in
theorem lin__r6 : ∀ w ∈ wsL_law0_r6, w ∈ lw_tbl := by decide +kernel
set_option maxRecDepth 100000 in
theorem lin__r7 : ∀ w ∈ wsL_law0_r7, w ∈ lw_tbl := by decide +kernel
set_option maxRecDepth 100000 in
theorem lin__r8 : ∀ w ∈ wsL_law0_r8, w ∈ lw_tbl := by decide +kernel
set_option maxRecDepth 100000 in
theorem lin__r9 : ∀ w ∈ wsL_law0_r9, w ∈ lw_tbl := by decide +kernel
set_option maxRecDepth 100000 in
theorem lin__r10 : ∀ w ∈ wsL_law0_r10, w ∈ lw_tbl := by decide +kernel
set_option maxRecDepth 100000 in
theorem lin__r11 : ∀ w ∈ wsL_law0_r11, w ∈ lw_tbl := by decide +kernel
set_option maxRecDepth 100000 in
theorem lin__r12 : ∀ w ∈ wsL_law0_r12, w ∈ lw_tbl := by decide +kernel
set_option maxRecDepth 100000 in
theorem lin__r13 : ∀ w ∈ wsL_law0_r13, w ∈ lw_tbl := by decide +kernel
set_option maxRecDepth 100000 in
theorem lin__r14 : ∀ w ∈ wsL_law0_r14, w ∈ lw_tbl := by decide +kernel
set_option maxRecDepth 100000 in
theorem lin__r15 : ∀ w ∈ wsL_law0_r15, w ∈ lw_tbl := by decide +kernel
set_option maxRecDepth 100000 in
theorem lin__r16 : ∀ w ∈ wsL_law0_r16, w ∈ lw_tbl := by decide +kernel
set_option maxRecDepth 100000 in
theorem lin__r17 : ∀ w ∈ wsL_law0_r17, w ∈ lw_tbl := by decide +kernel
set_option maxRecDepth 100000 in
theorem lin__r18 : ∀ w ∈ wsL_law0_r18, w ∈ lw_tbl := by decide +kernel
set_option maxRecDepth 100000 in
theorem lin__r19 : ∀ w ∈ wsL_law0_r19, w ∈ lw_tbl := by decide +kernel
set_option maxRecDepth 100000 in
theorem lin__r20 : ∀ w ∈ wsL_law0_r20, w ∈ lw_tbl := by decide +kernel
set_option maxRecDepth 100000 in
theorem lin__r21 : ∀ w ∈ wsL_law0_r21, w ∈ lw_tbl := by decide +kernel
theorem lin_wsX70 : ∀ w ∈ wsX70, w ∈ lw_tbl := by decide +kernel
theorem lin_wsX20 : ∀ w ∈ wsX20, w ∈ lw_tbl := by decide +kernel
theorem lin_wsX60 : ∀ w ∈ wsX60, w ∈ lw_tbl := by decide +kernel
theorem lin_wsX00 : ∀ w ∈ wsX00, w ∈ lw_tbl := by decide +kernel
theorem lin_wsX40 : ∀ w ∈ wsX40, w ∈ lw_tbl := by decide +kernel
theorem lin_wsX30 : ∀ w ∈ wsX30, w ∈ lw_tbl := by decide +kernel
theorem lin_wsX10 : ∀ w ∈ wsX10, w ∈ lw_tbl := by decide +kernel
theorem lin_x0 : ∀ w ∈ (vx_atS RX7 56 "java/lang/IllegalArgumentException" ["java/lang/RuntimeException", "java/lang/Exception"]).filter goodWord, w ∈ lw_tbl := by decide +kernel
theorem lin_x1 : ∀ w ∈ (vx_atS RX7 186 "java/lang/IndexOutOfBoundsException" ["java/lang/RuntimeException", "java/lang/Exception"]).filter goodWord, w ∈ lw_tbl := by decide +kernel
theorem lin_x2 : ∀ w ∈ (vx_atS RX7 163 "java/lang/IllegalStateException" ["java/lang/RuntimeException", "java/lang/Exception"]).filter goodWord, w ∈ lw_tbl := by decide +kernel
theorem lin_a (A B : List Cond) (ha : ∀ w ∈ A, w ∈ lw_tbl) (hb : ∀ w ∈ B, w ∈ lw_tbl) : ∀ w ∈ A ++ B, w ∈ lw_tbl := fun w h => (List.mem_append.mp h).elim (ha w) (hb w)
theorem lin_0 : ∀ w ∈ wsL_law0, w ∈ lw_tbl := by
  unfold wsL_law0
  exact lin_a _ _ (lin_a _ _ (lin_a _ _ (lin_a _ _ (lin_a _ _ (lin_a _ _ (lin_a _ _ (lin_a _ _ (lin_a _ _ lin__r1 (lin_a _ _ lin__r2 (lin_a _ _ lin__r3 (lin_a _ _ lin__r4 (lin_a _ _ lin__r5 (lin_a _ _ lin__r6 (lin_a _ _ lin__r7 (lin_a _ _ lin__r8 (lin_a _ _ lin__r9 (lin_a _ _ lin__r10 (lin_a _ _ lin__r11 (lin_a _ _ lin__r12 (lin_a _ _ lin__r13 (lin_a _ _ lin__r14 (lin_a _ _ lin__r15 (lin_a _ _ lin__r16 (lin_a _ _ lin__r17 (lin_a _ _ lin__r18 (lin_a _ _ lin__r19 (lin_a _ _ lin__r20 (lin__r21))))))))))))))))))))) lin_wsX70) lin_wsX20) lin_wsX60) lin_wsX00) lin_wsX40) lin_wsX30) lin_wsX10) (fun w h => by cases h)
theorem lin : ∀ w ∈ wsL_law, w ∈ lw_tbl := by
  unfold wsL_law
  exact lin_a _ _ (lin_a _ _ (lin_a _ _ (lin_0) lin_x0) lin_x1) lin_x2
theorem lin_nw : ∀ w ∈ zNW, w ∈ lw_tbl ∧ w.onTables = true := by decide +kernel
theorem lin_cls : (∀ w ∈ u_ws RX0 TX0 7, w ∈ lw_tbl) ∧ (∀ w ∈ u_ws RX1 TX1 6, w ∈ lw_tbl) ∧ (∀ w ∈ u_ws RX2 TX2 3, w ∈ lw_tbl) ∧ (∀ w ∈ u_ws RX3 TX3 4, w ∈ lw_tbl) ∧ (∀ w ∈ u_ws RX4 TX4 3, w ∈ lw_tbl) ∧ (∀ w ∈ u_ws RX6 TX6 5, w ∈ lw_tbl) ∧ (∀ w ∈ u_ws RX7 TX7 6, w ∈ lw_tbl) := ⟨lin_wsX00, lin_wsX10, lin_wsX20, lin_wsX30, lin_wsX40, lin_wsX60, lin_wsX70⟩
theorem ev_0 : (.initialized "CanonCote$Arranging" : Cond) ∈ lw_tbl := by decide +kernel
theorem ev_1 : (.laysStatic "CanonCote$Arranging" "LOWEST_EDGE_BIT" "[I" : Cond) ∈ lw_tbl := by decide +kernel
theorem ev_2 : (.laysStatic Bundle.tN "UNASSIGNED_STACK" Bundle.steD : Cond) ∈ lw_tbl := by decide +kernel
theorem ev_3 : (.laysStatic Bundle.tN "SUPPRESSED_SENTINEL" Bundle.listD : Cond) ∈ lw_tbl := by decide +kernel
theorem ev_4 : (.initialized Bundle.tN : Cond) ∈ lw_tbl := by decide +kernel
theorem ev_5 : (.arrayClass .int : Cond) ∈ lw_tbl := by decide +kernel
theorem ev_6 : (.arrayClass .long : Cond) ∈ lw_tbl := by decide +kernel
theorem ev_7 : (.arrayClass .int : Cond) ∈ lw_tbl := by decide +kernel
theorem ev_8 : (.arrayOver (.object "CanonCote$Graph") : Cond) ∈ lw_tbl := by decide +kernel
theorem ev_9 : (.instantiable RX0 7 : Cond) ∈ lw_tbl := by decide +kernel
theorem ev_10 : (.instantiable RX1 6 : Cond) ∈ lw_tbl := by decide +kernel
theorem ev_11 : (.instantiable RX2 3 : Cond) ∈ lw_tbl := by decide +kernel
theorem ev_12 : (.instantiable RX3 4 : Cond) ∈ lw_tbl := by decide +kernel
theorem ev_13 : (.instantiable RX4 3 : Cond) ∈ lw_tbl := by decide +kernel
theorem ev_14 : (.instantiable RX6 5 : Cond) ∈ lw_tbl := by decide +kernel
theorem ev_15 : (.instantiable RX7 6 : Cond) ∈ lw_tbl := by decide +kernel
theorem evs_54 : Cond.stringRef "CanonCote" 54 "size is out of range" ∈ lw_tbl := by decide +kernel
theorem evs_71 : Cond.stringRef "CanonCote" 71 "both vertices are the same" ∈ lw_tbl := by decide +kernel
theorem evs_81 : Cond.stringRef "CanonCote" 81 "colour is out of range" ∈ lw_tbl := by decide +kernel
theorem evs_161 : Cond.stringRef "CanonCote" 161 "there are 6 generators" ∈ lw_tbl := by decide +kernel
theorem evs_184 : Cond.stringRef "CanonCote" 184 "no such point" ∈ lw_tbl := by decide +kernel
theorem evs_190 : Cond.stringRef "CanonCote" 190 "points is out of range" ∈ lw_tbl := by decide +kernel
theorem evs_195 : Cond.stringRef "CanonCote" 195 "no such graph" ∈ lw_tbl := by decide +kernel
theorem evs_197 : Cond.stringRef "CanonCote" 197 "no such vertex" ∈ lw_tbl := by decide +kernel
theorem evs_204 : Cond.stringRef "CanonCote" 204 "no permutation" ∈ lw_tbl := by decide +kernel
set_option maxRecDepth 100000 in
theorem gv_0 : (.arrayOf (.static "CanonCote$Arranging" "LOWEST_EDGE_BIT" "[I") .int : Cond) ∈ flatC (Jvm.Cond.and given_1 narrow_1) := by decide +kernel
set_option maxRecDepth 100000 in
theorem gv_1 : (.eq (.length (.static "CanonCote$Arranging" "LOWEST_EDGE_BIT" "[I")) (.int 8) : Cond) ∈ flatC (Jvm.Cond.and given_1 narrow_1) := by decide +kernel
set_option maxRecDepth 100000 in
theorem gv_2 : (.eq (.elem (.static "CanonCote$Arranging" "LOWEST_EDGE_BIT" "[I") (.int 0)) (.int 21) : Cond) ∈ flatC (Jvm.Cond.and given_1 narrow_1) := by decide +kernel
set_option maxRecDepth 100000 in
theorem gv_3 : (.eq (.elem (.static "CanonCote$Arranging" "LOWEST_EDGE_BIT" "[I") (.int 1)) (.int 15) : Cond) ∈ flatC (Jvm.Cond.and given_1 narrow_1) := by decide +kernel
set_option maxRecDepth 100000 in
theorem gv_4 : (.eq (.elem (.static "CanonCote$Arranging" "LOWEST_EDGE_BIT" "[I") (.int 2)) (.int 10) : Cond) ∈ flatC (Jvm.Cond.and given_1 narrow_1) := by decide +kernel
set_option maxRecDepth 100000 in
theorem gv_5 : (.eq (.elem (.static "CanonCote$Arranging" "LOWEST_EDGE_BIT" "[I") (.int 3)) (.int 6) : Cond) ∈ flatC (Jvm.Cond.and given_1 narrow_1) := by decide +kernel
set_option maxRecDepth 100000 in
theorem gv_6 : (.eq (.elem (.static "CanonCote$Arranging" "LOWEST_EDGE_BIT" "[I") (.int 4)) (.int 3) : Cond) ∈ flatC (Jvm.Cond.and given_1 narrow_1) := by decide +kernel
set_option maxRecDepth 100000 in
theorem gv_7 : (.eq (.elem (.static "CanonCote$Arranging" "LOWEST_EDGE_BIT" "[I") (.int 5)) (.int 1) : Cond) ∈ flatC (Jvm.Cond.and given_1 narrow_1) := by decide +kernel
set_option maxRecDepth 100000 in
theorem gv_8 : (.eq (.elem (.static "CanonCote$Arranging" "LOWEST_EDGE_BIT" "[I") (.int 6)) (.int 0) : Cond) ∈ flatC (Jvm.Cond.and given_1 narrow_1) := by decide +kernel
set_option maxRecDepth 100000 in
theorem gv_9 : (.eq (.elem (.static "CanonCote$Arranging" "LOWEST_EDGE_BIT" "[I") (.int 7)) (.int 0) : Cond) ∈ flatC (Jvm.Cond.and given_1 narrow_1) := by decide +kernel
set_option maxRecDepth 100000 in
theorem gv_10 : (.isRef (.static Bundle.tN "UNASSIGNED_STACK" Bundle.steD) : Cond) ∈ flatC (Jvm.Cond.and given_1 narrow_1) := by decide +kernel
set_option maxRecDepth 100000 in
theorem gv_11 : (.isRef (.static Bundle.tN "SUPPRESSED_SENTINEL" Bundle.listD) : Cond) ∈ flatC (Jvm.Cond.and given_1 narrow_1) := by decide +kernel
set_option maxRecDepth 100000 in
theorem gv_12 : (.not (.castable "java/lang/IllegalArgumentException" "java/lang/IndexOutOfBoundsException") : Cond) ∈ flatC (Jvm.Cond.and given_1 narrow_1) := by decide +kernel
set_option maxRecDepth 100000 in
theorem gv_13 : (.not (.castable "java/lang/IllegalStateException" "java/lang/IllegalArgumentException") : Cond) ∈ flatC (Jvm.Cond.and given_1 narrow_1) := by decide +kernel
set_option maxRecDepth 100000 in
theorem gvs_54 : Cond.exactly (.string "CanonCote" 54) "java/lang/String" ∈ flatC (Jvm.Cond.and given_1 narrow_1) := by decide +kernel
set_option maxRecDepth 100000 in
theorem gvs_71 : Cond.exactly (.string "CanonCote" 71) "java/lang/String" ∈ flatC (Jvm.Cond.and given_1 narrow_1) := by decide +kernel
set_option maxRecDepth 100000 in
theorem gvs_81 : Cond.exactly (.string "CanonCote" 81) "java/lang/String" ∈ flatC (Jvm.Cond.and given_1 narrow_1) := by decide +kernel
set_option maxRecDepth 100000 in
theorem gvs_161 : Cond.exactly (.string "CanonCote" 161) "java/lang/String" ∈ flatC (Jvm.Cond.and given_1 narrow_1) := by decide +kernel
set_option maxRecDepth 100000 in
theorem gvs_184 : Cond.exactly (.string "CanonCote" 184) "java/lang/String" ∈ flatC (Jvm.Cond.and given_1 narrow_1) := by decide +kernel
set_option maxRecDepth 100000 in
theorem gvs_190 : Cond.exactly (.string "CanonCote" 190) "java/lang/String" ∈ flatC (Jvm.Cond.and given_1 narrow_1) := by decide +kernel
set_option maxRecDepth 100000 in
theorem gvs_195 : Cond.exactly (.string "CanonCote" 195) "java/lang/String" ∈ flatC (Jvm.Cond.and given_1 narrow_1) := by decide +kernel
set_option maxRecDepth 100000 in
theorem gvs_197 : Cond.exactly (.string "CanonCote" 197) "java/lang/String" ∈ flatC (Jvm.Cond.and given_1 narrow_1) := by decide +kernel
set_option maxRecDepth 100000 in
theorem gvs_204 : Cond.exactly (.string "CanonCote" 204) "java/lang/String" ∈ flatC (Jvm.Cond.and given_1 narrow_1) := by decide +kernel
theorem EF_start {args : Array Value} {s : State} (hts : ∀ w ∈ lw_tbl, w.before args s = true) (hgv : (Jvm.Cond.and given_1 narrow_1).before args s = true) {A : Nat → Prop} (hA : ∀ a : Nat, a < s.heap.size → ¬ A a) : EF A s s.heap := by
  have hs := flat_of_before _ hgv
  refine ⟨fun w hw => va_Nw.of (lin_nw w hw).2 (hts w (lin_nw w hw).1), ?_, vx_Zqof (hts _ ev_2) (hts _ ev_4) (hs _ gv_10) hA, vx_Zqof (hts _ ev_3) (hts _ ev_4) (hs _ gv_11) hA, ?_, ?_⟩
  · obtain ⟨t, h1, h2⟩ := va_Tof (tm := (.static "CanonCote$Arranging" "LOWEST_EDGE_BIT" "[I")) (ty := .int) (N := 8) (f := fun j => .int (zTb j)) (by decide) (hs _ gv_0) (va_eqt (hs _ gv_1)) (fun j hj => by
      rcases (show j = 0 ∨ j = 1 ∨ j = 2 ∨ j = 3 ∨ j = 4 ∨ j = 5 ∨ j = 6 ∨ j = 7 by omega) with rfl | rfl | rfl | rfl | rfl | rfl | rfl | rfl
      · exact va_eqt (hs _ gv_2)
      · exact va_eqt (hs _ gv_3)
      · exact va_eqt (hs _ gv_4)
      · exact va_eqt (hs _ gv_5)
      · exact va_eqt (hs _ gv_6)
      · exact va_eqt (hs _ gv_7)
      · exact va_eqt (hs _ gv_8)
      · exact va_eqt (hs _ gv_9)) hA
    exact ⟨t, va_Zof (hts _ ev_1) (hts _ ev_0) h1 hA, h2⟩
  · intro q hq
    simp only [zSTR, List.mem_cons, List.not_mem_nil, or_false] at hq
    rcases hq with rfl | rfl | rfl | rfl | rfl | rfl | rfl | rfl | rfl
    · obtain ⟨a, _, _, _, h1, -⟩ := Cond.exactly_spec (hs _ gvs_54)
      exact ⟨a, vk_R.of (hts _ evs_54) h1⟩
    · obtain ⟨a, _, _, _, h1, -⟩ := Cond.exactly_spec (hs _ gvs_71)
      exact ⟨a, vk_R.of (hts _ evs_71) h1⟩
    · obtain ⟨a, _, _, _, h1, -⟩ := Cond.exactly_spec (hs _ gvs_81)
      exact ⟨a, vk_R.of (hts _ evs_81) h1⟩
    · obtain ⟨a, _, _, _, h1, -⟩ := Cond.exactly_spec (hs _ gvs_161)
      exact ⟨a, vk_R.of (hts _ evs_161) h1⟩
    · obtain ⟨a, _, _, _, h1, -⟩ := Cond.exactly_spec (hs _ gvs_184)
      exact ⟨a, vk_R.of (hts _ evs_184) h1⟩
    · obtain ⟨a, _, _, _, h1, -⟩ := Cond.exactly_spec (hs _ gvs_190)
      exact ⟨a, vk_R.of (hts _ evs_190) h1⟩
    · obtain ⟨a, _, _, _, h1, -⟩ := Cond.exactly_spec (hs _ gvs_195)
      exact ⟨a, vk_R.of (hts _ evs_195) h1⟩
    · obtain ⟨a, _, _, _, h1, -⟩ := Cond.exactly_spec (hs _ gvs_197)
      exact ⟨a, vk_R.of (hts _ evs_197) h1⟩
    · obtain ⟨a, _, _, _, h1, -⟩ := Cond.exactly_spec (hs _ gvs_204)
      exact ⟨a, vk_R.of (hts _ evs_204) h1⟩
  · intro q hq
    simp only [zNC, List.mem_cons, List.not_mem_nil, or_false] at hq
    rcases hq with rfl | rfl
    · exact va_Nc.of (hs _ gv_12)
    · exact va_Nc.of (hs _ gv_13)
def cells_All (cid : Nat → ClassId) (ad : Nat → Nat) (σ : zST) : List va_E := [.inr (6, [.ref (ad 1), .ref (ad 14), .ref (ad 17), .ref (ad 21), .ref (ad 26), .ref (ad 36)]),
  .inl (cid 3, 4, .inr (.inr (.inr (.inr (fun k => some (ad (2 + 3 * k))))))),
  .inr (2, [.int (gI σ 2 0), .ref (ad 3), .ref (ad 4)]),
  .inl (cid 0, 8, .inl (σ.1 3)),
  .inl (cid 0, 8, .inl (σ.1 4)),
  .inr (2, [.int (gI σ 5 0), .ref (ad 6), .ref (ad 7)]),
  .inl (cid 0, 8, .inl (σ.1 6)),
  .inl (cid 0, 8, .inl (σ.1 7)),
  .inr (2, [.int (gI σ 8 0), .ref (ad 9), .ref (ad 10)]),
  .inl (cid 0, 8, .inl (σ.1 9)),
  .inl (cid 0, 8, .inl (σ.1 10)),
  .inr (2, [.int (gI σ 11 0), .ref (ad 12), .ref (ad 13)]),
  .inl (cid 0, 8, .inl (σ.1 12)),
  .inl (cid 0, 8, .inl (σ.1 13)),
  .inr (2, [.int (gI σ 14 0), .ref (ad 15), .ref (ad 16)]),
  .inl (cid 0, 8, .inl (σ.1 15)),
  .inl (cid 0, 8, .inl (σ.1 16)),
  .inr (5, [.int (gI σ 17 0), .int (gI σ 17 1), .ref (ad 18), .ref (ad 19), .ref (ad 20)]),
  .inl (cid 0, 8, .inl (σ.1 18)),
  .inl (cid 0, 8, .inl (σ.1 19)),
  .inl (cid 1, 8, .inr (.inl (σ.2 20))),
  .inr (0, [.int (gI σ 21 0), .int (gI σ 21 1), .int (gI σ 21 2), .ref (ad 22), .ref (ad 23), .ref (ad 24), .ref (ad 25)]),
  .inl (cid 0, 8, .inl (σ.1 22)),
  .inl (cid 0, 64, .inl (σ.1 23)),
  .inl (cid 0, 8, .inl (σ.1 24)),
  .inl (cid 0, 8, .inl (σ.1 25)),
  .inr (4, [.ref (ad 27), .ref (ad 28), .ref (ad 32)]),
  .inl (cid 0, 8, .inl (σ.1 27)),
  .inr (5, [.int (gI σ 28 0), .int (gI σ 28 1), .ref (ad 29), .ref (ad 30), .ref (ad 31)]),
  .inl (cid 0, 8, .inl (σ.1 29)),
  .inl (cid 0, 8, .inl (σ.1 30)),
  .inl (cid 1, 8, .inr (.inl (σ.2 31))),
  .inr (5, [.int (gI σ 32 0), .int (gI σ 32 1), .ref (ad 33), .ref (ad 34), .ref (ad 35)]),
  .inl (cid 0, 8, .inl (σ.1 33)),
  .inl (cid 0, 8, .inl (σ.1 34)),
  .inl (cid 1, 8, .inr (.inl (σ.2 35))),
  .inr (3, [.int (gI σ 36 0), .ref (ad 37), .ref (ad 38), .ref (ad 42)]),
  .inl (cid 1, 6, .inr (.inl (σ.2 37))),
  .inr (1, [.int (gI σ 38 0), .int (gI σ 38 1), .int (gI σ 38 2), .ref (ad 39), .ref (ad 40), .ref (ad 41)]),
  .inl (cid 0, 8, .inl (σ.1 39)),
  .inl (cid 1, 28, .inr (.inl (σ.2 40))),
  .inl (cid 1, 64, .inr (.inl (σ.2 41))),
  .inr (1, [.int (gI σ 42 0), .int (gI σ 42 1), .int (gI σ 42 2), .ref (ad 43), .ref (ad 44), .ref (ad 45)]),
  .inl (cid 0, 8, .inl (σ.1 43)),
  .inl (cid 1, 28, .inr (.inl (σ.2 44))),
  .inl (cid 1, 64, .inr (.inl (σ.2 45))),
  .inl (cid 1, 4, .inr (.inl (σ.2 46))),
  .inl (cid 1, 64, .inr (.inl (σ.2 47))),
  .inl (cid 0, 8, .inl (σ.1 48))]
def zAll (D : va_G) (cid : Nat → ClassId) (ad : Nat → Nat) : zE := (fun p σ => (cells_All cid ad σ).getD p (.inr (0, [])), ad, 49, D, cid)
set_option maxHeartbeats 4000000 in
theorem zAll_L (D : va_G) (cid : Nat → ClassId) (ad : Nat → Nat) : eL (zAll D cid ad) := by
  intro p σ τ h1 h2
  by_cases hp : p < 49
  · rcases (show p = 0 ∨ p = 1 ∨ p = 2 ∨ p = 3 ∨ p = 4 ∨ p = 5 ∨ p = 6 ∨ p = 7 ∨ p = 8 ∨ p = 9 ∨ p = 10 ∨ p = 11 ∨ p = 12 ∨ p = 13 ∨ p = 14 ∨ p = 15 ∨ p = 16 ∨ p = 17 ∨ p = 18 ∨ p = 19 ∨ p = 20 ∨ p = 21 ∨ p = 22 ∨ p = 23 ∨ p = 24 ∨ p = 25 ∨ p = 26 ∨ p = 27 ∨ p = 28 ∨ p = 29 ∨ p = 30 ∨ p = 31 ∨ p = 32 ∨ p = 33 ∨ p = 34 ∨ p = 35 ∨ p = 36 ∨ p = 37 ∨ p = 38 ∨ p = 39 ∨ p = 40 ∨ p = 41 ∨ p = 42 ∨ p = 43 ∨ p = 44 ∨ p = 45 ∨ p = 46 ∨ p = 47 ∨ p = 48 by omega) with rfl | rfl | rfl | rfl | rfl | rfl | rfl | rfl | rfl | rfl | rfl | rfl | rfl | rfl | rfl | rfl | rfl | rfl | rfl | rfl | rfl | rfl | rfl | rfl | rfl | rfl | rfl | rfl | rfl | rfl | rfl | rfl | rfl | rfl | rfl | rfl | rfl | rfl | rfl | rfl | rfl | rfl | rfl | rfl | rfl | rfl | rfl | rfl | rfl <;> simp only [eS, zAll, cells_All, List.getD_cons_succ, List.getD_cons_zero, gI, h1, h2]
  · have e : ∀ ρ : zST, (cells_All cid ad ρ)[p]? = none := fun ρ => List.getElem?_eq_none_iff.mpr (by show 49 ≤ p; omega)
    simp only [eS, zAll, List.getD_eq_getElem?_getD, e]
set_option maxHeartbeats 4000000 in
theorem zAll_atCanonCote (D : va_G) (cid : Nat → ClassId) (ad : Nat → Nat) : atCanonCote (zAll D cid ad) 0 := ⟨⟨Nat.le_of_ble_eq_true rfl, fun _ => rfl⟩, ⟨Nat.le_of_ble_eq_true rfl, _, fun _ => rfl, fun _ _ => rfl⟩, ⟨⟨Nat.le_of_ble_eq_true rfl, fun _ => rfl⟩, ⟨Nat.le_of_ble_eq_true rfl, fun _ => rfl⟩, ⟨Nat.le_of_ble_eq_true rfl, fun _ => rfl⟩⟩, ⟨⟨Nat.le_of_ble_eq_true rfl, fun _ => rfl⟩, ⟨Nat.le_of_ble_eq_true rfl, fun _ => rfl⟩, ⟨Nat.le_of_ble_eq_true rfl, fun _ => rfl⟩, ⟨Nat.le_of_ble_eq_true rfl, fun _ => rfl⟩⟩, ⟨⟨Nat.le_of_ble_eq_true rfl, fun _ => rfl⟩, ⟨Nat.le_of_ble_eq_true rfl, fun _ => rfl⟩, ⟨Nat.le_of_ble_eq_true rfl, fun _ => rfl⟩, ⟨Nat.le_of_ble_eq_true rfl, fun _ => rfl⟩, ⟨Nat.le_of_ble_eq_true rfl, fun _ => rfl⟩⟩, ⟨⟨Nat.le_of_ble_eq_true rfl, fun _ => rfl⟩, ⟨Nat.le_of_ble_eq_true rfl, fun _ => rfl⟩, ⟨⟨Nat.le_of_ble_eq_true rfl, fun _ => rfl⟩, ⟨Nat.le_of_ble_eq_true rfl, fun _ => rfl⟩, ⟨Nat.le_of_ble_eq_true rfl, fun _ => rfl⟩, ⟨Nat.le_of_ble_eq_true rfl, fun _ => rfl⟩⟩, ⟨⟨Nat.le_of_ble_eq_true rfl, fun _ => rfl⟩, ⟨Nat.le_of_ble_eq_true rfl, fun _ => rfl⟩, ⟨Nat.le_of_ble_eq_true rfl, fun _ => rfl⟩, ⟨Nat.le_of_ble_eq_true rfl, fun _ => rfl⟩⟩⟩, ⟨⟨Nat.le_of_ble_eq_true rfl, fun _ => rfl⟩, ⟨Nat.le_of_ble_eq_true rfl, fun _ => rfl⟩, ⟨⟨Nat.le_of_ble_eq_true rfl, fun _ => rfl⟩, ⟨Nat.le_of_ble_eq_true rfl, fun _ => rfl⟩, ⟨Nat.le_of_ble_eq_true rfl, fun _ => rfl⟩, ⟨Nat.le_of_ble_eq_true rfl, fun _ => rfl⟩⟩, ⟨⟨Nat.le_of_ble_eq_true rfl, fun _ => rfl⟩, ⟨Nat.le_of_ble_eq_true rfl, fun _ => rfl⟩, ⟨Nat.le_of_ble_eq_true rfl, fun _ => rfl⟩, ⟨Nat.le_of_ble_eq_true rfl, fun _ => rfl⟩⟩⟩, (fun k hk => by rcases (show k = 0 ∨ k = 1 ∨ k = 2 ∨ k = 3 by omega) with rfl | rfl | rfl | rfl <;> exact ⟨⟨Nat.le_of_ble_eq_true rfl, fun _ => rfl⟩, ⟨Nat.le_of_ble_eq_true rfl, fun _ => rfl⟩, ⟨Nat.le_of_ble_eq_true rfl, fun _ => rfl⟩⟩)⟩
theorem zAll_atG (D : va_G) (cid : Nat → ClassId) (ad : Nat → Nat) : aJ (zAll D cid ad) 46 4 := ⟨Nat.le_of_ble_eq_true rfl, fun _ => rfl⟩
theorem zAll_atP (D : va_G) (cid : Nat → ClassId) (ad : Nat → Nat) : aJ (zAll D cid ad) 47 64 := ⟨Nat.le_of_ble_eq_true rfl, fun _ => rfl⟩
theorem zAll_atGen (D : va_G) (cid : Nat → ClassId) (ad : Nat → Nat) : aI (zAll D cid ad) 48 8 := ⟨Nat.le_of_ble_eq_true rfl, fun _ => rfl⟩
def s1 (g : zST) : zST := (fun p => if p = 2 ∨ p = 5 ∨ p = 8 ∨ p = 11 ∨ p = 14 then (fun j => if j = 0 then 4 else 0) else if 36 ≤ p ∧ p < 46 then g.1 (p - 36) else fun _ => 0, fun p => if 36 ≤ p ∧ p < 46 then g.2 (p - 36) else fun _ => 0)
end
