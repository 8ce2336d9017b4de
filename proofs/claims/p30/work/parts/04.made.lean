/-! CONSTRUCTORS: worlds that grow; the judgement V on (pc, locals, stack, list of cells) -/
section ZV0
def kO1 (E : zE) (h0 sz : Nat) : Nat → Prop := fun q => q = h0 ∨ sz ≤ q
def V (K : zK) (cs ss pc : Nat) (lv : List (Nat × Value)) (st : List Value) (ws : va_W) : Prop :=
  ∀ (H : Heap) (locs : List Loc) (ls : Array Slot), va_P (eD (kZ K)) vwCl ws H → va_D (kO K) ws → va_S (kO K) (kS K).heap H locs → lv_has ls (kC K).maxLocals lv → kW K H locs cs ss (F0 (kM K) pc ls st)
end ZV0
section ZV1
variable {K : zK} {own : String} {cc : ByteArray} {nL : Nat} {Ts : List Cond} {ret : Option FieldType} {rm : Room} {cs ss pc : Nat} {lv lv' : List (Nat × Value)} {st : List Value} {ws ws' : va_W}
theorem V_iconst (hk : zIs K own cc nL Ts ret rm) {n : Int} {v : Int32} (d : decode cc pc = .ok (.iconst n, 1)) (hv : Int32.ofInt n = v) (kk : V K cs ss (pc + 1) lv (.int v :: st) ws) : V K cs ss pc lv st ws := fun H locs ls hP hD hS hl => lv_iconst hk.exec hk.code d hv (kk H locs ls hP hD hS hl)
theorem V_bipush (hk : zIs K own cc nL Ts ret rm) {n : Int} {v : Int32} (d : decode cc pc = .ok (.bipush n, 2)) (hv : (Int8.ofInt n).toInt32 = v) (kk : V K cs ss (pc + 2) lv (.int v :: st) ws) : V K cs ss pc lv st ws := fun H locs ls hP hD hS hl => lv_bipush hk.exec hk.code d hv (kk H locs ls hP hD hS hl)
theorem V_sipush (hk : zIs K own cc nL Ts ret rm) {n : Int} {v : Int32} (d : decode cc pc = .ok (.sipush n, 3)) (hv : (Int16.ofInt n).toInt32 = v) (kk : V K cs ss (pc + 3) lv (.int v :: st) ws) : V K cs ss pc lv st ws := fun H locs ls hP hD hS hl => lv_sipush hk.exec hk.code d hv (kk H locs ls hP hD hS hl)
theorem V_ldc (hk : zIs K own cc nL Ts ret rm) {ix : Nat} {v : Int32} (d : decode cc pc = .ok (.ldc ix, 2)) (hw : Cond.constant own ix v ∈ Ts) (kk : V K cs ss (pc + 2) lv (.int v :: st) ws) : V K cs ss pc lv st ws := fun H locs ls hP hD hS hl => lv_ldc hk.exec hk.code hk.ow (hk.wd _ hw) d (kk H locs ls hP hD hS hl)
theorem V_iload_n (hk : zIs K own cc nL Ts ret rm) (j : Nat) {k : Fin 4} {i : Nat} {x : Int32} (d : decode cc pc = .ok (.iload_n k, 1)) (hi : (k : Nat) = i) (hj : lv[j]? = some (i, .int x)) (kk : V K cs ss (pc + 1) lv (.int x :: st) ws) : V K cs ss pc lv st ws := fun H locs ls hP hD hS hl => lv_iload_n hk.exec hk.code d hi (lv_at hl j hj) (kk H locs ls hP hD hS hl)
theorem V_iload (hk : zIs K own cc nL Ts ret rm) (j : Nat) {i : Nat} {x : Int32} (d : decode cc pc = .ok (.iload i, 2)) (hj : lv[j]? = some (i, .int x)) (kk : V K cs ss (pc + 2) lv (.int x :: st) ws) : V K cs ss pc lv st ws := fun H locs ls hP hD hS hl => lv_iload hk.exec hk.code d (lv_at hl j hj) (kk H locs ls hP hD hS hl)
theorem V_aload_n (hk : zIs K own cc nL Ts ret rm) (j : Nat) {k : Fin 4} {i : Nat} {x : Nat} (d : decode cc pc = .ok (.aload_n k, 1)) (hi : (k : Nat) = i) (hj : lv[j]? = some (i, .ref x)) (kk : V K cs ss (pc + 1) lv (.ref x :: st) ws) : V K cs ss pc lv st ws := fun H locs ls hP hD hS hl => lv_aload_n hk.exec hk.code d hi (lv_at hl j hj) (kk H locs ls hP hD hS hl)
theorem V_aload (hk : zIs K own cc nL Ts ret rm) (j : Nat) {i : Nat} {x : Nat} (d : decode cc pc = .ok (.aload i, 2)) (hj : lv[j]? = some (i, .ref x)) (kk : V K cs ss (pc + 2) lv (.ref x :: st) ws) : V K cs ss pc lv st ws := fun H locs ls hP hD hS hl => lv_aload hk.exec hk.code d (lv_at hl j hj) (kk H locs ls hP hD hS hl)
theorem V_istore_n (hk : zIs K own cc nL Ts ret rm) {k : Fin 4} {i : Nat} {x : Int32} (d : decode cc pc = .ok (.istore_n k, 1)) (hi : (k : Nat) = i) (hn : i < nL) (hv : (i, Value.int x) :: lv.filter (fun q => !(q.1 == i) && !(q.1 + 1 == i && q.2.category == 2)) = lv') (kk : V K cs ss (pc + 1) lv' st ws) : V K cs ss pc lv (.int x :: st) ws := fun H locs ls hP hD hS hl => lv_istore_n hk.exec hk.code d hi hl (by rw [hk.maxl]; exact hn) hv (fun ls' h => kk H locs ls' hP hD hS h)
theorem V_istore (hk : zIs K own cc nL Ts ret rm) {i : Nat} {x : Int32} (d : decode cc pc = .ok (.istore i, 2)) (hn : i < nL) (hv : (i, Value.int x) :: lv.filter (fun q => !(q.1 == i) && !(q.1 + 1 == i && q.2.category == 2)) = lv') (kk : V K cs ss (pc + 2) lv' st ws) : V K cs ss pc lv (.int x :: st) ws := fun H locs ls hP hD hS hl => lv_istore hk.exec hk.code d hl (by rw [hk.maxl]; exact hn) hv (fun ls' h => kk H locs ls' hP hD hS h)
theorem V_astore_n (hk : zIs K own cc nL Ts ret rm) {k : Fin 4} {i : Nat} {x : Nat} (d : decode cc pc = .ok (.astore_n k, 1)) (hi : (k : Nat) = i) (hn : i < nL) (hv : (i, Value.ref x) :: lv.filter (fun q => !(q.1 == i) && !(q.1 + 1 == i && q.2.category == 2)) = lv') (kk : V K cs ss (pc + 1) lv' st ws) : V K cs ss pc lv (.ref x :: st) ws := fun H locs ls hP hD hS hl => lv_astore_n hk.exec hk.code d hi hl (by rw [hk.maxl]; exact hn) hv (fun ls' h => kk H locs ls' hP hD hS h)
theorem V_astore (hk : zIs K own cc nL Ts ret rm) {i : Nat} {x : Nat} (d : decode cc pc = .ok (.astore i, 2)) (hn : i < nL) (hv : (i, Value.ref x) :: lv.filter (fun q => !(q.1 == i) && !(q.1 + 1 == i && q.2.category == 2)) = lv') (kk : V K cs ss (pc + 2) lv' st ws) : V K cs ss pc lv (.ref x :: st) ws := fun H locs ls hP hD hS hl => lv_astore hk.exec hk.code d hl (by rw [hk.maxl]; exact hn) hv (fun ls' h => kk H locs ls' hP hD hS h)
theorem V_iinc (hk : zIs K own cc nL Ts ret rm) (j : Nat) {i : Nat} {n : Int} {x v : Int32} (d : decode cc pc = .ok (.iinc i n, 3)) (hj : lv[j]? = some (i, .int x)) (hx : x + Int32.ofInt n = v) (hn : i < nL) (hv : (i, Value.int v) :: lv.filter (fun q => !(q.1 == i) && !(q.1 + 1 == i && q.2.category == 2)) = lv') (kk : V K cs ss (pc + 3) lv' st ws) : V K cs ss pc lv st ws := fun H locs ls hP hD hS hl => lv_iinc hk.exec hk.code d hl hj hx (by rw [hk.maxl]; exact hn) hv (fun ls' h => kk H locs ls' hP hD hS h)
theorem V_dup (hk : zIs K own cc nL Ts ret rm) {v : Value} (d : decode cc pc = .ok (.dup, 1)) (hc : v.category = 1) (kk : V K cs ss (pc + 1) lv (v :: v :: st) ws) : V K cs ss pc lv (v :: st) ws := fun H locs ls hP hD hS hl => lv_dup hk.exec hk.code d hc (kk H locs ls hP hD hS hl)
theorem V_goto (hk : zIs K own cc nL Ts ret rm) {off : Int} {tgt : Nat} (d : decode cc pc = .ok (.goto off, 3)) (ht : (pc : Int) + off = (tgt : Int)) (kk : V K cs ss tgt lv st ws) : V K cs ss pc lv st ws := fun H locs ls hP hD hS hl => lv_goto hk.exec hk.code d ht (kk H locs ls hP hD hS hl)
theorem V_icmp_ge (hk : zIs K own cc nL Ts ret rm) {x y : Int32} {off : Int} {tgt : Nat} (d : decode cc pc = .ok (.if_icmp .ge off, 3)) (ht : (pc : Int) + off = (tgt : Int)) (kt : y ≤ x → V K cs ss tgt lv st ws) (kf : ¬ y ≤ x → V K cs ss (pc + 3) lv st ws) : V K cs ss pc lv (.int y :: .int x :: st) ws := fun H locs ls hP hD hS hl => lv_icmp_ge hk.exec hk.code d ht (fun h => kt h H locs ls hP hD hS hl) (fun h => kf h H locs ls hP hD hS hl)
theorem V_widen {cs' ss' : Nat} (h1 : cs ≤ cs') (h2 : ss ≤ ss') (kk : V K cs' ss' pc lv st ws) : V K cs ss pc lv st ws := fun H locs ls hP hD hS hl => W.widen h1 h2 (kk H locs ls hP hD hS hl)
theorem kO_new (K : zK) : ∀ q, (kS K).heap.size ≤ q → kO K q := fun q h => Or.inr h
theorem V_obj (hk : zIs K own cc nL Ts ret rm) {ix a : Nat} (hw : Cond.methodLink own ix objectInit ∈ Ts ∧ Cond.instanceMethod objectInit ∈ Ts ∧ Cond.code objectInit ⟨#[0xb1]⟩ 1 none ∈ Ts) (hR : 1 ≤ rm.frames ∧ 12 ≤ rm.locals) (d : decode cc pc = .ok (.invokespecial ix, 3)) (kk : V K cs ss (pc + 3) lv [] ws) : V K cs ss pc lv [.ref a] ws :=
  fun H locs ls hP hD hS hl => W.objInit hk.exec hk.code hk.ow (hk.wd _ hw.1) (hk.wd _ hw.2.1) (hk.wd _ hw.2.2) rfl hl.1 rfl d (by rw [hk.room]; exact hR.1) (by rw [hk.room]; exact hR.2) (kk H locs ls hP hD hS hl)
/-- two names of one array class -/
theorem eC_same {D : va_G} {tys : List (ClassId × FieldType)} {U : State} (hK : va_K D vwCl tys U) {i j : Nat} {a b : ClassId} {ty : FieldType} (h1 : tys[i]? = some (a, ty)) (h2 : tys[j]? = some (b, ty)) : a = b := by
  have q1 := (hK.2 i _ h1).2
  have q2 := (hK.2 j _ h2).2
  cases ty with
  | object C =>
    obtain ⟨_, _, _, _, _, e1⟩ := q1
    obtain ⟨_, _, _, _, _, e2⟩ := q2
    exact Option.some.inj (e1.symm.trans e2)
  | _ => exact Option.some.inj (Eq.trans (Eq.symm q1) q2)
theorem V_newI (hk : zIs K own cc nL Ts ret rm) {n : Int32} {N : Nat} (hw : Cond.arrayClass .int ∈ Ts) (hn : ¬ n < 0) (hN : n.toNatClampNeg = N) (hb : N ≤ 100000) (hR : cs + 1 ≤ rm.cells ∧ ss + N ≤ rm.slots) (d : decode cc pc = .ok (.newarray .int, 2)) (kk : ∀ q : Nat, V K (cs + 1) (ss + N) (pc + 2) lv (.ref q :: st) (ws ++ [(q, .inl (eC (kZ K) 0, N, .inl (fun _ => 0)))])) : V K cs ss pc lv (.int n :: st) ws :=
  fun H locs ls hP hD hS hl => va_newa (atype := .int) (a0 := (N, .inl (fun _ => 0))) hk.exec hk.code (hk.wd _ hw) rfl hk.cls hP hD hS (kO_new K) (fun cA => rfl) hn hN (by show N * 4 ≤ _; omega) (by rw [hk.room]; exact hR.1) (by rw [hk.room]; exact hR.2) d (fun q cA H1 hK1 hP1 hD1 hS1 => by
    have e := eC_same hK1 (i := 4) (j := 0) rfl rfl
    subst e
    exact kk q H1 locs ls hP1 hD1 hS1 hl)
theorem V_newJ (hk : zIs K own cc nL Ts ret rm) {n : Int32} {N : Nat} (hw : Cond.arrayClass .long ∈ Ts) (hn : ¬ n < 0) (hN : n.toNatClampNeg = N) (hb : N ≤ 100000) (hR : cs + 1 ≤ rm.cells ∧ ss + N ≤ rm.slots) (d : decode cc pc = .ok (.newarray .long, 2)) (kk : ∀ q : Nat, V K (cs + 1) (ss + N) (pc + 2) lv (.ref q :: st) (ws ++ [(q, .inl (eC (kZ K) 1, N, .inr (.inl (fun _ => 0))))])) : V K cs ss pc lv (.int n :: st) ws :=
  fun H locs ls hP hD hS hl => va_newa (atype := .long) (a0 := (N, .inr (.inl (fun _ => 0)))) hk.exec hk.code (hk.wd _ hw) rfl hk.cls hP hD hS (kO_new K) (fun cA => rfl) hn hN (by show N * 8 ≤ _; omega) (by rw [hk.room]; exact hR.1) (by rw [hk.room]; exact hR.2) d (fun q cA H1 hK1 hP1 hD1 hS1 => by
    have e := eC_same hK1 (i := 4) (j := 1) rfl rfl
    subst e
    exact kk q H1 locs ls hP1 hD1 hS1 hl)
theorem V_newG (hk : zIs K own cc nL Ts ret rm) {ix : Nat} {n : Int32} {N : Nat} (hw : Cond.classLink own ix "CanonCote$Graph" ∈ Ts) (hao : va_AO "CanonCote$Graph" (kS K)) (hn : ¬ n < 0) (hN : n.toNatClampNeg = N) (hb : N ≤ 100000) (hR : cs + 1 ≤ rm.cells ∧ ss + N ≤ rm.slots) (d : decode cc pc = .ok (.anewarray ix, 3)) (kk : ∀ q : Nat, V K (cs + 1) (ss + N) (pc + 3) lv (.ref q :: st) (ws ++ [(q, .inl (eC (kZ K) 3, N, .inr (.inr (.inr (.inr (fun _ => none))))))])) : V K cs ss pc lv (.int n :: st) ws :=
  fun H locs ls hP hD hS hl => va_newq hk.exec hk.code hk.ow (hk.wd _ hw) hao hk.cls hP hD hS (kO_new K) hn hN (by omega) (by rw [hk.room]; exact hR.1) (by rw [hk.room]; exact hR.2) d (fun q cA H1 hK1 hP1 hD1 hS1 => by
    have e := eC_same hK1 (i := 4) (j := 3) rfl rfl
    subst e
    exact kk q H1 locs ls hP1 hD1 hS1 hl)
theorem V_new (hk : zIs K own cc nL Ts ret rm) {C : String} {T : u_T} {N ci ix : Nat} {fs : List Value} (ty : Nat → FieldType) (hty : ∀ k, k < N → parseFieldDescriptor (T k).2.2.1 = some (ty k)) (hin : ∀ w ∈ u_ws C T N, w ∈ Ts) (hw : Cond.classLink own ix C ∈ Ts ∧ Cond.instantiable C N ∈ Ts ∧ Cond.initialized C ∈ Ts) (hc : vwCl[ci]? = some (C, T, N)) (hfs : ∀ j, j < N → defaultValue (ty j) = vp_V fs j) (hR : cs + 1 ≤ rm.cells ∧ ss + N ≤ rm.slots) (d : decode cc pc = .ok (.new ix, 3)) (kk : ∀ q : Nat, V K (cs + 1) (ss + N) (pc + 3) lv (.ref q :: st) (ws ++ [(q, .inr (ci, fs))])) : V K cs ss pc lv st ws :=
  fun H locs ls hP hD hS hl => va_new hk.exec hk.code hk.wd hin ty hty hk.ow (hk.wd _ hw.1) (hk.wd _ hw.2.1) (hk.wd _ hw.2.2) hk.cls hP hD hS (kO_new K) hc hfs (by rw [hk.room]; exact hR.1) (by rw [hk.room]; exact hR.2) d (fun q H1 hP1 hD1 hS1 => kk q H1 locs ls hP1 hD1 hS1 hl)
theorem V_put (hk : zIs K own cc nL Ts ret rm) {C : String} {T : u_T} {N ci ix a : Nat} {fs : List Value} {v : Value} {ty : FieldType} (hin : ∀ w ∈ u_ws C T N, w ∈ Ts) (ty0 : Nat → FieldType) (hty : ∀ k, k < N → parseFieldDescriptor (T k).2.2.1 = some (ty0 k)) (hnm : ∀ a, a < N → ∀ b, b < N → a ≠ b → (T a).2.1 ≠ (T b).2.1) (hc : vwCl[ci]? = some (C, T, N)) (q0 : Nat) (he : ws[q0]? = some (a, .inr (ci, fs))) (k : Nat) (hkN : k < N) (hw : Cond.fieldLink own ix (T k).1 (T k).2.1 (T k).2.2.1 ∈ Ts) (hfin : (T k).2.2.2 = false) (hd : parseFieldDescriptor (T k).2.2.1 = some ty) (hnar : narrow ty v = v) (hfit : fits ty v = true) (hl : k < fs.length) (hws : ws.set q0 (a, .inr (ci, fs.set k v)) = ws') (d : decode cc pc = .ok (.putfield ix, 3)) (kk : V K cs ss (pc + 3) lv st ws') : V K cs ss pc lv (v :: .ref a :: st) ws :=
  fun H locs ls hP hD hS hls => va_put hk.exec hk.code hk.wd hin ty0 hty hnm hk.ow hk.cls hP hD hS q0 he hc k hkN (hk.wd _ hw) (fun _ h => h) hfin hd hnar hfit hl d (fun H1 locs1 hP1 hD1 hS1 => kk H1 locs1 ls (hws ▸ hP1) (hws ▸ hD1) hS1 hls)
theorem V_putF (hk : zIs K own cc nL Ts ret rm) {C : String} {T : u_T} {N ci ix a : Nat} {fs : List Value} {v : Value} {ty : FieldType} (hinit : (kH K).name = "<init>") (hin : ∀ w ∈ u_ws C T N, w ∈ Ts) (ty0 : Nat → FieldType) (hty : ∀ k, k < N → parseFieldDescriptor (T k).2.2.1 = some (ty0 k)) (hnm : ∀ a, a < N → ∀ b, b < N → a ≠ b → (T a).2.1 ≠ (T b).2.1) (hc : vwCl[ci]? = some (C, T, N)) (q0 : Nat) (he : ws[q0]? = some (a, .inr (ci, fs))) (k : Nat) (hkN : k < N) (hw : Cond.fieldLink own ix (T k).1 (T k).2.1 (T k).2.2.1 ∈ Ts) (hfin : (T k).2.2.2 = true) (hdecl : (T k).1 = own) (hd : parseFieldDescriptor (T k).2.2.1 = some ty) (hnar : narrow ty v = v) (hfit : fits ty v = true) (hl : k < fs.length) (hws : ws.set q0 (a, .inr (ci, fs.set k v)) = ws') (d : decode cc pc = .ok (.putfield ix, 3)) (kk : V K cs ss (pc + 3) lv st ws') : V K cs ss pc lv (v :: .ref a :: st) ws :=
  fun H locs ls hP hD hS hls => va_putF hk.exec hk.code hk.wd hin ty0 hty hnm hk.ow hk.cls hP hD hS q0 he hc k hkN (hk.wd _ hw) (fun _ h => h) hfin hinit hdecl hd hnar hfit hl d (fun H1 locs1 hP1 hD1 hS1 => kk H1 locs1 ls (hws ▸ hP1) (hws ▸ hD1) hS1 hls)
theorem V_get (hk : zIs K own cc nL Ts ret rm) {C : String} {T : u_T} {N ci ix a : Nat} {fs : List Value} {v : Value} (hin : ∀ w ∈ u_ws C T N, w ∈ Ts) (hc : vwCl[ci]? = some (C, T, N)) (q0 : Nat) (he : ws[q0]? = some (a, .inr (ci, fs))) (k : Nat) (hkN : k < N) (hw : Cond.fieldLink own ix (T k).1 (T k).2.1 (T k).2.2.1 ∈ Ts) (hv : fs[k]? = some v) (d : decode cc pc = .ok (.getfield ix, 3)) (kk : V K cs ss (pc + 3) lv (v :: st) ws) : V K cs ss pc lv (.ref a :: st) ws :=
  fun H locs ls hP hD hS hl => va_get hk.exec hk.code hk.wd hin hk.ow hk.cls hP q0 he hc k hkN (hk.wd _ hw) (fun _ h => h) hv d (kk H locs ls hP hD hS hl)
theorem V_iast (hk : zIs K own cc nL Ts ret rm) {a n : Nat} {f : Nat → Int32} {i x : Int32} (q0 : Nat) (ha : ws[q0]? = some (a, .inl (eC (kZ K) 0, n, .inl f))) (hin : vp_in i n) {j : Nat} (hj : i.toNatClampNeg = j) (hws : ws.set q0 (a, .inl (eC (kZ K) 0, n, .inl (upd f j x))) = ws') (d : decode cc pc = .ok (.iastore, 1)) (kk : V K cs ss (pc + 1) lv st ws') : V K cs ss pc lv (.int x :: .int i :: .ref a :: st) ws :=
  fun H locs ls hP hD hS hl => va_iast hk.exec hk.code hk.cls hP hD hS q0 0 ha rfl hin d (fun H1 locs1 hP1 hD1 hS1 => by
    subst hj
    exact kk H1 locs1 ls (hws ▸ hP1) (hws ▸ hD1) hS1 hl)
theorem V_aast (hk : zIs K own cc nL Ts ret rm) {a n v ci : Nat} {r : vw_C} {vs : List Value} {f : Nat → Option Nat} {i : Int32} (q0 qk : Nat) (ha : ws[q0]? = some (a, .inl (eC (kZ K) 3, n, .inr (.inr (.inr (.inr f)))))) (hr : r.1 = "CanonCote$Graph") (hv : ws[qk]? = some (v, .inr (ci, vs))) (hc : vwCl[ci]? = some r) (hin : vp_in i n) {j : Nat} (hj : i.toNatClampNeg = j) (hws : ws.set q0 (a, .inl (eC (kZ K) 3, n, .inr (.inr (.inr (.inr (va_up f j (some v))))))) = ws') (d : decode cc pc = .ok (.aastore, 1)) (kk : V K cs ss (pc + 1) lv st ws') : V K cs ss pc lv (.ref v :: .int i :: .ref a :: st) ws :=
  fun H locs ls hP hD hS hl => va_astq (r := r) hk.exec hk.code hk.cls hP hD hS q0 3 qk ci ha (by rw [hr]; rfl) hv hc hin d (fun H1 locs1 hP1 hD1 hS1 => by
    subst hj
    exact kk H1 locs1 ls (hws ▸ hP1) (hws ▸ hD1) hS1 hl)
-- the contract of a constructor: from one blank cell to the object's cells
def kI (h0 sz : Nat) : Nat → Prop := fun q => q = h0 ∨ sz ≤ q
def CtI (l : Launch) (y : MethodName) (ws0 : List Cond) (rm : Room) (D : va_G) (cid : Nat → ClassId) (blank : va_E) (mk : (Nat → Nat) → va_W) : Prop :=
  ∀ (sz h0 : Nat), h0 < sz → Met l y ws0 rm (va_Pc [.ref h0] (fun U => U.heap.size = sz ∧ va_P D vwCl [(h0, blank)] U.heap ∧ va_K D vwCl [(cid 0, .int), (cid 1, .long), (cid 2, .int), (cid 3, .object "CanonCote$Graph")] U ∧ EF (kI h0 sz) U U.heap ∧ va_AO "CanonCote$Graph" U))
    (fun _ st oc t => oc = .returned none ∧ (∃ ad : Nat → Nat, ad 0 = h0 ∧ va_P D vwCl (mk ad) t.heap ∧ va_D (kI h0 sz) (mk ad)) ∧ va_F (kI h0 sz) st t) rm.cells rm.slots (kI h0 sz)
def kE1 (D : va_G) (cid : Nat → ClassId) (h0 : Nat) (blank : va_E) : zE := (fun _ _ => blank, fun _ => h0, 1, D, cid)
theorem kE1_O {D : va_G} {cid : Nat → ClassId} {h0 sz : Nat} {blank : va_E} : OA (kE1 D cid h0 blank) sz = kI h0 sz := by
  funext q
  simp only [OA, kI, kE1, eN, eA, eq_iff_iff]
  constructor
  · rintro (⟨p, _, h⟩ | h)
    · exact Or.inl h
    · exact Or.inr h
  · rintro (h | h)
    · exact Or.inl ⟨0, Nat.zero_lt_one, h⟩
    · exact Or.inr h
def zQI (K : zK) (mk : (Nat → Nat) → va_W) : Prop := kQ K = MQ (kB K) (fun _ st oc t => oc = .returned none ∧ (∃ ad : Nat → Nat, ad 0 = eA (kZ K) 0 ∧ va_P (eD (kZ K)) vwCl (mk ad) t.heap ∧ va_D (kO K) (mk ad)) ∧ va_F (kO K) st t) (kA K) (kS K) (kR K).cells (kR K).slots (kO K)
theorem CtI_of {l : Launch} {y : MethodName} {ws0 ws1 : List Cond} {rm : Room} {D : va_G} {cid : Nat → ClassId} {blank : va_E} {mk : (Nat → Nat) → va_W} {cc : ByteArray} {maxL : Nat} (hy : plainName y.cls = true) (hin : y.name = "<init>") (hw : ws0 = Cond.code y cc maxL none :: ws1) (hn : 1 ≤ maxL)
    (body : ∀ (K : zK) (h0 : Nat), kZ K = kE1 D cid h0 blank → kL K = l → zIs K y.cls cc maxL ws0 none rm → (kH K).name = "<init>" → va_AO "CanonCote$Graph" (kS K) → zQI K mk → V K 0 0 0 [(0, .ref h0)] [] [(h0, blank)]) : CtI l y ws0 rm D cid blank mk := by
  intro sz h0 h0s
  refine Met.ofW (cc := cc) (maxL := maxL) (ret := none) hy hw ?_
  intro p e s m args below meth c s₁ B hml hv
  obtain ⟨rfl, hsz, hP, hK, hE, hao⟩ := hv
  subst hsz
  have hl := lv_entry [.ref h0] (n := maxL) (by show 1 ≤ maxL; exact hn)
  rw [lg_entry_eq]
  generalize (lg_sl [.ref h0] ++ List.replicate (maxL - (lg_sl [.ref h0]).length) Slot.unset).toArray = ls at hl ⊢
  have hO : OA (kE1 D cid h0 blank) s.heap.size = kI h0 s.heap.size := kE1_O
  have hD0 : va_D (kI h0 s.heap.size) [(h0, blank)] := by
    refine ⟨fun i j x y hi hj _ => ?_, fun k q hq => ?_⟩
    · have h1 := (List.getElem?_eq_some_iff.mp hi).1
      have h2 := (List.getElem?_eq_some_iff.mp hj).1
      simp at h1 h2
      omega
    · have h1 := (List.getElem?_eq_some_iff.mp hq).1
      simp at h1
      subst h1
      cases hq
      exact Or.inl rfl
  rw [← hO] at hE hD0
  have hG : ∀ F : (Nat → Prop) → Prop, F (OA (kE1 D cid h0 blank) s.heap.size) → F (kI h0 s.heap.size) := fun F h => hO ▸ h
  refine hG (fun A => W p l e rm s m #[Value.ref h0] below meth c s.heap [] 0 0 (MQ below (fun _ st oc t => oc = .returned none ∧ (∃ ad : Nat → Nat, ad 0 = h0 ∧ va_P D vwCl (mk ad) t.heap ∧ va_D A (mk ad)) ∧ va_F A st t) #[Value.ref h0] s rm.cells rm.slots A) (F0 m 0 ls [])) ?_
  exact body ⟨p, l, e, rm, s, m, #[.ref h0], below, meth, c, MQ below (fun _ st oc t => oc = .returned none ∧ (∃ ad : Nat → Nat, ad 0 = h0 ∧ va_P D vwCl (mk ad) t.heap ∧ va_D (OA (kE1 D cid h0 blank) s.heap.size) (mk ad)) ∧ va_F (OA (kE1 D cid h0 blank) s.heap.size) st t) #[.ref h0] s rm.cells rm.slots (OA (kE1 D cid h0 blank) s.heap.size), kE1 D cid h0 blank⟩ h0 rfl rfl
    ⟨B.exec, B.bytes, hml, findClass_of_methodNamed B.named, atoms_spec (ws := ws0) B.pre, B.returns, rfl, B.notSynchronized, hK, fun _ _ _ _ _ => rfl, fun i j hi hj _ => by have h1 : i < 1 := hi; have h2 : j < 1 := hj; omega, hE⟩ ((name_of_methodNamed B.named B.method).1.trans hin) hao rfl s.heap [] ls hP hD0 va_S.rf (by show lv_has ls c.maxLocals _; rw [hml]; exact hl)
theorem V_ret (hk : zIs K own cc nL Ts none rm) {mk : (Nat → Nat) → va_W} (hq : zQI K mk) (ad : Nat → Nat) (h0 : ad 0 = eA (kZ K) 0) (hws : ws = mk ad) (hc : cs ≤ rm.cells ∧ ss ≤ rm.slots) (d : decode cc pc = .ok (.return_, 1)) : V K cs ss pc lv [] ws := by
  subst hws
  intro H locs ls hP hD hS hl
  unfold kW
  rw [hq]
  exact W.widen (by rw [hk.room]; exact hc.1) (by rw [hk.room]; exact hc.2) (W.vret hk.exec hk.code hk.rt (fun t ht hW => ⟨rfl, ⟨ad, h0, by rw [ht]; exact hP, hD⟩, hS.F ht⟩) hS.2.2 d hk.nolock)
theorem va_D.nd {A : Nat → Prop} {w : va_W} (h : va_D A w) {i j : Nat} {p q : Nat × va_E} (hi : w[i]? = some p) (hj : w[j]? = some q) (hij : i ≠ j) : p.1 ≠ q.1 := fun e => hij (h.1 i j p q hi hj e)
/-- a constructor called on a cell of the world, the last one -/
theorem V_callI (hk : zIs K own cc nL Ts ret rm) {y : MethodName} {wsc ws2 : List Cond} {rmc : Room} {bytes : ByteArray} {maxL ix q : Nat} {blank : va_E} {mk : (Nat → Nat) → va_W} (hc : CtI (kL K) y wsc rmc (eD (kZ K)) (eC (kZ K)) blank mk) (hao : va_AO "CanonCote$Graph" (kS K)) (hT : GoodIn Ts wsc) (hnw : Cond.methodLinkNest own ix y "CanonCote" ∈ zNW) (hw : wsc = Cond.code y bytes maxL none :: ws2) (hi : Cond.initialized y.cls ∈ Ts ∧ Cond.instanceMethod y ∈ Ts) (hd : y.cls ≠ "java/lang/invoke/MethodHandle" ∧ y.cls ≠ "java/lang/invoke/VarHandle" ∧ (parseMethodDescriptor y.desc).map (fun d => d.parameters.length) = some 0) (hin : y.name = "<init>") (hR : rmc.frames + 1 ≤ rm.frames ∧ 8 + (maxL + 11) + rmc.locals ≤ rm.locals)
    (hW : (st.map fun v => v.category).sum ≤ 8) (hcs : cs + rmc.cells ≤ rm.cells ∧ ss + rmc.slots ≤ rm.slots) (d : decode cc pc = .ok (.invokespecial ix, 3)) (kk : ∀ ad : Nat → Nat, ad 0 = q → V K (cs + rmc.cells) (ss + rmc.slots) (pc + 3) lv st (ws ++ mk ad)) : V K cs ss pc lv (.ref q :: st) (ws ++ [(q, blank)]) := by
  intro H locs ls hP hD hS hl
  have hlast : (ws ++ [(q, blank)])[ws.length]? = some (q, blank) := by simp
  have hqH : q < H.size := (hP _ _ hlast).lt
  have hqA : kO K q := hD.2 _ _ hlast
  have hsub : ∀ a, kI q H.size a → kO K a := by
    rintro a (rfl | h)
    · exact hqA
    · exact kO_new K a (Nat.le_trans hS.1 h)
  have hPq : va_P (eD (kZ K)) vwCl [(q, blank)] H := by
    intro k x hx
    have h1 := (List.getElem?_eq_some_iff.mp hx).1
    simp at h1
    subst h1
    cases hx
    exact hP _ _ hlast
  have hr : va_Run (kP K) (kL K) (kE K) (kR K) (kS K) (kM K) (kA K) (kB K) (kH K) (kC K) H locs cs ss rmc.cells rmc.slots (F0 (kM K) pc ls (.ref q :: st)) st _ _ := va_runIN (As := []) (rest := st) ⟨hk.exec, hk.code, hk.maxl, hk.ow, hk.wd⟩ (hc H.size q hqH) ⟨va_cnB (mc := rmc.cells) (ms := rmc.slots) 0 hk.wd hT hw rfl rfl (hk.nest hnw) (hk.wd _ hi.1) hd (by rw [hk.room]; exact hR), hin, hk.wd _ hi.2⟩
    ⟨fun a U g mk h => by obtain ⟨h1, h2, h3, h4, h5, h6⟩ := h; exact ⟨h1, h2, h3, va_K.moved (u := U) (U := U.calling g mk a) (Vm.Alike.refl U.vm) h4, EF.same (u := U) (U := U.calling g mk a) rfl h5, va_AO.moved (u := U) (U := U.calling g mk a) (Vm.Alike.refl U.vm) h6⟩,
     fun U hU hW => ⟨rfl, by rw [hU], by rw [hU]; exact hPq, va_K.moved hW.alike hk.cls, EF.step hk.env (fun a h1 h2 => hS.2.1 a h1 h2) hsub hU hW, va_AO.moved hW.alike hao⟩⟩ (g := F0 (kM K) pc ls (.ref q :: st)) rfl rfl (hl.1.trans hk.maxl) rfl (lv_room hW) d (by rw [hk.room]; exact hcs)
  intro T hT X
  obtain ⟨v, st₀, t, T', L, h0, X', hL, e1, e2, ⟨hv, ⟨ad, ha0, hp, hd1⟩, hF⟩, stp⟩ := hr T hT X
  cases hv
  obtain ⟨hz, hkp, hS'⟩ := vx_keep h0 e1 hS (A1 := kI q H.size) (free := kI q H.size) (fun a _ h => hsub a h) hsub hL hF
  have hlt : ∀ (k : Nat) (x : Nat × va_E), ws[k]? = some x → x.1 < H.size ∧ ¬ kI q H.size x.1 := by
    intro k x hx
    have hkl := (List.getElem?_eq_some_iff.mp hx).1
    have hx2 : (ws ++ [(q, blank)])[k]? = some x := by rw [List.getElem?_append_left hkl]; exact hx
    have h1 := (hP _ _ hx2).lt
    refine ⟨h1, ?_⟩
    rintro (h | h)
    · exact hD.nd hx2 hlast (by omega) h
    · omega
  have hP' : va_P (eD (kZ K)) vwCl (ws ++ mk ad) T'.heap := by
    refine va_P.app (fun k x hx => ?_) (by rw [e1]; exact hp)
    have hkl := (List.getElem?_eq_some_iff.mp hx).1
    exact (hP k x (by rw [List.getElem?_append_left hkl]; exact hx)).kept (hkp x.1 (hlt k x hx).1 (hlt k x hx).2)
  have hD' : va_D (kO K) (ws ++ mk ad) := by
    refine va_D.app ⟨fun i j x y hi hj e => ?_, fun k x hx => ?_⟩ (hd1.weaken (fun _ _ _ h => hsub _ h)) (fun i j x y hi hj e => ?_)
    · have h1 := (List.getElem?_eq_some_iff.mp hi).1
      have h2 := (List.getElem?_eq_some_iff.mp hj).1
      exact hD.1 i j x y (by rw [List.getElem?_append_left h1]; exact hi) (by rw [List.getElem?_append_left h2]; exact hj) e
    · have h1 := (List.getElem?_eq_some_iff.mp hx).1
      exact hD.2 k x (by rw [List.getElem?_append_left h1]; exact hx)
    · exact (hlt i x hi).2 (by rw [e]; exact hd1.2 j y hj)
  obtain ⟨t2, a1, b1⟩ := kk ad ha0 T'.heap (locs ++ L) ls hP' hD' hS' hl T' rfl X'
  exact ⟨t2, stp t2 a1, b1⟩
/-- from a grown world to one of the store's -/
theorem V_toZ {K2 : zK} (σ : zST) (hws : ws = wd (kZ K2) σ) (hEq : eD (kZ K) = eD (kZ K2)) (hJ : ∀ H locs ls, va_P (eD (kZ K2)) vwCl (wd (kZ K2) σ) H → va_D (kO K) (wd (kZ K2) σ) → va_S (kO K) (kS K).heap H locs → lv_has ls (kC K).maxLocals lv → kW K H locs cs ss (F0 (kM K) pc ls st)) : V K cs ss pc lv st ws := by
  subst hws
  intro H locs ls hP hD hS hl
  exact hJ H locs ls (hEq ▸ hP) hD hS hl
/-- a method of the store model called on the world, which is all of wd E σ -/
theorem V_callV (n : Nat) (hk : zIs K own cc nL Ts ret rm) {E : zE} {σ τ : zST} {y : MethodName} {wsc ws2 : List Cond} {rmc : Room} {bytes : ByteArray} {maxL ix q : Nat} {retc : Option FieldType} {C : String} {T : u_T} {N ci : Nat} {fs : List Value} (hED : eD E = eD (kZ K)) (hEC : eC E = eC (kZ K)) (hws : ws = wd E σ) (hws' : wd E τ = ws') (hc : eJ E → Ct (kL K) y wsc rmc E [.ref (eA E q)] σ none τ) (hT : GoodIn Ts (wsV own ix C y wsc)) (hw : wsc = Cond.code y bytes maxL retc :: ws2) (h0 : rmc.cells = 0 ∧ rmc.slots = 0) (hd : y.cls = C ∧ y.cls ≠ "java/lang/invoke/MethodHandle" ∧ y.cls ≠ "java/lang/invoke/VarHandle" ∧ (parseMethodDescriptor y.desc).map (fun d => d.parameters.length) = some 0) (hR : rmc.frames + 1 ≤ rm.frames ∧ 8 + (maxL + 11) + rmc.locals ≤ rm.locals)
    (hq : q < eN E) (hs : eS E q σ = .inr (ci, fs)) (hcl : vwCl[ci]? = some (C, T, N)) (hW : (st.map fun v => v.category).sum ≤ 8) (hcs : cs ≤ rm.cells ∧ ss ≤ rm.slots) (d : decode cc pc = .ok (.invokevirtual ix, 3)) (kk : V K cs ss (pc + 3) lv st ws') : V K cs ss pc lv (.ref (eA E q) :: st) ws := by
  subst hws
  subst hws'
  intro H locs ls hP hD hS hl
  have hO : ∀ a, OA E H.size a → kO K a := by
    rintro a (⟨p, hp, rfl⟩ | h)
    · exact hD.2 p _ (wd_at hp)
    · exact kO_new K a (Nat.le_trans hS.1 h)
  have hT' : va_K (eD E) vwCl (eT E) (kS K) := by rw [hED]; unfold eT; rw [hEC]; exact hk.cls
  have hr : va_Run (kP K) (kL K) (kE K) (kR K) (kS K) (kM K) (kA K) (kB K) (kH K) (kC K) H locs cs ss 0 0 (F0 (kM K) pc ls (.ref (eA E q) :: st)) st _ _ := va_runV (As := []) (rest := st) (b := eA E q) ⟨hk.exec, hk.code, hk.maxl, hk.ow, hk.wd⟩ (hc (fun i j hi hj e => hD.1 i j _ _ (wd_at hi) (wd_at hj) e) H.size) (cwV 0 hk.wd hT hw h0.1 h0.2 hd (by rw [hk.room]; exact hR)) ⟨zPc_blind, va_recv hk.cls hP hcl (q0 := q) (by rw [wd_at hq, hs]), fun U hU hWm => ⟨rfl, by rw [hU], by rw [hU, hED]; exact hP, va_K.moved hWm.alike hT', EF.step hk.env (fun a h1 h2 => hS.2.1 a h1 h2) hO hU hWm⟩⟩ (g := F0 (kM K) pc ls (.ref (eA E q) :: st)) rfl rfl (hl.1.trans hk.maxl) rfl (lv_room hW) d (by rw [hk.room]; exact hcs)
  intro T hT X
  obtain ⟨v, st₀, t, T', L, h0', X', hL, e1, e2, ⟨hv, hp, hF⟩, stp⟩ := hr T hT X
  cases hv
  obtain ⟨-, -, hS'⟩ := vx_keep h0' e1 hS (A1 := OA E H.size) (free := OA E H.size) (fun a _ h => hO a h) hO hL hF
  have hD' : va_D (kO K) (wd E τ) := by
    refine ⟨fun i j x y hi hj e => ?_, fun k x hx => ?_⟩
    · obtain ⟨h1, rfl⟩ := wd_of hi
      obtain ⟨h2, rfl⟩ := wd_of hj
      exact hD.1 i j _ _ (wd_at h1) (wd_at h2) e
    · obtain ⟨h1, rfl⟩ := wd_of hx
      exact hD.2 k (eA E k, eS E k σ) (wd_at h1)
  obtain ⟨t2, a1, b1⟩ := kk T'.heap (locs ++ L) ls (by rw [e1, ← hED]; exact hp) hD' hS' hl T' rfl X'
  exact ⟨t2, stp t2 a1, b1⟩
end ZV1
