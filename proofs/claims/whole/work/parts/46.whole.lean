section
variable {K : zK} {own : String} {cc : ByteArray} {nL : Nat} {Ts : List Cond} {ret : Option FieldType} {rm : Room} {cs ss pc : Nat} {lv lv' : List (Nat × Value)} {st : List Value} {ws ws' : va_W}
/-- a constructor called on a cell of the world, the last one -/
theorem V_callIP (hk : zIs K own cc nL Ts ret rm) {y : MethodName} {wsc ws2 : List Cond} {rmc : Room} {bytes : ByteArray} {maxL ix q : Nat} {blank : va_E} {mk : (Nat → Nat) → va_W} (hc : CtI (kL K) y wsc rmc (eD (kZ K)) (eC (kZ K)) blank mk) (hao : va_AO "CanonCote$Graph" (kS K)) (hT : GoodIn Ts wsc) (hnw : Cond.methodLink own ix y ∈ Ts) (hw : wsc = Cond.code y bytes maxL none :: ws2) (hi : Cond.initialized y.cls ∈ Ts ∧ Cond.instanceMethod y ∈ Ts) (hd : y.cls ≠ "java/lang/invoke/MethodHandle" ∧ y.cls ≠ "java/lang/invoke/VarHandle" ∧ (parseMethodDescriptor y.desc).map (fun d => d.parameters.length) = some 0) (hin : y.name = "<init>") (hR : rmc.frames + 1 ≤ rm.frames ∧ 8 + (maxL + 11) + rmc.locals ≤ rm.locals)
    (hW : (st.map fun v => v.category).sum ≤ 8) (hcs : cs + rmc.cells ≤ rm.cells ∧ ss + rmc.slots ≤ rm.slots) (d : decode cc pc = .ok (.invokespecial ix, 3)) (kk : ∀ ad : Nat → Nat, ad 0 = q → V K (cs + rmc.cells) (ss + rmc.slots) (pc + 3) lv st (ws ++ mk ad)) : V K cs ss pc lv (.ref q :: st) (ws ++ [(q, blank)]) := by
  intro H locs ls hP hD hS hl
  have hlast : (ws ++ [(q, blank)])[ws.length]? = some (q, blank) := by simp
  have hqH : q < H.size := (hP _ _ hlast).lt
  have hqA : kO K q := hD.2 _ _ hlast
  have hsub : ∀ a, kI q H.size a → kO K a := by
    rintro a (rfl | h)
    · exact hqA
    · exact kO_new K a (Nat.le_trans hS.1 h)
  have hPq : va_P (eD (kZ K)) vwCl [(q, blank)] H := by
    intro k x hx
    have h1 := (List.getElem?_eq_some_iff.mp hx).1
    simp at h1
    subst h1
    cases hx
    exact hP _ _ hlast
  have hr : va_Run (kP K) (kL K) (kE K) (kR K) (kS K) (kM K) (kA K) (kB K) (kH K) (kC K) H locs cs ss rmc.cells rmc.slots (F0 (kM K) pc ls (.ref q :: st)) st _ _ := va_runI (As := []) (rest := st) ⟨hk.exec, hk.code, hk.maxl, hk.ow, hk.wd⟩ (hc H.size q hqH) (cwI (mc := rmc.cells) (ms := rmc.slots) 0 hk.wd hT hw rfl rfl (hk.wd _ hi.1) (hk.wd _ hnw) (hk.wd _ hi.2) hin hd (by rw [hk.room]; exact hR))
    ⟨fun a U g mk h => by obtain ⟨h1, h2, h3, h4, h5, h6⟩ := h; exact ⟨h1, h2, h3, va_K.moved (u := U) (U := U.calling g mk a) (Vm.Alike.refl U.vm) h4, EF.same (u := U) (U := U.calling g mk a) rfl h5, va_AO.moved (u := U) (U := U.calling g mk a) (Vm.Alike.refl U.vm) h6⟩,
     fun U hU hW => ⟨rfl, by rw [hU], by rw [hU]; exact hPq, va_K.moved hW.alike hk.cls, EF.step hk.env (fun a h1 h2 => hS.2.1 a h1 h2) hsub hU hW, va_AO.moved hW.alike hao⟩⟩ (g := F0 (kM K) pc ls (.ref q :: st)) rfl rfl (hl.1.trans hk.maxl) rfl (lv_room hW) d (by rw [hk.room]; exact hcs)
  intro T hT X
  obtain ⟨v, st₀, t, T', L, h0, X', hL, e1, e2, ⟨hv, ⟨ad, ha0, hp, hd1⟩, hF⟩, stp⟩ := hr T hT X
  cases hv
  obtain ⟨hz, hkp, hS'⟩ := vx_keep h0 e1 hS (A1 := kI q H.size) (free := kI q H.size) (fun a _ h => hsub a h) hsub hL hF
  have hlt : ∀ (k : Nat) (x : Nat × va_E), ws[k]? = some x → x.1 < H.size ∧ ¬ kI q H.size x.1 := by
    intro k x hx
    have hkl := (List.getElem?_eq_some_iff.mp hx).1
    have hx2 : (ws ++ [(q, blank)])[k]? = some x := by rw [List.getElem?_append_left hkl]; exact hx
    have h1 := (hP _ _ hx2).lt
    refine ⟨h1, ?_⟩
    rintro (h | h)
    · exact hD.nd hx2 hlast (by omega) h
    · omega
  have hP' : va_P (eD (kZ K)) vwCl (ws ++ mk ad) T'.heap := by
    refine va_P.app (fun k x hx => ?_) (by rw [e1]; exact hp)
    have hkl := (List.getElem?_eq_some_iff.mp hx).1
    exact (hP k x (by rw [List.getElem?_append_left hkl]; exact hx)).kept (hkp x.1 (hlt k x hx).1 (hlt k x hx).2)
  have hD' : va_D (kO K) (ws ++ mk ad) := by
    refine va_D.app ⟨fun i j x y hi hj e => ?_, fun k x hx => ?_⟩ (hd1.weaken (fun _ _ _ h => hsub _ h)) (fun i j x y hi hj e => ?_)
    · have h1 := (List.getElem?_eq_some_iff.mp hi).1
      have h2 := (List.getElem?_eq_some_iff.mp hj).1
      exact hD.1 i j x y (by rw [List.getElem?_append_left h1]; exact hi) (by rw [List.getElem?_append_left h2]; exact hj) e
    · have h1 := (List.getElem?_eq_some_iff.mp hx).1
      exact hD.2 k x (by rw [List.getElem?_append_left h1]; exact hx)
    · exact (hlt i x hi).2 (by rw [e]; exact hd1.2 j y hj)
  obtain ⟨t2, a1, b1⟩ := kk ad ha0 T'.heap (locs ++ L) ls hP' hD' hS' hl T' rfl X'
  exact ⟨t2, stp t2 a1, b1⟩

theorem V_swap {k a n : Nat} {cA : ClassId} {f f' : Nat → Option Nat} (hk : ws[k]? = some (a, .inl (cA, n, .inr (.inr (.inr (.inr f)))))) (hf : ∀ j, j < n → f j = f' j) (hws : ws.set k (a, .inl (cA, n, .inr (.inr (.inr (.inr f'))))) = ws') (kk : V K cs ss pc lv st ws') : V K cs ss pc lv st ws := by
  subst hws
  intro H locs ls hP hD hS hl
  refine kk H locs ls ?_ (hD.set hk) hS hl
  refine hP.set hD hk ?_ (fun _ _ => rfl)
  have h := hP k _ hk
  have e : arrV cA n (fun j => va_rf (f j)) = arrV cA n (fun j => va_rf (f' j)) := by
    unfold arrV
    congr 2
    funext j
    show va_rf (f j.val) = va_rf (f' j.val)
    rw [hf j.val j.isLt]
  show H[a]? = some (vp_cell _ _)
  rw [vp_cell_q, ← e]
  exact h
end
def z0E (D : va_G) (cid : Nat → ClassId) : zE := (fun _ _ => .inr (0, []), fun _ => 0, 0, D, cid)
theorem in_law_X7 : ∀ w ∈ u_ws RX7 TX7 6, w ∈ wsL_law := by decide +kernel
theorem in_law_X8 : ∀ w ∈ u_ws RX8 TX8 17, w ∈ wsL_law := by decide +kernel
theorem wz_0 : Cond.classLink RL 8 RX7 ∈ wsL_law := by decide +kernel
theorem wz_1 : Cond.instantiable RX7 6 ∈ wsL_law := by decide +kernel
theorem wz_2 : Cond.initialized RX7 ∈ wsL_law := by decide +kernel
theorem wz_3 : Cond.methodLink RL 100 yX7_init ∈ wsL_law := by decide +kernel
theorem wz_4 : Cond.initialized yX7_init.cls ∈ wsL_law := by decide +kernel
theorem wz_5 : Cond.instanceMethod yX7_init ∈ wsL_law := by decide +kernel
theorem wz_6 : Cond.classLink RL 101 RX8 ∈ wsL_law := by decide +kernel
theorem wz_7 : Cond.instantiable RX8 17 ∈ wsL_law := by decide +kernel
theorem wz_8 : Cond.initialized RX8 ∈ wsL_law := by decide +kernel
theorem wz_9 : Cond.methodLink RL 103 yX8_init ∈ wsL_law := by decide +kernel
theorem wz_10 : Cond.initialized yX8_init.cls ∈ wsL_law := by decide +kernel
theorem wz_11 : Cond.instanceMethod yX8_init ∈ wsL_law := by decide +kernel
theorem wz_12 : Cond.arrayClass .long ∈ wsL_law := by decide +kernel
def law_ad (d0 d1 : Nat → Nat) (q2 : Nat) : Nat → Nat := fun j => ([d0 0, d0 1, d0 2, d0 3, d0 4, d0 5, d0 6, d0 7, d0 8, d0 9, d0 10, d0 11, d0 12, d0 13, d0 14, d0 15, d0 16, d0 17, d0 18, d0 19, d0 20, d0 21, d0 22, d0 23, d0 24, d0 25, d0 26, d0 27, d0 28, d0 29, d0 30, d0 31, d0 32, d0 33, d0 34, d0 35, d0 36, d0 37, d0 38, d0 39, d0 40, d0 41, d0 42, d0 43, d0 44, d0 45, d1 0, d1 1, d1 2, d1 3, d1 4, d1 5, d1 6, d1 7, d1 8, d1 9, d1 10, d1 11, d1 12, d1 13, q2] : List Nat).getD j 0
def law_ws (τg τm : zST) (cid : Nat → ClassId) (d0 d1 : Nat → Nat) (q2 : Nat) : va_W := [((d0 0), .inr (6, [.ref (d0 1), .ref (d0 14), .ref (d0 17), .ref (d0 21), .ref (d0 26), .ref (d0 36)])), ((d0 1), .inl (cid 3, 4, .inr (.inr (.inr (.inr (fun k => some (law_ad d0 d1 q2 (2 + 3 * k)))))))), ((d0 2), .inr (2, [.int 4, .ref (d0 3), .ref (d0 4)])), ((d0 3), .inl (cid 0, 8, .inl (fun _ => 0))), ((d0 4), .inl (cid 0, 8, .inl (fun _ => 0))), ((d0 5), .inr (2, [.int 4, .ref (d0 6), .ref (d0 7)])), ((d0 6), .inl (cid 0, 8, .inl (fun _ => 0))), ((d0 7), .inl (cid 0, 8, .inl (fun _ => 0))), ((d0 8), .inr (2, [.int 4, .ref (d0 9), .ref (d0 10)])), ((d0 9), .inl (cid 0, 8, .inl (fun _ => 0))), ((d0 10), .inl (cid 0, 8, .inl (fun _ => 0))), ((d0 11), .inr (2, [.int 4, .ref (d0 12), .ref (d0 13)])), ((d0 12), .inl (cid 0, 8, .inl (fun _ => 0))), ((d0 13), .inl (cid 0, 8, .inl (fun _ => 0))), ((d0 14), .inr (2, [.int 4, .ref (d0 15), .ref (d0 16)])), ((d0 15), .inl (cid 0, 8, .inl (fun _ => 0))), ((d0 16), .inl (cid 0, 8, .inl (fun _ => 0))), ((d0 17), .inr (5, [.int 0, .int 0, .ref (d0 18), .ref (d0 19), .ref (d0 20)])), ((d0 18), .inl (cid 0, 8, .inl (fun _ => 0))), ((d0 19), .inl (cid 0, 8, .inl (fun _ => 0))), ((d0 20), .inl (cid 1, 8, .inr (.inl (fun _ => 0)))), ((d0 21), .inr (0, [.int 0, .int 0, .int 0, .ref (d0 22), .ref (d0 23), .ref (d0 24), .ref (d0 25)])), ((d0 22), .inl (cid 0, 8, .inl (fun _ => 0))), ((d0 23), .inl (cid 0, 64, .inl (fun _ => 0))), ((d0 24), .inl (cid 0, 8, .inl (fun _ => 0))), ((d0 25), .inl (cid 0, 8, .inl (fun _ => 0))), ((d0 26), .inr (4, [.ref (d0 27), .ref (d0 28), .ref (d0 32)])), ((d0 27), .inl (cid 0, 8, .inl (fun _ => 0))), ((d0 28), .inr (5, [.int 0, .int 0, .ref (d0 29), .ref (d0 30), .ref (d0 31)])), ((d0 29), .inl (cid 0, 8, .inl (fun _ => 0))), ((d0 30), .inl (cid 0, 8, .inl (fun _ => 0))), ((d0 31), .inl (cid 1, 8, .inr (.inl (fun _ => 0)))), ((d0 32), .inr (5, [.int 0, .int 0, .ref (d0 33), .ref (d0 34), .ref (d0 35)])), ((d0 33), .inl (cid 0, 8, .inl (fun _ => 0))), ((d0 34), .inl (cid 0, 8, .inl (fun _ => 0))), ((d0 35), .inl (cid 1, 8, .inr (.inl (fun _ => 0)))), ((d0 36), .inr (3, [.int (gI τg 0 0), .ref (d0 37), .ref (d0 38), .ref (d0 42)])), ((d0 37), .inl (cid 1, 6, .inr (.inl (τg.2 1)))), ((d0 38), .inr (1, [.int (gI τg 2 0), .int (gI τg 2 1), .int (gI τg 2 2), .ref (d0 39), .ref (d0 40), .ref (d0 41)])), ((d0 39), .inl (cid 0, 8, .inl (τg.1 3))), ((d0 40), .inl (cid 1, 28, .inr (.inl (τg.2 4)))), ((d0 41), .inl (cid 1, 64, .inr (.inl (τg.2 5)))), ((d0 42), .inr (1, [.int (gI τg 6 0), .int (gI τg 6 1), .int (gI τg 6 2), .ref (d0 43), .ref (d0 44), .ref (d0 45)])), ((d0 43), .inl (cid 0, 8, .inl (τg.1 7))), ((d0 44), .inl (cid 1, 28, .inr (.inl (τg.2 8)))), ((d0 45), .inl (cid 1, 64, .inr (.inl (τg.2 9)))), ((d1 0), .inr (7, [.ref (d1 1), .ref (d1 2), .ref (d1 3), .ref (d1 4), .ref (d1 5), .ref (d1 6), .ref (d1 7), .ref (d1 8), .ref (d1 9), .int (gI τm 0 9), .ref (d1 10), .int (gI τm 0 11), .ref (d1 11), .ref (d1 12), .int (gI τm 0 14), .ref (d1 13), .int (gI τm 0 16)])), ((d1 1), .inl (cid 0, 4, .inl (τm.1 1))), ((d1 2), .inl (cid 0, 32, .inl (τm.1 2))), ((d1 3), .inl (cid 0, 32, .inl (τm.1 3))), ((d1 4), .inl (cid 0, 8, .inl (τm.1 4))), ((d1 5), .inl (cid 0, 8, .inl (τm.1 5))), ((d1 6), .inl (cid 0, 8, .inl (τm.1 6))), ((d1 7), .inl (cid 0, 8, .inl (τm.1 7))), ((d1 8), .inl (cid 0, 8, .inl (τm.1 8))), ((d1 9), .inl (cid 0, 8, .inl (τm.1 9))), ((d1 10), .inl (cid 0, 48, .inl (τm.1 10))), ((d1 11), .inl (cid 0, 40320, .inl (τm.1 11))), ((d1 12), .inl (cid 2, 40320, .inl (τm.1 12))), ((d1 13), .inl (cid 0, 8, .inl (τm.1 13))), (q2, .inl (cid 1, 1, .inr (.inl (fun _ => 0))))]
set_option maxRecDepth 100000 in
set_option maxHeartbeats 4000000 in
theorem law_made {K : zK} {b : Nat} {F : Nat} {τg τm : zST} (hτg : m_X3_clear F 0 s0_Group = some τg) (hτm : m_X8_closes F 0 s0_CanonCoteModel = some τm) (hk : zIs K RL cL_law 8 wsL_law (some .boolean) room_1) (hao : va_AO "CanonCote$Graph" (kS K)) (hgo : ∀ (d0 d1 : Nat → Nat) (q2 : Nat), V K 61 81350 23 [(4, .int 0), (3, .ref q2), (2, .ref (d1 0)), (1, .ref (d0 0)), (0, .ref b)] [] (law_ws τg τm (eC (kZ K)) d0 d1 q2)) : V K 0 0 0 [(0, .ref b)] [] [] := by
  refine V_new hk (ci := 6) tyX7 tok_TX7 in_law_X7 ⟨wz_0, wz_1, wz_2⟩ rfl (fs := [.null, .null, .null, .null, .null, .null]) (fun j hj => by rcases (show j = 0 ∨ j = 1 ∨ j = 2 ∨ j = 3 ∨ j = 4 ∨ j = 5 by omega) with rfl | rfl | rfl | rfl | rfl | rfl <;> rfl) ⟨Nat.le_of_ble_eq_true rfl, Nat.le_of_ble_eq_true rfl⟩ dL_law_0 (fun q0 => ?_)
  refine V_dup hk dL_law_3 rfl ?_
  refine V_callIP (own := RL) (ws := []) hk (c_X7_init (l := kL K) hτg) hao gL_law_X7_init wz_3 rfl ⟨wz_4, wz_5⟩ (by decide +kernel) rfl ⟨Nat.le_of_ble_eq_true rfl, Nat.le_of_ble_eq_true rfl⟩ (Nat.le_of_ble_eq_true rfl) ⟨Nat.le_of_ble_eq_true rfl, Nat.le_of_ble_eq_true rfl⟩ dL_law_4 (fun d0 ha => ?_)
  subst ha
  show V K 46 520 7 [(0, .ref b)] [.ref (d0 0)] [((d0 0), .inr (6, [.ref (d0 1), .ref (d0 14), .ref (d0 17), .ref (d0 21), .ref (d0 26), .ref (d0 36)])), ((d0 1), .inl (eC (kZ K) 3, 4, .inr (.inr (.inr (.inr (va_up (va_up (va_up (va_up (fun _ => none) 0 (some (d0 2))) 1 (some (d0 5))) 2 (some (d0 8))) 3 (some (d0 11)))))))), ((d0 2), .inr (2, [.int 4, .ref (d0 3), .ref (d0 4)])), ((d0 3), .inl (eC (kZ K) 0, 8, .inl (fun _ => 0))), ((d0 4), .inl (eC (kZ K) 0, 8, .inl (fun _ => 0))), ((d0 5), .inr (2, [.int 4, .ref (d0 6), .ref (d0 7)])), ((d0 6), .inl (eC (kZ K) 0, 8, .inl (fun _ => 0))), ((d0 7), .inl (eC (kZ K) 0, 8, .inl (fun _ => 0))), ((d0 8), .inr (2, [.int 4, .ref (d0 9), .ref (d0 10)])), ((d0 9), .inl (eC (kZ K) 0, 8, .inl (fun _ => 0))), ((d0 10), .inl (eC (kZ K) 0, 8, .inl (fun _ => 0))), ((d0 11), .inr (2, [.int 4, .ref (d0 12), .ref (d0 13)])), ((d0 12), .inl (eC (kZ K) 0, 8, .inl (fun _ => 0))), ((d0 13), .inl (eC (kZ K) 0, 8, .inl (fun _ => 0))), ((d0 14), .inr (2, [.int 4, .ref (d0 15), .ref (d0 16)])), ((d0 15), .inl (eC (kZ K) 0, 8, .inl (fun _ => 0))), ((d0 16), .inl (eC (kZ K) 0, 8, .inl (fun _ => 0))), ((d0 17), .inr (5, [.int 0, .int 0, .ref (d0 18), .ref (d0 19), .ref (d0 20)])), ((d0 18), .inl (eC (kZ K) 0, 8, .inl (fun _ => 0))), ((d0 19), .inl (eC (kZ K) 0, 8, .inl (fun _ => 0))), ((d0 20), .inl (eC (kZ K) 1, 8, .inr (.inl (fun _ => 0)))), ((d0 21), .inr (0, [.int 0, .int 0, .int 0, .ref (d0 22), .ref (d0 23), .ref (d0 24), .ref (d0 25)])), ((d0 22), .inl (eC (kZ K) 0, 8, .inl (fun _ => 0))), ((d0 23), .inl (eC (kZ K) 0, 64, .inl (fun _ => 0))), ((d0 24), .inl (eC (kZ K) 0, 8, .inl (fun _ => 0))), ((d0 25), .inl (eC (kZ K) 0, 8, .inl (fun _ => 0))), ((d0 26), .inr (4, [.ref (d0 27), .ref (d0 28), .ref (d0 32)])), ((d0 27), .inl (eC (kZ K) 0, 8, .inl (fun _ => 0))), ((d0 28), .inr (5, [.int 0, .int 0, .ref (d0 29), .ref (d0 30), .ref (d0 31)])), ((d0 29), .inl (eC (kZ K) 0, 8, .inl (fun _ => 0))), ((d0 30), .inl (eC (kZ K) 0, 8, .inl (fun _ => 0))), ((d0 31), .inl (eC (kZ K) 1, 8, .inr (.inl (fun _ => 0)))), ((d0 32), .inr (5, [.int 0, .int 0, .ref (d0 33), .ref (d0 34), .ref (d0 35)])), ((d0 33), .inl (eC (kZ K) 0, 8, .inl (fun _ => 0))), ((d0 34), .inl (eC (kZ K) 0, 8, .inl (fun _ => 0))), ((d0 35), .inl (eC (kZ K) 1, 8, .inr (.inl (fun _ => 0)))), ((d0 36), .inr (3, [.int (gI τg 0 0), .ref (d0 37), .ref (d0 38), .ref (d0 42)])), ((d0 37), .inl (eC (kZ K) 1, 6, .inr (.inl (τg.2 1)))), ((d0 38), .inr (1, [.int (gI τg 2 0), .int (gI τg 2 1), .int (gI τg 2 2), .ref (d0 39), .ref (d0 40), .ref (d0 41)])), ((d0 39), .inl (eC (kZ K) 0, 8, .inl (τg.1 3))), ((d0 40), .inl (eC (kZ K) 1, 28, .inr (.inl (τg.2 4)))), ((d0 41), .inl (eC (kZ K) 1, 64, .inr (.inl (τg.2 5)))), ((d0 42), .inr (1, [.int (gI τg 6 0), .int (gI τg 6 1), .int (gI τg 6 2), .ref (d0 43), .ref (d0 44), .ref (d0 45)])), ((d0 43), .inl (eC (kZ K) 0, 8, .inl (τg.1 7))), ((d0 44), .inl (eC (kZ K) 1, 28, .inr (.inl (τg.2 8)))), ((d0 45), .inl (eC (kZ K) 1, 64, .inr (.inl (τg.2 9))))]
  refine V_astore_n hk (lv' := [(1, .ref (d0 0)), (0, .ref b)]) dL_law_7 rfl (by decide) rfl ?_
  refine V_new hk (ci := 7) tyX8 tok_TX8 in_law_X8 ⟨wz_6, wz_7, wz_8⟩ rfl (fs := [.null, .null, .null, .null, .null, .null, .null, .null, .null, .int 0, .null, .int 0, .null, .null, .int 0, .null, .int 0]) (fun j hj => by rcases (show j = 0 ∨ j = 1 ∨ j = 2 ∨ j = 3 ∨ j = 4 ∨ j = 5 ∨ j = 6 ∨ j = 7 ∨ j = 8 ∨ j = 9 ∨ j = 10 ∨ j = 11 ∨ j = 12 ∨ j = 13 ∨ j = 14 ∨ j = 15 ∨ j = 16 by omega) with rfl | rfl | rfl | rfl | rfl | rfl | rfl | rfl | rfl | rfl | rfl | rfl | rfl | rfl | rfl | rfl | rfl <;> rfl) ⟨Nat.le_of_ble_eq_true rfl, Nat.le_of_ble_eq_true rfl⟩ dL_law_8 (fun q1 => ?_)
  refine V_dup hk dL_law_11 rfl ?_
  refine V_callIP (own := RL) hk (c_X8_init (l := kL K) hτm) hao gL_law_X8_init wz_9 rfl ⟨wz_10, wz_11⟩ (by decide +kernel) rfl ⟨Nat.le_of_ble_eq_true rfl, Nat.le_of_ble_eq_true rfl⟩ (Nat.le_of_ble_eq_true rfl) ⟨Nat.le_of_ble_eq_true rfl, Nat.le_of_ble_eq_true rfl⟩ dL_law_12 (fun d1 ha => ?_)
  subst ha
  show V K 60 81349 15 [(1, .ref (d0 0)), (0, .ref b)] [.ref (d1 0)] [((d0 0), .inr (6, [.ref (d0 1), .ref (d0 14), .ref (d0 17), .ref (d0 21), .ref (d0 26), .ref (d0 36)])), ((d0 1), .inl (eC (kZ K) 3, 4, .inr (.inr (.inr (.inr (va_up (va_up (va_up (va_up (fun _ => none) 0 (some (d0 2))) 1 (some (d0 5))) 2 (some (d0 8))) 3 (some (d0 11)))))))), ((d0 2), .inr (2, [.int 4, .ref (d0 3), .ref (d0 4)])), ((d0 3), .inl (eC (kZ K) 0, 8, .inl (fun _ => 0))), ((d0 4), .inl (eC (kZ K) 0, 8, .inl (fun _ => 0))), ((d0 5), .inr (2, [.int 4, .ref (d0 6), .ref (d0 7)])), ((d0 6), .inl (eC (kZ K) 0, 8, .inl (fun _ => 0))), ((d0 7), .inl (eC (kZ K) 0, 8, .inl (fun _ => 0))), ((d0 8), .inr (2, [.int 4, .ref (d0 9), .ref (d0 10)])), ((d0 9), .inl (eC (kZ K) 0, 8, .inl (fun _ => 0))), ((d0 10), .inl (eC (kZ K) 0, 8, .inl (fun _ => 0))), ((d0 11), .inr (2, [.int 4, .ref (d0 12), .ref (d0 13)])), ((d0 12), .inl (eC (kZ K) 0, 8, .inl (fun _ => 0))), ((d0 13), .inl (eC (kZ K) 0, 8, .inl (fun _ => 0))), ((d0 14), .inr (2, [.int 4, .ref (d0 15), .ref (d0 16)])), ((d0 15), .inl (eC (kZ K) 0, 8, .inl (fun _ => 0))), ((d0 16), .inl (eC (kZ K) 0, 8, .inl (fun _ => 0))), ((d0 17), .inr (5, [.int 0, .int 0, .ref (d0 18), .ref (d0 19), .ref (d0 20)])), ((d0 18), .inl (eC (kZ K) 0, 8, .inl (fun _ => 0))), ((d0 19), .inl (eC (kZ K) 0, 8, .inl (fun _ => 0))), ((d0 20), .inl (eC (kZ K) 1, 8, .inr (.inl (fun _ => 0)))), ((d0 21), .inr (0, [.int 0, .int 0, .int 0, .ref (d0 22), .ref (d0 23), .ref (d0 24), .ref (d0 25)])), ((d0 22), .inl (eC (kZ K) 0, 8, .inl (fun _ => 0))), ((d0 23), .inl (eC (kZ K) 0, 64, .inl (fun _ => 0))), ((d0 24), .inl (eC (kZ K) 0, 8, .inl (fun _ => 0))), ((d0 25), .inl (eC (kZ K) 0, 8, .inl (fun _ => 0))), ((d0 26), .inr (4, [.ref (d0 27), .ref (d0 28), .ref (d0 32)])), ((d0 27), .inl (eC (kZ K) 0, 8, .inl (fun _ => 0))), ((d0 28), .inr (5, [.int 0, .int 0, .ref (d0 29), .ref (d0 30), .ref (d0 31)])), ((d0 29), .inl (eC (kZ K) 0, 8, .inl (fun _ => 0))), ((d0 30), .inl (eC (kZ K) 0, 8, .inl (fun _ => 0))), ((d0 31), .inl (eC (kZ K) 1, 8, .inr (.inl (fun _ => 0)))), ((d0 32), .inr (5, [.int 0, .int 0, .ref (d0 33), .ref (d0 34), .ref (d0 35)])), ((d0 33), .inl (eC (kZ K) 0, 8, .inl (fun _ => 0))), ((d0 34), .inl (eC (kZ K) 0, 8, .inl (fun _ => 0))), ((d0 35), .inl (eC (kZ K) 1, 8, .inr (.inl (fun _ => 0)))), ((d0 36), .inr (3, [.int (gI τg 0 0), .ref (d0 37), .ref (d0 38), .ref (d0 42)])), ((d0 37), .inl (eC (kZ K) 1, 6, .inr (.inl (τg.2 1)))), ((d0 38), .inr (1, [.int (gI τg 2 0), .int (gI τg 2 1), .int (gI τg 2 2), .ref (d0 39), .ref (d0 40), .ref (d0 41)])), ((d0 39), .inl (eC (kZ K) 0, 8, .inl (τg.1 3))), ((d0 40), .inl (eC (kZ K) 1, 28, .inr (.inl (τg.2 4)))), ((d0 41), .inl (eC (kZ K) 1, 64, .inr (.inl (τg.2 5)))), ((d0 42), .inr (1, [.int (gI τg 6 0), .int (gI τg 6 1), .int (gI τg 6 2), .ref (d0 43), .ref (d0 44), .ref (d0 45)])), ((d0 43), .inl (eC (kZ K) 0, 8, .inl (τg.1 7))), ((d0 44), .inl (eC (kZ K) 1, 28, .inr (.inl (τg.2 8)))), ((d0 45), .inl (eC (kZ K) 1, 64, .inr (.inl (τg.2 9)))), ((d1 0), .inr (7, [.ref (d1 1), .ref (d1 2), .ref (d1 3), .ref (d1 4), .ref (d1 5), .ref (d1 6), .ref (d1 7), .ref (d1 8), .ref (d1 9), .int (gI τm 0 9), .ref (d1 10), .int (gI τm 0 11), .ref (d1 11), .ref (d1 12), .int (gI τm 0 14), .ref (d1 13), .int (gI τm 0 16)])), ((d1 1), .inl (eC (kZ K) 0, 4, .inl (τm.1 1))), ((d1 2), .inl (eC (kZ K) 0, 32, .inl (τm.1 2))), ((d1 3), .inl (eC (kZ K) 0, 32, .inl (τm.1 3))), ((d1 4), .inl (eC (kZ K) 0, 8, .inl (τm.1 4))), ((d1 5), .inl (eC (kZ K) 0, 8, .inl (τm.1 5))), ((d1 6), .inl (eC (kZ K) 0, 8, .inl (τm.1 6))), ((d1 7), .inl (eC (kZ K) 0, 8, .inl (τm.1 7))), ((d1 8), .inl (eC (kZ K) 0, 8, .inl (τm.1 8))), ((d1 9), .inl (eC (kZ K) 0, 8, .inl (τm.1 9))), ((d1 10), .inl (eC (kZ K) 0, 48, .inl (τm.1 10))), ((d1 11), .inl (eC (kZ K) 0, 40320, .inl (τm.1 11))), ((d1 12), .inl (eC (kZ K) 2, 40320, .inl (τm.1 12))), ((d1 13), .inl (eC (kZ K) 0, 8, .inl (τm.1 13)))]
  refine V_astore_n hk (lv' := [(2, .ref (d1 0)), (1, .ref (d0 0)), (0, .ref b)]) dL_law_15 rfl (by decide) rfl ?_
  refine V_iconst hk dL_law_16 zc_iconst_1 ?_
  refine V_newJ hk (N := 1) wz_12 (by decide) (by decide +kernel) (Nat.le_of_ble_eq_true rfl) ⟨Nat.le_of_ble_eq_true rfl, Nat.le_of_ble_eq_true rfl⟩ dL_law_17 (fun q2 => ?_)
  refine V_astore_n hk (lv' := [(3, .ref q2), (2, .ref (d1 0)), (1, .ref (d0 0)), (0, .ref b)]) dL_law_19 rfl (by decide) rfl ?_
  refine V_iconst hk dL_law_20 zc_iconst_0 ?_
  refine V_istore hk (lv' := [(4, .int 0), (3, .ref q2), (2, .ref (d1 0)), (1, .ref (d0 0)), (0, .ref b)]) dL_law_21 (by decide) rfl ?_
  show V K 61 81350 23 [(4, .int 0), (3, .ref q2), (2, .ref (d1 0)), (1, .ref (d0 0)), (0, .ref b)] [] [((d0 0), .inr (6, [.ref (d0 1), .ref (d0 14), .ref (d0 17), .ref (d0 21), .ref (d0 26), .ref (d0 36)])), ((d0 1), .inl (eC (kZ K) 3, 4, .inr (.inr (.inr (.inr (va_up (va_up (va_up (va_up (fun _ => none) 0 (some (d0 2))) 1 (some (d0 5))) 2 (some (d0 8))) 3 (some (d0 11)))))))), ((d0 2), .inr (2, [.int 4, .ref (d0 3), .ref (d0 4)])), ((d0 3), .inl (eC (kZ K) 0, 8, .inl (fun _ => 0))), ((d0 4), .inl (eC (kZ K) 0, 8, .inl (fun _ => 0))), ((d0 5), .inr (2, [.int 4, .ref (d0 6), .ref (d0 7)])), ((d0 6), .inl (eC (kZ K) 0, 8, .inl (fun _ => 0))), ((d0 7), .inl (eC (kZ K) 0, 8, .inl (fun _ => 0))), ((d0 8), .inr (2, [.int 4, .ref (d0 9), .ref (d0 10)])), ((d0 9), .inl (eC (kZ K) 0, 8, .inl (fun _ => 0))), ((d0 10), .inl (eC (kZ K) 0, 8, .inl (fun _ => 0))), ((d0 11), .inr (2, [.int 4, .ref (d0 12), .ref (d0 13)])), ((d0 12), .inl (eC (kZ K) 0, 8, .inl (fun _ => 0))), ((d0 13), .inl (eC (kZ K) 0, 8, .inl (fun _ => 0))), ((d0 14), .inr (2, [.int 4, .ref (d0 15), .ref (d0 16)])), ((d0 15), .inl (eC (kZ K) 0, 8, .inl (fun _ => 0))), ((d0 16), .inl (eC (kZ K) 0, 8, .inl (fun _ => 0))), ((d0 17), .inr (5, [.int 0, .int 0, .ref (d0 18), .ref (d0 19), .ref (d0 20)])), ((d0 18), .inl (eC (kZ K) 0, 8, .inl (fun _ => 0))), ((d0 19), .inl (eC (kZ K) 0, 8, .inl (fun _ => 0))), ((d0 20), .inl (eC (kZ K) 1, 8, .inr (.inl (fun _ => 0)))), ((d0 21), .inr (0, [.int 0, .int 0, .int 0, .ref (d0 22), .ref (d0 23), .ref (d0 24), .ref (d0 25)])), ((d0 22), .inl (eC (kZ K) 0, 8, .inl (fun _ => 0))), ((d0 23), .inl (eC (kZ K) 0, 64, .inl (fun _ => 0))), ((d0 24), .inl (eC (kZ K) 0, 8, .inl (fun _ => 0))), ((d0 25), .inl (eC (kZ K) 0, 8, .inl (fun _ => 0))), ((d0 26), .inr (4, [.ref (d0 27), .ref (d0 28), .ref (d0 32)])), ((d0 27), .inl (eC (kZ K) 0, 8, .inl (fun _ => 0))), ((d0 28), .inr (5, [.int 0, .int 0, .ref (d0 29), .ref (d0 30), .ref (d0 31)])), ((d0 29), .inl (eC (kZ K) 0, 8, .inl (fun _ => 0))), ((d0 30), .inl (eC (kZ K) 0, 8, .inl (fun _ => 0))), ((d0 31), .inl (eC (kZ K) 1, 8, .inr (.inl (fun _ => 0)))), ((d0 32), .inr (5, [.int 0, .int 0, .ref (d0 33), .ref (d0 34), .ref (d0 35)])), ((d0 33), .inl (eC (kZ K) 0, 8, .inl (fun _ => 0))), ((d0 34), .inl (eC (kZ K) 0, 8, .inl (fun _ => 0))), ((d0 35), .inl (eC (kZ K) 1, 8, .inr (.inl (fun _ => 0)))), ((d0 36), .inr (3, [.int (gI τg 0 0), .ref (d0 37), .ref (d0 38), .ref (d0 42)])), ((d0 37), .inl (eC (kZ K) 1, 6, .inr (.inl (τg.2 1)))), ((d0 38), .inr (1, [.int (gI τg 2 0), .int (gI τg 2 1), .int (gI τg 2 2), .ref (d0 39), .ref (d0 40), .ref (d0 41)])), ((d0 39), .inl (eC (kZ K) 0, 8, .inl (τg.1 3))), ((d0 40), .inl (eC (kZ K) 1, 28, .inr (.inl (τg.2 4)))), ((d0 41), .inl (eC (kZ K) 1, 64, .inr (.inl (τg.2 5)))), ((d0 42), .inr (1, [.int (gI τg 6 0), .int (gI τg 6 1), .int (gI τg 6 2), .ref (d0 43), .ref (d0 44), .ref (d0 45)])), ((d0 43), .inl (eC (kZ K) 0, 8, .inl (τg.1 7))), ((d0 44), .inl (eC (kZ K) 1, 28, .inr (.inl (τg.2 8)))), ((d0 45), .inl (eC (kZ K) 1, 64, .inr (.inl (τg.2 9)))), ((d1 0), .inr (7, [.ref (d1 1), .ref (d1 2), .ref (d1 3), .ref (d1 4), .ref (d1 5), .ref (d1 6), .ref (d1 7), .ref (d1 8), .ref (d1 9), .int (gI τm 0 9), .ref (d1 10), .int (gI τm 0 11), .ref (d1 11), .ref (d1 12), .int (gI τm 0 14), .ref (d1 13), .int (gI τm 0 16)])), ((d1 1), .inl (eC (kZ K) 0, 4, .inl (τm.1 1))), ((d1 2), .inl (eC (kZ K) 0, 32, .inl (τm.1 2))), ((d1 3), .inl (eC (kZ K) 0, 32, .inl (τm.1 3))), ((d1 4), .inl (eC (kZ K) 0, 8, .inl (τm.1 4))), ((d1 5), .inl (eC (kZ K) 0, 8, .inl (τm.1 5))), ((d1 6), .inl (eC (kZ K) 0, 8, .inl (τm.1 6))), ((d1 7), .inl (eC (kZ K) 0, 8, .inl (τm.1 7))), ((d1 8), .inl (eC (kZ K) 0, 8, .inl (τm.1 8))), ((d1 9), .inl (eC (kZ K) 0, 8, .inl (τm.1 9))), ((d1 10), .inl (eC (kZ K) 0, 48, .inl (τm.1 10))), ((d1 11), .inl (eC (kZ K) 0, 40320, .inl (τm.1 11))), ((d1 12), .inl (eC (kZ K) 2, 40320, .inl (τm.1 12))), ((d1 13), .inl (eC (kZ K) 0, 8, .inl (τm.1 13))), (q2, .inl (eC (kZ K) 1, 1, .inr (.inl (fun _ => 0))))]
  refine V_swap (k := 1) (f' := fun k => some (law_ad d0 d1 q2 (2 + 3 * k))) rfl (fun j hj => by rcases (show j = 0 ∨ j = 1 ∨ j = 2 ∨ j = 3 by omega) with rfl | rfl | rfl | rfl <;> rfl) (ws' := law_ws τg τm (eC (kZ K)) d0 d1 q2) rfl ?_
  exact hgo d0 d1 q2
set_option maxRecDepth 100000 in
set_option maxHeartbeats 8000000 in
theorem law_world (τg τm : zST) (D : va_G) (cid : Nat → ClassId) (d0 d1 : Nat → Nat) (q2 : Nat) : law_ws τg τm cid d0 d1 q2 = wd (zAll D cid (law_ad d0 d1 q2)) (s1 τg τm) := by
  unfold wd
  rw [show List.range (eN (zAll D cid (law_ad d0 d1 q2))) = [0, 1, 2, 3, 4, 5, 6, 7, 8, 9, 10, 11, 12, 13, 14, 15, 16, 17, 18, 19, 20, 21, 22, 23, 24, 25, 26, 27, 28, 29, 30, 31, 32, 33, 34, 35, 36, 37, 38, 39, 40, 41, 42, 43, 44, 45, 46, 47, 48, 49, 50, 51, 52, 53, 54, 55, 56, 57, 58, 59, 60] from rfl]
  rfl
set_option maxHeartbeats 4000000 in
theorem law_classes {args : Array Value} {s : State} (hts : ∀ w ∈ lw_tbl, w.before args s = true) : ∃ (dC : Nat → ClassId) (dI : Nat → Nat → Nat), ∀ (k : Nat) (q : vw_C), vwCl[k]? = some q → u_Kn s q.1 q.2.1 q.2.2 (dC k) (dI k) := by
  obtain ⟨c0, i0, k0⟩ := u_known hts lin_cls.1 (hts _ ev_9)
  obtain ⟨c1, i1, k1⟩ := u_known hts lin_cls.2.1 (hts _ ev_10)
  obtain ⟨c2, i2, k2⟩ := u_known hts lin_cls.2.2.1 (hts _ ev_11)
  obtain ⟨c3, i3, k3⟩ := u_known hts lin_cls.2.2.2.1 (hts _ ev_12)
  obtain ⟨c4, i4, k4⟩ := u_known hts lin_cls.2.2.2.2.1 (hts _ ev_13)
  obtain ⟨c5, i5, k5⟩ := u_known hts lin_cls.2.2.2.2.2.1 (hts _ ev_14)
  obtain ⟨c6, i6, k6⟩ := u_known hts lin_cls.2.2.2.2.2.2.1 (hts _ ev_15)
  obtain ⟨c7, i7, k7⟩ := u_known hts lin_cls.2.2.2.2.2.2.2 (hts _ ev_16)
  refine ⟨fun k => ([c0, c1, c2, c3, c4, c5, c6, c7] : List ClassId).getD k c0, fun k => ([i0, i1, i2, i3, i4, i5, i6, i7] : List (Nat → Nat)).getD k i0, ?_⟩
  intro k q hq
  have hk8 : k < 8 := (List.getElem?_eq_some_iff.mp hq).1
  rcases (show k = 0 ∨ k = 1 ∨ k = 2 ∨ k = 3 ∨ k = 4 ∨ k = 5 ∨ k = 6 ∨ k = 7 by omega) with rfl | rfl | rfl | rfl | rfl | rfl | rfl | rfl
  · cases hq; exact k0
  · cases hq; exact k1
  · cases hq; exact k2
  · cases hq; exact k3
  · cases hq; exact k4
  · cases hq; exact k5
  · cases hq; exact k6
  · cases hq; exact k7
theorem law_arrays {args : Array Value} {s : State} (hts : ∀ w ∈ lw_tbl, w.before args s = true) : ∃ cid : Nat → ClassId, ∀ (k : Nat) (q : ClassId × FieldType), ([(cid 0, .int), (cid 1, .long), (cid 2, .boolean), (cid 3, .object "CanonCote$Graph")] : List (ClassId × FieldType))[k]? = some q → ArrOfT s q.1 q.2 ∧ va_RA s q.1 q.2 := by
  obtain ⟨a0, kA0, co0, f01, f02, f03⟩ := Cond.arrayClass_spec (hts _ ev_5)
  obtain ⟨a1, kA1, co1, f11, f12, f13⟩ := Cond.arrayClass_spec (hts _ ev_6)
  obtain ⟨a2, kA2, co2, f21, f22, f23⟩ := Cond.arrayClass_spec (hts _ ev_7)
  obtain ⟨co3, a3, kA3, f31, -, f32, f33, f34⟩ := Cond.arrayOver_spec (hts _ ev_8)
  refine ⟨fun k => ([a0, a1, a2, a3] : List ClassId).getD k a0, fun k q hq => ?_⟩
  have hk4 : k < 4 := (List.getElem?_eq_some_iff.mp hq).1
  rcases (show k = 0 ∨ k = 1 ∨ k = 2 ∨ k = 3 by omega) with rfl | rfl | rfl | rfl
  · cases hq; exact ⟨fun n z => ⟨fun k h => (by cases h), kA0, f02, co0, f03⟩, f01⟩
  · cases hq; exact ⟨fun n z => ⟨fun k h => (by cases h), kA1, f12, co1, f13⟩, f11⟩
  · cases hq; exact ⟨fun n z => ⟨fun k h => (by cases h), kA2, f22, co2, f23⟩, f21⟩
  · cases hq; exact ⟨fun n z => ⟨fun k h => (by cases h), kA3, f32, co3, f33⟩, kA3, co3, f32, f33, f31, f34⟩
theorem z0E_O (D : va_G) (cid : Nat → ClassId) (n : Nat) : OA (z0E D cid) n = fun q => n ≤ q := by
  funext q
  simp only [OA, z0E, eN, eA, eq_iff_iff]
  exact ⟨fun h => h.elim (fun ⟨p, hp, _⟩ => absurd hp (Nat.not_lt_zero p)) id, Or.inr⟩
theorem law_flags {l : Launch} (hflags : l.flags = flags0) : l.stackTraces = false := by unfold Launch.stackTraces; rw [hflags]; decide +kernel
/-- the loop, from the made world on -/
theorem law_go {p : Program} {e : Env} {s : State} {m : MethodId} {below : List Frame} {meth : Method} {c : Code} {l : Launch} (hfl : l.stackTraces = false) {b L : Nat} {xs : Nat → Int32} {D : va_G} {cid : Nat → ClassId} {ad : Nat → Nat} {F : Nat} {σ τ : zST} (hrun : m_L_law_23 F L xs 600 0 46 60 0 σ = some (1, τ))
    (hx : p.tables.exec = Jvm.exec) (hb : c.code = cL_law) (hr : meth.sig.returnType = some .boolean) (hml : c.maxLocals = 8) (hown : s.vm.findClass RL = some m.cls) (hwl : ∀ w ∈ wsL_law, w.before #[Value.ref b] s = true) (hX : va_X b L xs s s.heap) (hbl : b < s.heap.size) (hlocks : meth.locks = false) (hK : va_K D vwCl (eT (zAll D cid ad)) s) (hE : EF (fun q => s.heap.size ≤ q) s s.heap)
    {H : Heap} {locs : List Loc} {ls : Array Slot} (hP : va_P D vwCl (wd (zAll D cid ad) σ) H) (hD : va_D (fun q => s.heap.size ≤ q) (wd (zAll D cid ad) σ)) (hS : va_S (fun q => s.heap.size ≤ q) s.heap H locs) (hl : lv_has ls c.maxLocals [(0, .ref b), (1, .ref (ad 0)), (2, .ref (ad 46)), (3, .ref (ad 60)), (4, .int 0)]) : W p l e room_1 s m #[Value.ref b] below meth c H locs 61 81350 (lw_Z below #[Value.ref b] s) (F0 m 23 ls []) := by
  have hge : ∀ j, j < 61 → s.heap.size ≤ ad j := fun j hj => hD.2 j _ (wd_at (E := zAll D cid ad) hj)
  have hO : OA (zAll D cid ad) s.heap.size = fun q => s.heap.size ≤ q := by
    funext q
    simp only [OA, eq_iff_iff]
    constructor
    · rintro (⟨j, hj, rfl⟩ | h)
      · exact hge j hj
      · exact h
    · exact Or.inr
  rw [← hO] at hE hS
  have hk1 : zIs ⟨p, l, e, room_1, s, m, #[.ref b], below, meth, c, lw_Z below #[.ref b] s, zAll D cid ad⟩ RL cL_law 8 wsL_law (some .boolean) room_1 :=
    ⟨hx, hb, hml, hown, hwl, hr, rfl, hlocks, hK, zAll_L _ _ _, fun i j hi hj e => hD.1 i j _ _ (wd_at hi) (wd_at hj) e, hE⟩
  have hnb : ¬ OA (zAll D cid ad) s.heap.size b := by rw [hO]; exact Nat.not_le.mpr hbl
  have hnew : ∀ q, OA (zAll D cid ad) s.heap.size q → s.heap.size ≤ q := fun q hq => by rw [hO] at hq; exact hq
  exact w_L_law_23 (K := ⟨p, l, e, room_1, s, m, #[.ref b], below, meth, c, lw_Z below #[.ref b] s, zAll D cid ad⟩) (b := b) (L := L) (xs := xs) ⟨hX, hbl, hnb⟩ hk1 hfl (r0 := 1) (τ0 := τ) ⟨rfl, rfl, rfl, hnew⟩ F 600 61 81350 (Nat.le_of_ble_eq_true rfl) (Nat.le_of_ble_eq_true rfl) 0 46 60 0 (zAll_atCanonCote _ _ _) (zAll_atModel _ _ _) (zAll_atOut _ _ _) σ hrun H locs ls hP hS hl
theorem whole_by (hlaw : ∀ (L : Nat) (xs : Nat → Int32), L ≤ 2048 → ∃ (F : Nat) (τg τm τ : zST), m_X3_clear F 0 s0_Group = some τg ∧ m_X8_closes F 0 s0_CanonCoteModel = some τm ∧ m_L_law_23 F L xs 600 0 46 60 0 (s1 τg τm) = some (1, τ)) {p : Program} {e : Env} {s : State} {m : MethodId} {below : List Frame} {meth : Method} {c : Code} (l : Launch) (hflags : l.flags = flags0) {b L : Nat} {xs : Nat → Int32} (hL : L ≤ 2048) (C0 : lw_At p s m meth c b L xs) : W p l e room_1 s m #[Value.ref b] below meth c s.heap [] 0 0 (lw_Z below #[Value.ref b] s) (entryFrame m ([Value.ref b] : List Value).toArray 8) := by
  obtain ⟨hx, hb, hr, hml, hown, hts, hX, hbl, hlocks, hgv⟩ := C0
  obtain ⟨F, τg, τm, τ, hτg, hτm, hrun⟩ := hlaw L xs hL
  obtain ⟨dC, dI, hKn⟩ := law_classes hts
  obtain ⟨cid, hcid⟩ := law_arrays hts
  have hE : EF (fun q => s.heap.size ≤ q) s s.heap := EF_start hts hgv (fun a h => Nat.not_le.mpr h)
  have hl := lv_entry [.ref b] (n := 8) (Nat.le_of_ble_eq_true rfl)
  rw [lg_entry_eq]
  generalize (lg_sl [.ref b] ++ List.replicate (8 - (lg_sl [.ref b]).length) Slot.unset).toArray = ls at hl ⊢
  have hwl : ∀ w ∈ wsL_law, w.before #[Value.ref b] s = true := fun w hw => hts w (lin w hw)
  have hE2 : EF (OA (z0E (dC, dI) cid) s.heap.size) s s.heap := by rw [z0E_O]; exact hE
  have hk0 : zIs ⟨p, l, e, room_1, s, m, #[.ref b], below, meth, c, lw_Z below #[.ref b] s, z0E (dC, dI) cid⟩ RL cL_law 8 wsL_law (some .boolean) room_1 :=
    ⟨hx, hb, hml, hown, hwl, hr, rfl, hlocks, ⟨hKn, hcid⟩, fun _ _ _ _ _ => rfl, fun i j hi _ _ => absurd hi (Nat.not_lt_zero i), hE2⟩
  refine law_made (b := b) hτg hτm hk0 (va_AO.of (hts _ ev_8)) (fun d0 d1 q2 H locs ls hP hD hS hl => ?_) s.heap [] ls (fun k q h => by simp at h) ⟨fun i j p q h => (by simp at h), fun k q h => (by simp at h)⟩ va_S.rf (by show lv_has ls c.maxLocals _; rw [hml]; exact hl)
  have hD2 : va_D (OA (z0E (dC, dI) cid) s.heap.size) (law_ws τg τm cid d0 d1 q2) := hD
  have hS2 : va_S (OA (z0E (dC, dI) cid) s.heap.size) s.heap H locs := hS
  have hP2 : va_P (dC, dI) vwCl (law_ws τg τm cid d0 d1 q2) H := hP
  rw [z0E_O] at hD2 hS2
  rw [law_world τg τm (dC, dI) cid d0 d1 q2] at hD2 hP2
  exact law_go (law_flags hflags) hrun hx hb hr hml hown hwl hX hbl hlocks ⟨hKn, hcid⟩ hE hP2 hD2 hS2 (lv_sub hl [4, 3, 2, 1, 0] rfl)
