/-! GROWTH: a method that makes arrays works on a larger world, and leaves the old one; methods that read the script -/
section ZG0
/-- E' has E's cells, and more -/
def eX (E E' : zE) : Prop := eN E ≤ eN E' ∧ (∀ p, p < eN E → (∀ σ, eS E' p σ = eS E p σ) ∧ eA E' p = eA E p) ∧ eD E' = eD E ∧ eC E' = eC E
theorem eX.rf (E : zE) : eX E E := ⟨Nat.le_refl _, fun _ _ => ⟨fun _ => rfl, rfl⟩, rfl, rfl⟩
theorem eX.tr {E E' E'' : zE} (h : eX E E') (g : eX E' E'') : eX E E'' := ⟨Nat.le_trans h.1 g.1, fun p hp => ⟨fun σ => ((g.2.1 p (Nat.lt_of_lt_of_le hp h.1)).1 σ).trans ((h.2.1 p hp).1 σ), (g.2.1 p (Nat.lt_of_lt_of_le hp h.1)).2.trans (h.2.1 p hp).2⟩, g.2.2.1.trans h.2.2.1, g.2.2.2.trans h.2.2.2⟩
theorem eX.ad {E E' : zE} (h : eX E E') {p : Nat} (hp : p < eN E) : eA E' p = eA E p := (h.2.1 p hp).2
theorem eX.i {E E' : zE} (h : eX E E') {q n : Nat} (a : aI E q n) : aI E' q n := ⟨Nat.lt_of_lt_of_le a.1 h.1, fun σ => by rw [(h.2.1 q a.1).1 σ, a.2, h.2.2.2]⟩
theorem eX.j {E E' : zE} (h : eX E E') {q n : Nat} (a : aJ E q n) : aJ E' q n := ⟨Nat.lt_of_lt_of_le a.1 h.1, fun σ => by rw [(h.2.1 q a.1).1 σ, a.2, h.2.2.2]⟩
theorem eX.g {E E' : zE} (h : eX E E') {q p n : Nat} (a : aG E q p n) (hp : ∀ k, k < n → p + 3 * k < eN E) : aG E' q p n := by
  obtain ⟨h1, f, h2, h3⟩ := a
  exact ⟨Nat.lt_of_lt_of_le h1 h.1, f, fun σ => by rw [(h.2.1 q h1).1 σ, h2, h.2.2.2], fun k hk => by rw [h3 k hk, h.ad (hp k hk)]⟩
theorem eX.P {E E' : zE} (h : eX E E') {σ : zST} {H : Heap} (hP : va_P (eD E') vwCl (wd E' σ) H) : va_P (eD E) vwCl (wd E σ) H := by
  intro k q hq
  obtain ⟨hk, rfl⟩ := wd_of hq
  have := hP k (eA E' k, eS E' k σ) (wd_at (Nat.lt_of_lt_of_le hk h.1))
  rw [h.ad hk, (h.2.1 k hk).1, h.2.2.1] at this
  exact this
/-- what a method that made arrays leaves -/
def zQG (K : zK) (res : String ⊕ Option Value) (τ : zST) : Prop := ∃ E0, eX E0 (kZ K) ∧ OA E0 (kS K).heap.size = kO K ∧ kQ K = vx_MQ (kB K) (zRc E0 res τ (kS K).heap.size) (zTc E0 res τ (kS K).heap.size) (kA K) (kS K) (kR K).cells (kR K).slots (OA E0 (kS K).heap.size)
theorem zQG.of {K : zK} {res : String ⊕ Option Value} {τ : zST} (h : zQX K res τ) : zQG K res τ := ⟨kZ K, eX.rf _, rfl, h⟩
def clI (σ : zST) (p : Nat) : zST := (fun q => if q = p then fun _ => 0 else σ.1 q, σ.2)
def clL (σ : zST) (p : Nat) : zST := (σ.1, fun q => if q = p then fun _ => 0 else σ.2 q)
def zgE (E : zE) (a : Nat) (x : zST → va_E) : zE := (fun p σ => if p = eN E then x σ else eS E p σ, fun p => if p = eN E then a else eA E p, eN E + 1, eD E, eC E)
def zgK (K : zK) (E : zE) : zK := ⟨kP K, kL K, kE K, kR K, kS K, kM K, kA K, kB K, kH K, kC K, kQ K, E⟩
theorem zgE_X (E : zE) (a : Nat) (x : zST → va_E) : eX E (zgE E a x) := ⟨Nat.le_succ _, fun p hp => ⟨fun σ => if_neg (Nat.ne_of_lt hp), if_neg (Nat.ne_of_lt hp)⟩, rfl, rfl⟩
theorem zgE_wd {E : zE} (hL : eL E) (a : Nat) (x : zST → va_E) {σ τ : zST} (hq : ∀ q, q ≠ eN E → σ.1 q = τ.1 q ∧ σ.2 q = τ.2 q) : wd (zgE E a x) τ = wd E σ ++ [(a, x τ)] := by
  show (List.range (eN E + 1)).map (fun p => (eA (zgE E a x) p, eS (zgE E a x) p τ)) = _
  rw [List.range_succ, List.map_append]
  have h1 : (List.range (eN E)).map (fun p => (eA (zgE E a x) p, eS (zgE E a x) p τ)) = wd E σ := List.map_congr_left fun p hp => by
    have hp' := List.mem_range.mp hp
    have hne := Nat.ne_of_lt hp'
    rw [(zgE_X E a x).ad hp', ((zgE_X E a x).2.1 p hp').1, hL p σ τ (hq p hne).1 (hq p hne).2]
  have h2 : [eN E].map (fun p => (eA (zgE E a x) p, eS (zgE E a x) p τ)) = [(a, x τ)] := by
    show [((if eN E = eN E then a else eA E (eN E)), (if eN E = eN E then x τ else eS E (eN E) τ))] = _
    rw [if_pos rfl, if_pos rfl]
  rw [h1, h2]
theorem zgE_O {E : zE} {a sz : Nat} {x : zST → va_E} (ha : OA E sz a) : OA (zgE E a x) sz = OA E sz := by
  funext q
  refine propext ⟨?_, ?_⟩
  · rintro (⟨p, hp, rfl⟩ | h)
    · have hp' : p < eN E + 1 := hp
      by_cases e : p = eN E
      · show OA E sz (if p = eN E then a else eA E p)
        rw [if_pos e]; exact ha
      · have hlt : p < eN E := by omega
        rw [(zgE_X E a x).ad hlt]
        exact Or.inl ⟨p, hlt, rfl⟩
    · exact Or.inr h
  · rintro (⟨p, hp, rfl⟩ | h)
    · exact Or.inl ⟨p, Nat.lt_succ_of_lt hp, ((zgE_X E a x).ad hp).symm⟩
    · exact Or.inr h
theorem zgE_J {E : zE} {a : Nat} {x : zST → va_E} (hJ : eJ E) (ha : ∀ p, p < eN E → eA E p ≠ a) : eJ (zgE E a x) := by
  intro i j hi hj h
  have hi' : i < eN E + 1 := hi
  have hj' : j < eN E + 1 := hj
  have h' : (if i = eN E then a else eA E i) = (if j = eN E then a else eA E j) := h
  by_cases ei : i = eN E <;> by_cases ej : j = eN E
  · omega
  · rw [if_pos ei, if_neg ej] at h'
    exact absurd h'.symm (ha j (by omega))
  · rw [if_neg ei, if_pos ej] at h'
    exact absurd h' (ha i (by omega))
  · rw [if_neg ei, if_neg ej] at h'
    exact hJ i j (by omega) (by omega) h'
theorem zgE_L {E : zE} {a : Nat} {x : zST → va_E} (hL : eL E) (hx : ∀ σ τ : zST, σ.1 (eN E) = τ.1 (eN E) → σ.2 (eN E) = τ.2 (eN E) → x σ = x τ) : eL (zgE E a x) := by
  intro p σ τ h1 h2
  show (if p = eN E then x σ else eS E p σ) = (if p = eN E then x τ else eS E p τ)
  by_cases e : p = eN E
  · rw [if_pos e, if_pos e]; subst e; exact hx σ τ h1 h2
  · rw [if_neg e, if_neg e]; exact hL p σ τ h1 h2
theorem clI_off {σ : zST} {p : Nat} : ∀ q, q ≠ p → σ.1 q = (clI σ p).1 q ∧ σ.2 q = (clI σ p).2 q := fun q h => ⟨by simp [clI, h], rfl⟩
theorem clL_off {σ : zST} {p : Nat} : ∀ q, q ≠ p → σ.1 q = (clL σ p).1 q ∧ σ.2 q = (clL σ p).2 q := fun q h => ⟨rfl, by simp [clL, h]⟩
theorem clI_at {σ : zST} {p : Nat} : (clI σ p).1 p = fun _ => 0 := by simp [clI]
theorem clL_at {σ : zST} {p : Nat} : (clL σ p).2 p = fun _ => 0 := by simp [clL]
-- a call that may throw, and doesn't
def br {α β : Type} (a : Option (zX α × zST)) (k : α → zST → Option β) : Option β := match a with
  | some (.inr x, σ) => k x σ
  | _ => none
theorem br_ok {α β : Type} {a : Option (zX α × zST)} {k : α → zST → Option β} {r : β} (h : br a k = some r) : ∃ x τ, a = some (.inr x, τ) ∧ k x τ = some r := by
  cases a with
  | none => cases h
  | some z =>
    obtain ⟨y, τ⟩ := z
    cases y with
    | inl e => cases h
    | inr x => exact ⟨x, τ, rfl, h⟩
/-- the script, beside the world -/
def zSc (K : zK) (b L : Nat) (xs : Nat → Int32) : Prop := va_X b L xs (kS K) (kS K).heap ∧ b < (kS K).heap.size ∧ ¬ kO K b
def zPcS (E : zE) (as : List Value) (σ : zST) (sz b L : Nat) (xs : Nat → Int32) : Array Value → State → Prop := va_Pc as (fun U => U.heap.size = sz ∧ va_P (eD E) vwCl (wd E σ) U.heap ∧ va_K (eD E) vwCl (eT E) U ∧ EF (OA E sz) U U.heap ∧ (va_X b L xs U U.heap ∧ b < U.heap.size ∧ ¬ OA E sz b) ∧ va_AO "CanonCote$Graph" U)
def CtS (l : Launch) (y : MethodName) (ws : List Cond) (rm : Room) (E : zE) (as : List Value) (σ : zST) (res : String ⊕ Option Value) (τ : zST) (b L : Nat) (xs : Nat → Int32) : Prop :=
  ∀ sz : Nat, vx_Met l y ws rm (zPcS E as σ sz b L xs) (zRc E res τ sz) (zTc E res τ sz) rm.cells rm.slots (OA E sz)
theorem CtS_of {l : Launch} {y : MethodName} {ws ws' : List Cond} {rm : Room} {E : zE} {as : List Value} {σ τ : zST} {res : String ⊕ Option Value} {cc : ByteArray} {maxL : Nat} {ret : Option FieldType} {b L : Nat} {xs : Nat → Int32} (hy : plainName y.cls = true) (hw : ws = Cond.code y cc maxL ret :: ws') (hL : eL E) (hJ : eJ E) (hn : (lg_sl as).length ≤ maxL)
    (body : ∀ K : zK, kZ K = E → kL K = l → zIs K y.cls cc maxL ws ret rm → zNX K → zSc K b L xs → va_AO "CanonCote$Graph" (kS K) → zQX K res τ → Z K 0 0 0 (lv_args 0 as) [] σ) : CtS l y ws rm E as σ res τ b L xs := by
  intro sz
  refine vx_ofW (cc := cc) (maxL := maxL) (ret := ret) hy hw ?_
  intro p e s m args below meth c s₁ B hml hnx hv
  obtain ⟨rfl, hsz, hP, hK, hE, hsc, hao⟩ := hv
  subst hsz
  have hl := lv_entry as (n := maxL) hn
  rw [lg_entry_eq]
  generalize (lg_sl as ++ List.replicate (maxL - (lg_sl as).length) Slot.unset).toArray = ls at hl ⊢
  exact body ⟨p, l, e, rm, s, m, as.toArray, below, meth, c, vx_MQ below (zRc E res τ s.heap.size) (zTc E res τ s.heap.size) as.toArray s rm.cells rm.slots (OA E s.heap.size), E⟩ rfl rfl
    ⟨B.exec, B.bytes, hml, findClass_of_methodNamed B.named, atoms_spec (ws := ws) B.pre, B.returns, rfl, B.notSynchronized, hK, hL, hJ, hE⟩ hnx hsc hao rfl s.heap [] ls hP va_S.rf (by show lv_has ls c.maxLocals _; rw [hml]; exact hl)
theorem CtS_ofH {l : Launch} {y : MethodName} {ws ws' : List Cond} {rm : Room} {E : zE} {as : List Value} {σ τ : zST} {res : String ⊕ Option Value} {cc : ByteArray} {maxL : Nat} {ret : Option FieldType} {hh : List (Nat × Nat × Nat × Nat)} {b L : Nat} {xs : Nat → Int32} (hy : plainName y.cls = true) (hw : ws = Cond.codeWith y cc maxL ret hh :: ws') (hL : eL E) (hJ : eJ E) (hn : (lg_sl as).length ≤ maxL)
    (body : ∀ K : zK, kZ K = E → kL K = l → zIs K y.cls cc maxL ws ret rm → zSc K b L xs → va_AO "CanonCote$Graph" (kS K) → zQX K res τ → Z K 0 0 0 (lv_args 0 as) [] σ) : CtS l y ws rm E as σ res τ b L xs := by
  intro sz
  refine vx_ofWH (cc := cc) (maxL := maxL) (ret := ret) (hh := hh) hy hw ?_
  intro p e s m args below meth c s₁ B hml hv
  obtain ⟨rfl, hsz, hP, hK, hE, hsc, hao⟩ := hv
  subst hsz
  have hl := lv_entry as (n := maxL) hn
  rw [lg_entry_eq]
  generalize (lg_sl as ++ List.replicate (maxL - (lg_sl as).length) Slot.unset).toArray = ls at hl ⊢
  exact body ⟨p, l, e, rm, s, m, as.toArray, below, meth, c, vx_MQ below (zRc E res τ s.heap.size) (zTc E res τ s.heap.size) as.toArray s rm.cells rm.slots (OA E s.heap.size), E⟩ rfl rfl
    ⟨B.exec, B.bytes, hml, findClass_of_methodNamed B.named, atoms_spec (ws := ws) B.pre, B.returns, rfl, B.notSynchronized, hK, hL, hJ, hE⟩ hsc hao rfl s.heap [] ls hP va_S.rf (by show lv_has ls c.maxLocals _; rw [hml]; exact hl)
theorem zPcS_blind {E : zE} {as : List Value} {σ : zST} {sz b L : Nat} {xs : Nat → Int32} : FrameBlind (zPcS E as σ sz b L xs) := by
  intro a U g mk h
  obtain ⟨h1, h2, h3, h4, h5, ⟨h6, h7, h8⟩, h9⟩ := h
  exact ⟨h1, h2, h3, va_K.moved (u := U) (U := U.calling g mk a) (Vm.Alike.refl U.vm) h4, EF.same (u := U) (U := U.calling g mk a) rfl h5, ⟨va_X.moved (u := U) (U := U.calling g mk a) (Vm.Alike.refl U.vm) h6, h7, h8⟩, va_AO.moved (u := U) (U := U.calling g mk a) (Vm.Alike.refl U.vm) h9⟩
end ZG0
section ZG1
variable {K : zK} {own : String} {cc : ByteArray} {nL : Nat} {Ts : List Cond} {ret : Option FieldType} {rm : Room} {cs ss pc : Nat} {lv lv' : List (Nat × Value)} {st : List Value} {σ τ : zST}
theorem Z_grow (hk : zIs K own cc nL Ts ret rm) {p a : Nat} (hw : eN (kZ K) = p) {x : zST → va_E} {τ : zST} (hx : ∀ s t : zST, s.1 p = t.1 p → s.2 p = t.2 p → x s = x t) (hq : ∀ q, q ≠ p → σ.1 q = τ.1 q ∧ σ.2 q = τ.2 q) {H : Heap} {locs : List Loc} {ls : Array Slot}
    (hP : va_P (eD (kZ K)) vwCl (wd (kZ K) σ ++ [(a, x τ)]) H) (hD : va_D (kO K) (wd (kZ K) σ ++ [(a, x τ)])) (hS : va_S (kO K) (kS K).heap H locs) (hl : lv_has ls (kC K).maxLocals lv)
    (kk : ∀ K' : zK, zIs K' own cc nL Ts ret rm → eX (kZ K) (kZ K') → eN (kZ K') = p + 1 → (∀ s, eS (kZ K') p s = x s) → eA (kZ K') p = a → kL K' = kL K → (zNX K → zNX K') → (∀ res t, zQG K res t → zQG K' res t) → Z K' cs ss pc lv st τ) : kW K H locs cs ss (F0 (kM K) pc ls st) := by
  subst hw
  have hlast : (wd (kZ K) σ ++ [(a, x τ)])[(wd (kZ K) σ).length]? = some (a, x τ) := by simp
  have ha : OA (kZ K) (kS K).heap.size a := hD.2 _ _ hlast
  have hO : OA (zgE (kZ K) a x) (kS K).heap.size = kO K := zgE_O ha
  have hne : ∀ p, p < eN (kZ K) → eA (kZ K) p ≠ a := by
    intro p hp e
    have h1 : (wd (kZ K) σ ++ [(a, x τ)])[p]? = some (eA (kZ K) p, eS (kZ K) p σ) := by
      rw [List.getElem?_append_left (by rw [wd_len]; exact hp)]
      exact wd_at hp
    have := hD.1 _ _ _ _ h1 hlast e
    rw [wd_len] at this
    omega
  have hk' : zIs (zgK K (zgE (kZ K) a x)) own cc nL Ts ret rm :=
    ⟨hk.exec, hk.code, hk.maxl, hk.ow, hk.wd, hk.rt, hk.room, hk.nolock, hk.cls, zgE_L hk.loc hx, zgE_J hk.inj hne, by
      have := hk.env
      rw [← hO] at this
      exact this⟩
  refine kk (zgK K (zgE (kZ K) a x)) hk' (zgE_X _ _ _) rfl (fun s => if_pos rfl) (if_pos rfl) rfl (fun h => h) (fun res t h => ?_) H locs ls ?_ ?_ hl
  · obtain ⟨E0, h1, h2, h3⟩ := h
    exact ⟨E0, h1.tr (zgE_X _ _ _), h2.trans hO.symm, h3⟩
  · show va_P (eD (kZ K)) vwCl (wd (zgE (kZ K) a x) τ) H
    rw [zgE_wd hk.loc a x hq]
    exact hP
  · show va_S (OA (zgE (kZ K) a x) (kS K).heap.size) (kS K).heap H locs
    rw [hO]
    exact hS
theorem Z_newI (hk : zIs K own cc nL Ts ret rm) {p : Nat} (hw : eN (kZ K) = p) {n : Int32} {N : Nat} (hwd : Cond.arrayClass .int ∈ Ts) (hn : ¬ n < 0) (hN : n.toNatClampNeg = N) (hb : N ≤ 100000) (hR : cs + 1 ≤ rm.cells ∧ ss + N ≤ rm.slots) (d : decode cc pc = .ok (.newarray .int, 2))
    (kk : ∀ K' : zK, zIs K' own cc nL Ts ret rm → eX (kZ K) (kZ K') → eN (kZ K') = p + 1 → aI (kZ K') p N → kL K' = kL K → (zNX K → zNX K') → (∀ res t, zQG K res t → zQG K' res t) → Z K' (cs + 1) (ss + N) (pc + 2) lv (.ref (eA (kZ K') p) :: st) (clI σ p)) : Z K cs ss pc lv (.int n :: st) σ :=
  fun H locs ls hP hS hl => va_newa (atype := .int) (a0 := (N, .inl (fun _ => 0))) hk.exec hk.code (hk.wd _ hwd) rfl hk.cls hP (wd_D hk.inj) hS (fun q h => Or.inr h) (fun cA => rfl) hn hN (by show N * 4 ≤ _; omega) (by rw [hk.room]; exact hR.1) (by rw [hk.room]; exact hR.2) d (fun q cA H1 hK1 hP1 hD1 hS1 => by
    have e := eC_same hK1 (i := 4) (j := 0) rfl rfl
    subst e
    refine Z_grow hk hw (a := q) (x := fun s => .inl (eC (kZ K) 0, N, .inl (s.1 p))) (σ := σ) (τ := clI σ p) (fun s t h1 _ => by rw [h1]) clI_off (by rw [clI_at]; exact hP1) (by rw [clI_at]; exact hD1) hS1 hl (fun K' hk' hX hN' hs ha hl' hnx hq => ?_)
    have := kk K' hk' hX hN' ⟨by rw [hN']; exact Nat.lt_succ_self _, fun s => by rw [hs, hX.2.2.2]⟩ hl' hnx hq
    rw [ha] at this
    exact this)
theorem Z_newJ (hk : zIs K own cc nL Ts ret rm) {p : Nat} (hw : eN (kZ K) = p) {n : Int32} {N : Nat} (hwd : Cond.arrayClass .long ∈ Ts) (hn : ¬ n < 0) (hN : n.toNatClampNeg = N) (hb : N ≤ 100000) (hR : cs + 1 ≤ rm.cells ∧ ss + N ≤ rm.slots) (d : decode cc pc = .ok (.newarray .long, 2))
    (kk : ∀ K' : zK, zIs K' own cc nL Ts ret rm → eX (kZ K) (kZ K') → eN (kZ K') = p + 1 → aJ (kZ K') p N → kL K' = kL K → (zNX K → zNX K') → (∀ res t, zQG K res t → zQG K' res t) → Z K' (cs + 1) (ss + N) (pc + 2) lv (.ref (eA (kZ K') p) :: st) (clL σ p)) : Z K cs ss pc lv (.int n :: st) σ :=
  fun H locs ls hP hS hl => va_newa (atype := .long) (a0 := (N, .inr (.inl (fun _ => 0)))) hk.exec hk.code (hk.wd _ hwd) rfl hk.cls hP (wd_D hk.inj) hS (fun q h => Or.inr h) (fun cA => rfl) hn hN (by show N * 8 ≤ _; omega) (by rw [hk.room]; exact hR.1) (by rw [hk.room]; exact hR.2) d (fun q cA H1 hK1 hP1 hD1 hS1 => by
    have e := eC_same hK1 (i := 4) (j := 1) rfl rfl
    subst e
    refine Z_grow hk hw (a := q) (x := fun s => .inl (eC (kZ K) 1, N, .inr (.inl (s.2 p)))) (σ := σ) (τ := clL σ p) (fun s t _ h2 => by rw [h2]) clL_off (by rw [clL_at]; exact hP1) (by rw [clL_at]; exact hD1) hS1 hl (fun K' hk' hX hN' hs ha hl' hnx hq => ?_)
    have := kk K' hk' hX hN' ⟨by rw [hN']; exact Nat.lt_succ_self _, fun s => by rw [hs, hX.2.2.2]⟩ hl' hnx hq
    rw [ha] at this
    exact this)
-- ends
theorem ZG_iret (hk : zIs K own cc nL Ts (some .int) rm) {x : Int32} (hq : zQG K (.inr (some (.int x))) σ) (hc : cs ≤ rm.cells ∧ ss ≤ rm.slots) (d : decode cc pc = .ok (.ireturn, 1)) : Z K cs ss pc lv [.int x] σ := by
  intro H locs ls hP hS hl
  obtain ⟨E0, hX, hO, hQ⟩ := hq
  rw [hO] at hQ
  unfold kW
  rw [hQ]
  exact W.widen (by rw [hk.room]; exact hc.1) (by rw [hk.room]; exact hc.2) (vx_ret (W.iret hk.exec hk.code hk.rt (fun t ht hW => ⟨⟨_, rfl, rfl⟩, by rw [ht]; exact hX.P hP, hO ▸ hS.F ht⟩) hS.2.2 d hk.nolock))
theorem ZG_zret (hk : zIs K own cc nL Ts (some .boolean) rm) {x : Int32} (hx : x = 0 ∨ x = 1) (hq : zQG K (.inr (some (.int x))) σ) (hc : cs ≤ rm.cells ∧ ss ≤ rm.slots) (d : decode cc pc = .ok (.ireturn, 1)) : Z K cs ss pc lv [.int x] σ := by
  intro H locs ls hP hS hl
  obtain ⟨E0, hX, hO, hQ⟩ := hq
  rw [hO] at hQ
  unfold kW
  rw [hQ]
  exact W.widen (by rw [hk.room]; exact hc.1) (by rw [hk.room]; exact hc.2) (vx_ret (W.zret hk.exec hk.code hk.rt (by rcases hx with rfl | rfl <;> rfl) (fun t ht hW => ⟨⟨_, rfl, rfl⟩, by rw [ht]; exact hX.P hP, hO ▸ hS.F ht⟩) hS.2.2 d hk.nolock))
theorem ZG_lret (hk : zIs K own cc nL Ts (some .long) rm) {x : Int64} (hq : zQG K (.inr (some (.long x))) σ) (hc : cs ≤ rm.cells ∧ ss ≤ rm.slots) (d : decode cc pc = .ok (.lreturn, 1)) : Z K cs ss pc lv [.long x] σ := by
  intro H locs ls hP hS hl
  obtain ⟨E0, hX, hO, hQ⟩ := hq
  rw [hO] at hQ
  unfold kW
  rw [hQ]
  exact W.widen (by rw [hk.room]; exact hc.1) (by rw [hk.room]; exact hc.2) (vx_ret (W.lret hk.exec hk.code hk.rt (fun t ht hW => ⟨⟨_, rfl, rfl⟩, by rw [ht]; exact hX.P hP, hO ▸ hS.F ht⟩) hS.2.2 d hk.nolock))
-- the script
theorem Z_sld (hk : zIs K own cc nL Ts ret rm) {b L : Nat} {xs : Nat → Int32} {i : Int32} (hsc : zSc K b L xs) (hin : vp_in i L) (d : decode cc pc = .ok (.iaload, 1)) (kk : Z K cs ss (pc + 1) lv (.int (xs i.toNatClampNeg) :: st) σ) : Z K cs ss pc lv (.int i :: .ref b :: st) σ :=
  fun H locs ls hP hS hl => va_sld hk.exec hk.code hsc.1 hsc.2.1 hsc.2.2 hS hin d (kk H locs ls hP hS hl)
theorem Z_slen (hk : zIs K own cc nL Ts ret rm) {b L : Nat} {xs : Nat → Int32} (hsc : zSc K b L xs) (d : decode cc pc = .ok (.arraylength, 1)) (kk : Z K cs ss (pc + 1) lv (.int (nI L) :: st) σ) : Z K cs ss pc lv (.ref b :: st) σ :=
  fun H locs ls hP hS hl => va_slen hk.exec hk.code hsc.1 hsc.2.1 hsc.2.2 hS d (kk H locs ls hP hS hl)
theorem Z_preS (hk : zIs K own cc nL Ts ret rm) {b L : Nat} {xs : Nat → Int32} (hsc : zSc K b L xs) (hao : va_AO "CanonCote$Graph" (kS K)) {H : Heap} {locs : List Loc} (hP : va_P (eD (kZ K)) vwCl (wd (kZ K) σ) H) (hS : va_S (kO K) (kS K).heap H locs) (as : List Value) : ∀ U : State, U.heap = H → (kS K).WarmedH U.vm → zPcS (kZ K) as σ H.size b L xs as.toArray U := by
  intro U hU hW
  refine ⟨rfl, by rw [hU], by rw [hU]; exact hP, va_K.moved hW.alike hk.cls, EF.step hk.env (fun a h1 h2 => hS.2.1 a h1 h2) (OA_mono hS.1) hU hW, ⟨?_, by rw [hU]; exact Nat.lt_of_lt_of_le hsc.2.1 hS.1, fun h => hsc.2.2 (OA_mono hS.1 b h)⟩, va_AO.moved hW.alike hao⟩
  rw [hU]
  exact va_X.moved hW.alike (hsc.1.kept (hS.2.1 b hsc.2.1 hsc.2.2))
variable {y : MethodName} {wsc ws' : List Cond} {rmc : Room} {bytes : ByteArray} {maxL ix q : Nat} {retc : Option FieldType} {stk : List Value} {res : String ⊕ Option Value}
theorem ZS_callT (n : Nat) (hk : zIs K own cc nL Ts ret rm) {b L : Nat} {xs : Nat → Int32} (hsc : zSc K b L xs) (hao : va_AO "CanonCote$Graph" (kS K)) (as : List Value) (hc : CtS (kL K) y wsc rmc (kZ K) as σ res τ b L xs) (hT : GoodIn Ts (va_wsS own ix y wsc)) (hw : wsc = Cond.code y bytes maxL retc :: ws') (hd : y.cls ≠ "java/lang/invoke/MethodHandle" ∧ y.cls ≠ "java/lang/invoke/VarHandle" ∧ (parseMethodDescriptor y.desc).map (fun d => d.parameters.length) = some n) (hR : rmc.frames + 1 ≤ rm.frames ∧ 8 + (maxL + 11) + rmc.locals ≤ rm.locals)
    (hn : as.length = n) (hstk : stk = as.reverse ++ st) (hW : (st.map fun v => v.category).sum ≤ 8) (hcs : cs + rmc.cells ≤ rm.cells ∧ ss + rmc.slots ≤ rm.slots) (d : decode cc pc = .ok (.invokestatic ix, 3))
    (kx : ∀ X, res = .inl X → Y K (cs + rmc.cells) (ss + rmc.slots) pc lv st τ X) (kk : ∀ v, res = .inr v → Z K (cs + rmc.cells) (ss + rmc.slots) (pc + 3) lv (v.toList ++ st) τ) : Z K cs ss pc lv stk σ := by
  intro H locs ls hP hS hl
  subst hstk
  exact ZX_go (vx_runS (As := as) (rest := st) ⟨hk.exec, hk.code, hk.maxl, hk.ow, hk.wd⟩ (hc H.size) (va_cwS n hk.wd hT hw rfl rfl hd (by rw [hk.room]; exact hR)) ⟨zPcS_blind, Z_preS hk hsc hao hP hS _⟩ rfl hn (hl.1.trans hk.maxl) rfl (lv_room hW) d (by rw [hk.room]; exact hcs)) hS hl kx kk
theorem ZS_callW (n : Nat) (hk : zIs K own cc nL Ts ret rm) {hh : List (Nat × Nat × Nat × Nat)} {b L : Nat} {xs : Nat → Int32} (hsc : zSc K b L xs) (hao : va_AO "CanonCote$Graph" (kS K)) (as : List Value) (hc : CtS (kL K) y wsc rmc (kZ K) as σ res τ b L xs) (hT : GoodIn Ts (va_wsS own ix y wsc)) (hw : wsc = Cond.codeWith y bytes maxL retc hh :: ws') (hd : y.cls ≠ "java/lang/invoke/MethodHandle" ∧ y.cls ≠ "java/lang/invoke/VarHandle" ∧ (parseMethodDescriptor y.desc).map (fun d => d.parameters.length) = some n) (hR : rmc.frames + 1 ≤ rm.frames ∧ 8 + (maxL + 11) + rmc.locals ≤ rm.locals)
    (hn : as.length = n) (hstk : stk = as.reverse ++ st) (hW : (st.map fun v => v.category).sum ≤ 8) (hcs : cs + rmc.cells ≤ rm.cells ∧ ss + rmc.slots ≤ rm.slots) (d : decode cc pc = .ok (.invokestatic ix, 3))
    (kx : ∀ X, res = .inl X → Y K (cs + rmc.cells) (ss + rmc.slots) pc lv st τ X) (kk : ∀ v, res = .inr v → Z K (cs + rmc.cells) (ss + rmc.slots) (pc + 3) lv (v.toList ++ st) τ) : Z K cs ss pc lv stk σ := by
  intro H locs ls hP hS hl
  subst hstk
  exact ZX_go (vx_runSX (As := as) (rest := st) ⟨hk.exec, hk.code, hk.maxl, hk.ow, hk.wd⟩ (hc H.size) (vx_cwSW n hk.wd hT hw rfl rfl hd (by rw [hk.room]; exact hR)) ⟨zPcS_blind, Z_preS hk hsc hao hP hS _⟩ rfl hn (hl.1.trans hk.maxl) rfl (lv_room hW) d (by rw [hk.room]; exact hcs)) hS hl kx kk
end ZG1
section ZG2
theorem eX.atGraph {E E' : zE} (h : eX E E') {p : Nat} (a : atGraph E p) : atGraph E' p := ⟨⟨Nat.lt_of_lt_of_le a.cell.1 h.1, fun σ => by rw [(h.2.1 p a.cell.1).1 σ, a.cell.2 σ, h.ad a.near.1, h.ad a.colours.1]⟩, h.i a.near, h.i a.colours⟩
theorem eX.atRefinement {E E' : zE} (h : eX E E') {p : Nat} (a : atRefinement E p) : atRefinement E' p := ⟨⟨Nat.lt_of_lt_of_le a.cell.1 h.1, fun σ => by rw [(h.2.1 p a.cell.1).1 σ, a.cell.2 σ, h.ad a.numbers.1, h.ad a.members.1, h.ad a.keys.1]⟩, h.i a.numbers, h.i a.members, h.j a.keys⟩
theorem eX.atArranging {E E' : zE} (h : eX E E') {p : Nat} (a : atArranging E p) : atArranging E' p := ⟨⟨Nat.lt_of_lt_of_le a.cell.1 h.1, fun σ => by rw [(h.2.1 p a.cell.1).1 σ, a.cell.2 σ, h.ad a.twins.1, h.ad a.cells.1, h.ad a.vertexAt.1, h.ad a.seenAt.1]⟩, h.i a.twins, h.i a.cells, h.i a.vertexAt, h.i a.seenAt⟩
theorem eX.atChain {E E' : zE} (h : eX E E') {p : Nat} (a : atChain E p) : atChain E' p := ⟨⟨Nat.lt_of_lt_of_le a.cell.1 h.1, fun σ => by rw [(h.2.1 p a.cell.1).1 σ, a.cell.2 σ, h.ad a.base.1, h.ad a.kept.1, h.ad a.back.1]⟩, h.i a.base, h.j a.kept, h.j a.back⟩
theorem eX.atMapping {E E' : zE} (h : eX E E') {p : Nat} (a : atMapping E p) : atMapping E' p := ⟨⟨Nat.lt_of_lt_of_le a.cell.1 h.1, fun σ => by rw [(h.2.1 p a.cell.1).1 σ, a.cell.2 σ, h.ad a.images.1, h.ad a.classesHere.cell.1, h.ad a.classesThere.cell.1]⟩, h.i a.images, h.atRefinement a.classesHere, h.atRefinement a.classesThere⟩
theorem eX.atGroup {E E' : zE} (h : eX E E') {p : Nat} (a : atGroup E p) : atGroup E' p := ⟨⟨Nat.lt_of_lt_of_le a.cell.1 h.1, fun σ => by rw [(h.2.1 p a.cell.1).1 σ, a.cell.2 σ, h.ad a.generators.1, h.ad a.chain.cell.1, h.ad a.fixingChain.cell.1]⟩, h.j a.generators, h.atChain a.chain, h.atChain a.fixingChain⟩
theorem eX.atCanonCote {E E' : zE} (h : eX E E') {p : Nat} (a : atCanonCote E p) : atCanonCote E' p := ⟨⟨Nat.lt_of_lt_of_le a.cell.1 h.1, fun σ => by rw [(h.2.1 p a.cell.1).1 σ, a.cell.2 σ, h.ad a.graphs.1, h.ad a.chosen.cell.1, h.ad a.refinement.cell.1, h.ad a.arranging.cell.1, h.ad a.mapping.cell.1, h.ad a.group.cell.1]⟩, h.g a.graphs (fun k hk => (a.graph k hk).cell.1), h.atGraph a.chosen, h.atRefinement a.refinement, h.atArranging a.arranging, h.atMapping a.mapping, h.atGroup a.group, fun k hk => h.atGraph (a.graph k hk)⟩
end ZG2
