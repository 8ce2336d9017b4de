/-! THE STORE MODEL: a world of N cells at addresses eA E 0 .. N-1; what the cells hold is read off a store of numbers; rows that turn the kit's W into a judgement Z on (pc, locals, stack, store). -/
section ZB
abbrev zST : Type := (Nat → Nat → Int32) × (Nat → Nat → Int64)
def gI (σ : zST) (p j : Nat) : Int32 := σ.1 p j
def gL (σ : zST) (p j : Nat) : Int64 := σ.2 p j
def sI (σ : zST) (p j : Nat) (x : Int32) : zST := (fun q => if q = p then upd (σ.1 q) j x else σ.1 q, σ.2)
def sL (σ : zST) (p j : Nat) (x : Int64) : zST := (σ.1, fun q => if q = p then vp_updL (σ.2 q) j x else σ.2 q)
abbrev zE : Type := (Nat → zST → va_E) × (Nat → Nat) × Nat × va_G × (Nat → ClassId)
def eS (E : zE) : Nat → zST → va_E := E.1
def eA (E : zE) : Nat → Nat := E.2.1
def eN (E : zE) : Nat := E.2.2.1
def eD (E : zE) : va_G := E.2.2.2.1
def eC (E : zE) : Nat → ClassId := E.2.2.2.2
def eT (E : zE) : List (ClassId × FieldType) := [(eC E 0, .int), (eC E 1, .long), (eC E 2, .int), (eC E 3, .object "CanonCote$Graph")]
def wd (E : zE) (σ : zST) : va_W := (List.range (eN E)).map (fun p => (eA E p, eS E p σ))
/-- a cell's contents are read off its own rows of the store alone -/
def eL (E : zE) : Prop := ∀ (p : Nat) (σ τ : zST), σ.1 p = τ.1 p → σ.2 p = τ.2 p → eS E p σ = eS E p τ
/-- the addresses are apart -/
def eJ (E : zE) : Prop := ∀ i j : Nat, i < eN E → j < eN E → eA E i = eA E j → i = j
/-- what a method may change: the world's cells and new ones -/
def OA (E : zE) (sz : Nat) : Nat → Prop := fun q => (∃ p, p < eN E ∧ q = eA E p) ∨ sz ≤ q
theorem wd_len (E : zE) (σ : zST) : (wd E σ).length = eN E := by simp [wd]
theorem wd_at {E : zE} {σ : zST} {p : Nat} (h : p < eN E) : (wd E σ)[p]? = some (eA E p, eS E p σ) := by
  unfold wd
  rw [List.getElem?_map, List.getElem?_range h]
  rfl
theorem wd_of {E : zE} {σ : zST} {k : Nat} {q : Nat × va_E} (h : (wd E σ)[k]? = some q) : k < eN E ∧ q = (eA E k, eS E k σ) := by
  have hk : k < eN E := by
    have h1 := (List.getElem?_eq_some_iff.mp h).1
    rw [wd_len] at h1
    exact h1
  rw [wd_at hk] at h
  exact ⟨hk, (Option.some.inj h).symm⟩
theorem wd_set {E : zE} (hL : eL E) {σ τ : zST} {p : Nat} {e : va_E} (he : eS E p τ = e) (hq : ∀ q, q ≠ p → σ.1 q = τ.1 q ∧ σ.2 q = τ.2 q) : (wd E σ).set p (eA E p, e) = wd E τ := by
  apply List.ext_getElem?
  intro k
  by_cases hk : k < eN E
  · by_cases hkp : k = p
    · subst hkp
      rw [List.getElem?_set_self (by rw [wd_len]; exact hk), wd_at hk, he]
    · rw [List.getElem?_set_ne (fun h => hkp h.symm), wd_at hk, wd_at hk, hL k σ τ (hq k hkp).1 (hq k hkp).2]
  · have h1 : (wd E τ)[k]? = none := by rw [List.getElem?_eq_none_iff, wd_len]; omega
    rw [h1, List.getElem?_eq_none_iff, List.length_set, wd_len]; omega
theorem wd_D {E : zE} {σ : zST} {sz : Nat} (h : eJ E) : va_D (OA E sz) (wd E σ) := by
  refine ⟨fun i j p q hi hj hpq => ?_, fun k q hk => ?_⟩
  · obtain ⟨h1, rfl⟩ := wd_of hi
    obtain ⟨h2, rfl⟩ := wd_of hj
    exact h i j h1 h2 hpq
  · obtain ⟨h1, rfl⟩ := wd_of hk
    exact Or.inl ⟨k, h1, rfl⟩
theorem sI_off {σ : zST} {p j : Nat} {x : Int32} : ∀ q, q ≠ p → σ.1 q = (sI σ p j x).1 q ∧ σ.2 q = (sI σ p j x).2 q := fun q h => ⟨by simp [sI, h], rfl⟩
theorem sL_off {σ : zST} {p j : Nat} {x : Int64} : ∀ q, q ≠ p → σ.1 q = (sL σ p j x).1 q ∧ σ.2 q = (sL σ p j x).2 q := fun q h => ⟨rfl, by simp [sL, h]⟩
theorem sI_at {σ : zST} {p j : Nat} {x : Int32} : (sI σ p j x).1 p = upd (σ.1 p) j x := by simp [sI]
theorem sL_at {σ : zST} {p j : Nat} {x : Int64} : (sL σ p j x).2 p = vp_updL (σ.2 p) j x := by simp [sL]
theorem OA_mono {E : zE} {a b : Nat} (h : a ≤ b) : ∀ q, OA E b q → OA E a q := fun q hq => hq.elim Or.inl (fun z => Or.inr (Nat.le_trans h z))
theorem OA_new {E : zE} {a : Nat} : ∀ q, a ≤ q → OA E a q := fun q h => Or.inr h
-- a step of a model: a value named, a condition that must hold
def nm {α β : Type} (e : α) (k : α → β) : β := k e
def gd {β : Type} (c : Prop) [Decidable c] (k : Option β) : Option β := if c then k else none
theorem gd_some {β : Type} {c : Prop} [Decidable c] {k : Option β} {r : β} (h : gd c k = some r) : c ∧ k = some r := by
  unfold gd at h
  by_cases hc : c
  · rw [if_pos hc] at h; exact ⟨hc, h⟩
  · rw [if_neg hc] at h; cases h
theorem nm_get {α β : Type} {e : α} {k : α → Option β} {r : β} (h : nm e k = some r) : ∃ x, e = x ∧ k x = some r := ⟨e, rfl, h⟩
theorem bd_get {α β : Type} {a : Option α} {k : α → Option β} {r : β} (h : a.bind k = some r) : ∃ x, a = some x ∧ k x = some r := by
  cases a with
  | none => cases h
  | some x => exact ⟨x, rfl, h⟩
theorem if_yes {β : Type} {c : Prop} [Decidable c] {a b : Option β} {r : β} (h : (if c then a else b) = some r) (hc : c) : a = some r := by rw [if_pos hc] at h; exact h
theorem if_no {β : Type} {c : Prop} [Decidable c] {a b : Option β} {r : β} (h : (if c then a else b) = some r) (hc : ¬ c) : b = some r := by rw [if_neg hc] at h; exact h
def ldI {β : Type} (σ : zST) (q n : Nat) (i : Int32) (k : Int32 → Option β) : Option β := if i < 0 ∨ n ≤ i.toNatClampNeg then none else k (gI σ q i.toNatClampNeg)
def stI {β : Type} (σ : zST) (q n : Nat) (i : Int32) (x : Int32) (k : zST → Option β) : Option β := if i < 0 ∨ n ≤ i.toNatClampNeg then none else k (sI σ q i.toNatClampNeg x)
def ldL {β : Type} (σ : zST) (q n : Nat) (i : Int32) (k : Int64 → Option β) : Option β := if i < 0 ∨ n ≤ i.toNatClampNeg then none else k (gL σ q i.toNatClampNeg)
def stL {β : Type} (σ : zST) (q n : Nat) (i : Int32) (x : Int64) (k : zST → Option β) : Option β := if i < 0 ∨ n ≤ i.toNatClampNeg then none else k (sL σ q i.toNatClampNeg x)
/-- a table that never changes -/
def ldT {β : Type} (f : Nat → Int32) (n : Nat) (i : Int32) (k : Int32 → Option β) : Option β := if i < 0 ∨ n ≤ i.toNatClampNeg then none else k (f i.toNatClampNeg)
theorem in_get {β : Type} {n : Nat} {i : Int32} {k : Option β} {r : β} (h : (if i < 0 ∨ n ≤ i.toNatClampNeg then none else k) = some r) : vp_in i n ∧ k = some r := by
  by_cases hc : i < 0 ∨ n ≤ i.toNatClampNeg
  · rw [if_pos hc] at h; cases h
  · rw [if_neg hc] at h; exact ⟨hc, h⟩
theorem ldI_get {β : Type} {σ : zST} {q n : Nat} {i : Int32} {k : Int32 → Option β} {r : β} (h : ldI σ q n i k = some r) : vp_in i n ∧ ∃ x, gI σ q i.toNatClampNeg = x ∧ k x = some r := ⟨(in_get h).1, _, rfl, (in_get h).2⟩
theorem ldL_get {β : Type} {σ : zST} {q n : Nat} {i : Int32} {k : Int64 → Option β} {r : β} (h : ldL σ q n i k = some r) : vp_in i n ∧ ∃ x, gL σ q i.toNatClampNeg = x ∧ k x = some r := ⟨(in_get h).1, _, rfl, (in_get h).2⟩
theorem ldT_get {β : Type} {f : Nat → Int32} {n : Nat} {i : Int32} {k : Int32 → Option β} {r : β} (h : ldT f n i k = some r) : vp_in i n ∧ ∃ x, f i.toNatClampNeg = x ∧ k x = some r := ⟨(in_get h).1, _, rfl, (in_get h).2⟩
theorem stI_get {β : Type} {σ : zST} {q n : Nat} {i x : Int32} {k : zST → Option β} {r : β} (h : stI σ q n i x k = some r) : vp_in i n ∧ ∃ τ, sI σ q i.toNatClampNeg x = τ ∧ k τ = some r := ⟨(in_get h).1, _, rfl, (in_get h).2⟩
theorem stL_get {β : Type} {σ : zST} {q n : Nat} {i : Int32} {x : Int64} {k : zST → Option β} {r : β} (h : stL σ q n i x k = some r) : vp_in i n ∧ ∃ τ, sL σ q i.toNatClampNeg x = τ ∧ k τ = some r := ⟨(in_get h).1, _, rfl, (in_get h).2⟩
def bd {α β : Type} (a : Option (α × zST)) (k : α → zST → Option β) : Option β := match a with
  | none => none
  | some z => k z.1 z.2
def bv {β : Type} (a : Option zST) (k : zST → Option β) : Option β := match a with
  | none => none
  | some z => k z
theorem bd_ok {α β : Type} {a : Option (α × zST)} {k : α → zST → Option β} {r : β} (h : bd a k = some r) : ∃ x τ, a = some (x, τ) ∧ k x τ = some r := by
  cases a with
  | none => cases h
  | some z => exact ⟨z.1, z.2, rfl, h⟩
theorem bv_ok {β : Type} {a : Option zST} {k : zST → Option β} {r : β} (h : bv a k = some r) : ∃ τ, a = some τ ∧ k τ = some r := by
  cases a with
  | none => cases h
  | some z => exact ⟨z, rfl, h⟩
-- a call that may throw: what it throws leaves the caller too
abbrev zX (α : Type) : Type := (String ⊕ α)
def bx {α β : Type} (a : Option (zX α × zST)) (k : α → zST → Option (zX β × zST)) : Option (zX β × zST) := match a with
  | none => none
  | some (.inl e, σ) => some (.inl e, σ)
  | some (.inr x, σ) => k x σ
theorem bx_ok {α β : Type} {a : Option (zX α × zST)} {k : α → zST → Option (zX β × zST)} {r : zX β × zST} (h : bx a k = some r) : (∃ e τ, a = some (.inl e, τ) ∧ some (Sum.inl e, τ) = some r) ∨ ∃ x τ, a = some (.inr x, τ) ∧ k x τ = some r := by
  cases a with
  | none => cases h
  | some z =>
    obtain ⟨y, τ⟩ := z
    cases y with
    | inl e => exact Or.inl ⟨e, τ, rfl, h⟩
    | inr x => exact Or.inr ⟨x, τ, rfl, h⟩
end ZB
/-! THE JUDGEMENT Z, its rows, contracts Ct (methods that return) -/
section ZR0
-- what the walks take of the start: nest words, the table, Throwable's statics, the texts of throws
def zNW0 : List Cond := [.fieldLinkNest "CanonCote" 101 "CanonCote$Graph" "near" "[I" "CanonCote", .fieldLinkNest "CanonCote" 107 "CanonCote$Refinement" "count" "I" "CanonCote", .fieldLinkNest "CanonCote" 110 "CanonCote$Refinement" "numbers" "[I" "CanonCote", .fieldLinkNest "CanonCote" 113 "CanonCote$Refinement" "lastRound" "I" "CanonCote", .fieldLinkNest "CanonCote" 134 "CanonCote$Mapping" "images" "[I" "CanonCote", .fieldLinkNest "CanonCote" 158 "CanonCote$Group" "count" "I" "CanonCote", .fieldLinkNest "CanonCote" 167 "CanonCote$Group" "chain" "LCanonCote$Chain;" "CanonCote", .fieldLinkNest "CanonCote" 171 "CanonCote$Chain" "members" "I" "CanonCote", .fieldLinkNest "CanonCote" 59 "CanonCote$Graph" "size" "I" "CanonCote", .fieldLinkNest "CanonCote" 83 "CanonCote$Graph" "colours" "[I" "CanonCote", .fieldLinkNest "CanonCote$Arranging" 40 "CanonCote$Graph" "size" "I" "CanonCote", .fieldLinkNest "CanonCote$Arranging" 49 "CanonCote$Graph" "colours" "[I" "CanonCote", .fieldLinkNest "CanonCote$Arranging" 72 "CanonCote$Graph" "near" "[I" "CanonCote", .fieldLinkNest "CanonCote$Group" 54 "CanonCote$Chain" "members" "I" "CanonCote", .fieldLinkNest "CanonCote$Mapping" 25 "CanonCote$Graph" "size" "I" "CanonCote", .fieldLinkNest "CanonCote$Mapping" 47 "CanonCote$Refinement" "numbers" "[I" "CanonCote", .fieldLinkNest "CanonCote$Refinement" 22 "CanonCote$Graph" "size" "I" "CanonCote", .fieldLinkNest "CanonCote$Refinement" 28 "CanonCote$Graph" "colours" "[I" "CanonCote", .fieldLinkNest "CanonCote$Refinement" 45 "CanonCote$Graph" "near" "[I" "CanonCote", .methodLinkNest "CanonCote" 104 ⟨"CanonCote$Refinement", "refine", "(LCanonCote$Graph;)V"⟩ "CanonCote", .methodLinkNest "CanonCote" 120 ⟨"CanonCote$Arranging", "search", "(LCanonCote$Graph;)V"⟩ "CanonCote", .methodLinkNest "CanonCote" 123 ⟨"CanonCote$Arranging", "bestPlace", "(I)I"⟩ "CanonCote", .methodLinkNest "CanonCote" 131 ⟨"CanonCote$Mapping", "find", "(LCanonCote$Graph;LCanonCote$Graph;)Z"⟩ "CanonCote", .methodLinkNest "CanonCote" 142 ⟨"CanonCote$Graph", "becomePart", "(LCanonCote$Graph;I)V"⟩ "CanonCote", .methodLinkNest "CanonCote" 145 ⟨"CanonCote$Arranging", "countBest", "(I)I"⟩ "CanonCote", .methodLinkNest "CanonCote" 148 ⟨"CanonCote$Arranging", "exchangeable", "(I)I"⟩ "CanonCote", .methodLinkNest "CanonCote" 15 ⟨"CanonCote$Graph", "<init>", "()V"⟩ "CanonCote", .methodLinkNest "CanonCote" 164 ⟨"CanonCote$Group", "add", "(J)V"⟩ "CanonCote", .methodLinkNest "CanonCote" 176 ⟨"CanonCote$Group", "clear", "()V"⟩ "CanonCote", .methodLinkNest "CanonCote" 178 ⟨"CanonCote$Chain", "holds", "(J)Z"⟩ "CanonCote", .methodLinkNest "CanonCote" 187 ⟨"CanonCote$Group", "reach", "(I)I"⟩ "CanonCote", .methodLinkNest "CanonCote" 192 ⟨"CanonCote$Group", "countFixing", "(I)I"⟩ "CanonCote", .methodLinkNest "CanonCote" 199 ⟨"CanonCote$Permutation", "isOne", "(J)Z"⟩ "CanonCote", .methodLinkNest "CanonCote" 206 ⟨"CanonCote$Arranging", "leastCode", "(LCanonCote$Graph;)J"⟩ "CanonCote", .methodLinkNest "CanonCote" 22 ⟨"CanonCote$Refinement", "<init>", "()V"⟩ "CanonCote", .methodLinkNest "CanonCote" 29 ⟨"CanonCote$Arranging", "<init>", "()V"⟩ "CanonCote", .methodLinkNest "CanonCote" 36 ⟨"CanonCote$Mapping", "<init>", "()V"⟩ "CanonCote", .methodLinkNest "CanonCote" 43 ⟨"CanonCote$Group", "<init>", "()V"⟩ "CanonCote", .methodLinkNest "CanonCote" 63 ⟨"CanonCote$Graph", "clear", "(I)V"⟩ "CanonCote", .methodLinkNest "CanonCote" 73 ⟨"CanonCote$Graph", "flipEdge", "(II)V"⟩ "CanonCote", .methodLinkNest "CanonCote" 77 ⟨"CanonCote$Graph", "hasEdge", "(II)Z"⟩ "CanonCote", .methodLinkNest "CanonCote" 87 ⟨"CanonCote$Graph", "exchange", "(II)V"⟩ "CanonCote", .methodLinkNest "CanonCote" 90 ⟨"CanonCote$Graph", "become", "(LCanonCote$Graph;)V"⟩ "CanonCote", .methodLinkNest "CanonCote" 94 ⟨"CanonCote$Graph", "invertEdges", "()V"⟩ "CanonCote", .methodLinkNest "CanonCote" 97 ⟨"CanonCote$Graph", "countEdges", "()I"⟩ "CanonCote", .methodLinkNest "CanonCote$Arranging" 45 ⟨"CanonCote$Graph", "areTwins", "(II)Z"⟩ "CanonCote", .methodLinkNest "CanonCote$Arranging" 65 ⟨"CanonCote", "below", "(I)I"⟩ "CanonCote", .methodLinkNest "CanonCote$Chain" 41 ⟨"CanonCote", "isIn", "(II)Z"⟩ "CanonCote", .methodLinkNest "CanonCote$Chain" 56 ⟨"CanonCote$Permutation", "oneThenOther", "(JJ)J"⟩ "CanonCote", .methodLinkNest "CanonCote$Chain" 68 ⟨"CanonCote$Permutation", "imageOf", "(JI)I"⟩ "CanonCote", .methodLinkNest "CanonCote$Chain" 72 ⟨"CanonCote$Permutation", "inverse", "(J)J"⟩ "CanonCote", .methodLinkNest "CanonCote$Graph" 28 ⟨"CanonCote", "isIn", "(II)Z"⟩ "CanonCote", .methodLinkNest "CanonCote$Graph" 32 ⟨"CanonCote", "below", "(I)I"⟩ "CanonCote", .methodLinkNest "CanonCote$Group" 17 ⟨"CanonCote$Chain", "<init>", "()V"⟩ "CanonCote", .methodLinkNest "CanonCote$Group" 32 ⟨"CanonCote$Chain", "restart", "(I)V"⟩ "CanonCote", .methodLinkNest "CanonCote$Group" 37 ⟨"CanonCote$Chain", "add", "(JI)V"⟩ "CanonCote", .methodLinkNest "CanonCote$Group" 45 ⟨"CanonCote", "isIn", "(II)Z"⟩ "CanonCote", .methodLinkNest "CanonCote$Group" 49 ⟨"CanonCote$Permutation", "imageOf", "(JI)I"⟩ "CanonCote", .methodLinkNest "CanonCote$Group" 63 ⟨"CanonCote$Chain", "countFrom", "(I)I"⟩ "CanonCote", .methodLinkNest "CanonCote$Mapping" 17 ⟨"CanonCote$Refinement", "<init>", "()V"⟩ "CanonCote", .methodLinkNest "CanonCote$Mapping" 31 ⟨"CanonCote$Refinement", "refine", "(LCanonCote$Graph;)V"⟩ "CanonCote", .methodLinkNest "CanonCote$Mapping" 39 ⟨"CanonCote", "isIn", "(II)Z"⟩ "CanonCote", .methodLinkNest "CanonCote$Mapping" 50 ⟨"CanonCote$Graph", "hasEdge", "(II)Z"⟩ "CanonCote", .methodLinkNest "CanonCote$Refinement" 64 ⟨"CanonCote", "isIn", "(II)Z"⟩ "CanonCote"]
def zNW : List Cond := zNW0 ++ ((vx_atS RX7 56 "java/lang/IllegalArgumentException" ["java/lang/RuntimeException", "java/lang/Exception"]).filter (fun w => !goodWord w) ++ (vx_atS RX7 163 "java/lang/IllegalStateException" ["java/lang/RuntimeException", "java/lang/Exception"]).filter (fun w => !goodWord w) ++ (vx_atS RX7 186 "java/lang/IndexOutOfBoundsException" ["java/lang/RuntimeException", "java/lang/Exception"]).filter (fun w => !goodWord w) ++ [.castable "java/lang/IllegalArgumentException" "java/lang/IllegalArgumentException", .castable "java/lang/IllegalStateException" "java/lang/IllegalStateException", .castable "java/lang/IndexOutOfBoundsException" "java/lang/IndexOutOfBoundsException"])
def zNC : List (String × String) := [("java/lang/IllegalArgumentException", "java/lang/IndexOutOfBoundsException"), ("java/lang/IllegalStateException", "java/lang/IllegalArgumentException")]
def zSTR : List (String × Nat × String) := [("CanonCote", 54, "size is out of range"), ("CanonCote", 71, "both vertices are the same"), ("CanonCote", 81, "colour is out of range"), ("CanonCote", 161, "there are 6 generators"), ("CanonCote", 184, "no such point"), ("CanonCote", 190, "points is out of range"), ("CanonCote", 195, "no such graph"), ("CanonCote", 197, "no such vertex"), ("CanonCote", 204, "no permutation")]
def zTb (j : Nat) : Int32 := ([21, 15, 10, 6, 3, 1, 0, 0] : List Int32).getD j 0
def jshl (x y : Int32) : Int32 := x <<< (y &&& 31)
def jshr (x y : Int32) : Int32 := x >>> (y &&& 31)
def jushr (x y : Int32) : Int32 := (x.toUInt32 >>> (y.toUInt32 &&& Int32.toUInt32 31)).toInt32
def jlshl (x : Int64) (y : Int32) : Int64 := x <<< (y.toInt64 &&& 63)
def jlshr (x : Int64) (y : Int32) : Int64 := x >>> (y.toInt64 &&& 63)
def jlushr (x : Int64) (y : Int32) : Int64 := (x.toUInt64 >>> (y.toInt64.toUInt64 &&& Int64.toUInt64 63)).toInt64
def zIsN : Cond → Bool
  | .fieldLinkNest _ _ _ _ _ _ => true
  | .methodLinkNest _ _ _ _ => true
  | .castable _ _ => true
  | .declares _ => true
  | _ => false
theorem zNW_n : zNW.all zIsN = true := by decide +kernel
def EF (A : Nat → Prop) (U : State) (H : Heap) : Prop := (∀ w ∈ zNW, va_Nw w U) ∧ (∃ t : Nat, va_Z "CanonCote$Arranging" "LOWEST_EDGE_BIT" "[I" (.ref t) A U H ∧ va_T .int t 8 (fun j => .int (zTb j)) A U H) ∧ vx_Zq Bundle.tN "UNASSIGNED_STACK" Bundle.steD A U H ∧ vx_Zq Bundle.tN "SUPPRESSED_SENTINEL" Bundle.listD A U H ∧ (∀ q ∈ zSTR, ∃ a, vk_R q.1 q.2.1 q.2.2 a U) ∧ (∀ q ∈ zNC, va_Nc q.1 q.2 U)
theorem zN_warm {w : Cond} (hn : zIsN w = true) {s U : State} (hW : s.WarmedH U.vm) (h : va_Nw w s) : va_Nw w U := by
  cases w <;> first | (cases hn; done) | exact va_Nw.warmF hW h | exact va_Nw.warmM hW h | exact va_Nw.warmC hW h | exact va_Nw.warmD hW h
theorem zN_same {w : Cond} (hn : zIsN w = true) {s U : State} (hv : s.vm = U.vm) (h : va_Nw w s) : va_Nw w U := by
  cases w <;> first | (cases hn; done) | exact va_Nw.same rfl hv h
theorem EF.step {A B : Nat → Prop} {s U : State} {H : Heap} (h : EF A s s.heap) (hq : ∀ a : Nat, a < s.heap.size → ¬ A a → H[a]? = s.heap[a]?) (hAB : ∀ q, B q → A q) (hU : U.heap = H) (hW : s.WarmedH U.vm) : EF B U U.heap := by
  obtain ⟨h1, ⟨t, h2, h3⟩, h4, h5, h6, h7⟩ := h
  subst hU
  exact ⟨fun w hw => zN_warm (List.all_eq_true.mp zNW_n w hw) hW (h1 w hw), ⟨t, (va_Z.moved hW.alike (h2.kept hq)).narrow hAB, (va_T.moved hW.alike (h3.kept hq)).narrow hAB⟩, (vx_Zq.moved hW.alike (h4.kept hq)).narrow hAB, (vx_Zq.moved hW.alike (h5.kept hq)).narrow hAB, fun q hqm => by
    obtain ⟨a, ha⟩ := h6 q hqm
    exact ⟨a, vk_R.warm hW ha⟩, fun q hqm => va_Nc.moved hW.alike (h7 q hqm)⟩
theorem EF.same {A : Nat → Prop} {u U : State} {H : Heap} (hv : u.vm = U.vm) (h : EF A u H) : EF A U H := by
  obtain ⟨h1, ⟨t, h2, h3⟩, h4, h5, h6, h7⟩ := h
  have hal : u.vm.Alike U.vm := by rw [hv]; exact Vm.Alike.refl _
  exact ⟨fun w hw => zN_same (List.all_eq_true.mp zNW_n w hw) hv (h1 w hw), ⟨t, va_Z.moved hal h2, va_T.moved hal h3⟩, vx_Zq.moved hal h4, vx_Zq.moved hal h5, fun q hqm => by
    obtain ⟨a, ha⟩ := h6 q hqm
    exact ⟨a, vk_R.same hv.symm ha⟩, fun q hqm => va_Nc.moved hal (h7 q hqm)⟩
/-- what holds where a method of this world begins -/
def zPc (E : zE) (as : List Value) (σ : zST) (sz : Nat) : Array Value → State → Prop := va_Pc as (fun U => U.heap.size = sz ∧ va_P (eD E) vwCl (wd E σ) U.heap ∧ va_K (eD E) vwCl (eT E) U ∧ EF (OA E sz) U U.heap)
def zQc (E : zE) (rv : Option Value) (τ : zST) (sz : Nat) : Array Value → State → Outcome → State → Prop := fun _ st oc t => oc = .returned rv ∧ va_P (eD E) vwCl (wd E τ) t.heap ∧ va_F (OA E sz) st t
/-- A CONTRACT: from a world with the store σ the method returns rv, and leaves the world with the store τ -/
def Ct (l : Launch) (y : MethodName) (ws : List Cond) (rm : Room) (E : zE) (as : List Value) (σ : zST) (rv : Option Value) (τ : zST) : Prop :=
  ∀ sz : Nat, Met l y ws rm (zPc E as σ sz) (zQc E rv τ sz) 0 0 (OA E sz)
theorem zPc_blind {E : zE} {as : List Value} {σ : zST} {sz : Nat} : FrameBlind (zPc E as σ sz) := by
  intro a U g mk h
  obtain ⟨h1, h2, h3, h4, h5⟩ := h
  exact ⟨h1, h2, h3, va_K.moved (u := U) (U := U.calling g mk a) (Vm.Alike.refl U.vm) h4, EF.same (u := U) (U := U.calling g mk a) rfl h5⟩
abbrev zK : Type := Program × Launch × Env × Room × State × MethodId × Array Value × List Frame × Method × Code × (State → Prop) × zE
def kP (K : zK) : Program := K.1
def kL (K : zK) : Launch := K.2.1
def kE (K : zK) : Env := K.2.2.1
def kR (K : zK) : Room := K.2.2.2.1
def kS (K : zK) : State := K.2.2.2.2.1
def kM (K : zK) : MethodId := K.2.2.2.2.2.1
def kA (K : zK) : Array Value := K.2.2.2.2.2.2.1
def kB (K : zK) : List Frame := K.2.2.2.2.2.2.2.1
def kH (K : zK) : Method := K.2.2.2.2.2.2.2.2.1
def kC (K : zK) : Code := K.2.2.2.2.2.2.2.2.2.1
def kQ (K : zK) : State → Prop := K.2.2.2.2.2.2.2.2.2.2.1
def kZ (K : zK) : zE := K.2.2.2.2.2.2.2.2.2.2.2
def kW (K : zK) (H : Heap) (locs : List Loc) (cs ss : Nat) (g : JFrame) : Prop := W (kP K) (kL K) (kE K) (kR K) (kS K) (kM K) (kA K) (kB K) (kH K) (kC K) H locs cs ss (kQ K) g
def kO (K : zK) : Nat → Prop := OA (kZ K) (kS K).heap.size
/-- THE JUDGEMENT: at pc, with these locals, this stack and a world with this store, the machine comes to the method's end -/
def Z (K : zK) (cs ss pc : Nat) (lv : List (Nat × Value)) (st : List Value) (σ : zST) : Prop :=
  ∀ (H : Heap) (locs : List Loc) (ls : Array Slot), va_P (eD (kZ K)) vwCl (wd (kZ K) σ) H → va_S (kO K) (kS K).heap H locs → lv_has ls (kC K).maxLocals lv → kW K H locs cs ss (F0 (kM K) pc ls st)
def zIs (K : zK) (own : String) (cc : ByteArray) (nL : Nat) (Ts : List Cond) (ret : Option FieldType) (rm : Room) : Prop :=
  (kP K).tables.exec = Jvm.exec ∧ (kC K).code = cc ∧ (kC K).maxLocals = nL ∧ (kS K).vm.findClass own = some (kM K).cls ∧ (∀ w ∈ Ts, w.before (kA K) (kS K) = true) ∧ (kH K).sig.returnType = ret ∧ kR K = rm ∧ (kH K).locks = false ∧ va_K (eD (kZ K)) vwCl (eT (kZ K)) (kS K) ∧ eL (kZ K) ∧ eJ (kZ K) ∧ EF (kO K) (kS K) (kS K).heap
def zQ (K : zK) (rv : Option Value) (τ : zST) : Prop := kQ K = MQ (kB K) (zQc (kZ K) rv τ (kS K).heap.size) (kA K) (kS K) 0 0 (kO K)
section
variable {K : zK} {own : String} {cc : ByteArray} {nL : Nat} {Ts : List Cond} {ret : Option FieldType} {rm : Room}
theorem zIs.exec (h : zIs K own cc nL Ts ret rm) : (kP K).tables.exec = Jvm.exec := h.1
theorem zIs.code (h : zIs K own cc nL Ts ret rm) : (kC K).code = cc := h.2.1
theorem zIs.maxl (h : zIs K own cc nL Ts ret rm) : (kC K).maxLocals = nL := h.2.2.1
theorem zIs.ow (h : zIs K own cc nL Ts ret rm) : (kS K).vm.findClass own = some (kM K).cls := h.2.2.2.1
theorem zIs.wd (h : zIs K own cc nL Ts ret rm) : ∀ w ∈ Ts, w.before (kA K) (kS K) = true := h.2.2.2.2.1
theorem zIs.rt (h : zIs K own cc nL Ts ret rm) : (kH K).sig.returnType = ret := h.2.2.2.2.2.1
theorem zIs.room (h : zIs K own cc nL Ts ret rm) : kR K = rm := h.2.2.2.2.2.2.1
theorem zIs.nolock (h : zIs K own cc nL Ts ret rm) : (kH K).locks = false := h.2.2.2.2.2.2.2.1
theorem zIs.cls (h : zIs K own cc nL Ts ret rm) : va_K (eD (kZ K)) vwCl (eT (kZ K)) (kS K) := h.2.2.2.2.2.2.2.2.1
theorem zIs.loc (h : zIs K own cc nL Ts ret rm) : eL (kZ K) := h.2.2.2.2.2.2.2.2.2.1
theorem zIs.inj (h : zIs K own cc nL Ts ret rm) : eJ (kZ K) := h.2.2.2.2.2.2.2.2.2.2.1
theorem zIs.env (h : zIs K own cc nL Ts ret rm) : EF (kO K) (kS K) (kS K).heap := h.2.2.2.2.2.2.2.2.2.2.2
theorem zIs.nest (h : zIs K own cc nL Ts ret rm) {w : Cond} (hw : w ∈ zNW) : va_Nw w (kS K) := h.env.1 w hw
end
theorem Ct_of {l : Launch} {y : MethodName} {ws ws' : List Cond} {rm : Room} {E : zE} {as : List Value} {σ τ : zST} {rv : Option Value} {cc : ByteArray} {maxL : Nat} {ret : Option FieldType} (hy : plainName y.cls = true) (hw : ws = Cond.code y cc maxL ret :: ws') (hL : eL E) (hJ : eJ E) (hn : (lg_sl as).length ≤ maxL)
    (body : ∀ K : zK, kZ K = E → kL K = l → zIs K y.cls cc maxL ws ret rm → zQ K rv τ → Z K 0 0 0 (lv_args 0 as) [] σ) : Ct l y ws rm E as σ rv τ := by
  intro sz
  refine Met.ofW (cc := cc) (maxL := maxL) (ret := ret) hy hw ?_
  intro p e s m args below meth c s₁ B hml hv
  obtain ⟨rfl, hsz, hP, hK, hE⟩ := hv
  subst hsz
  have hl := lv_entry as (n := maxL) hn
  rw [lg_entry_eq]
  generalize (lg_sl as ++ List.replicate (maxL - (lg_sl as).length) Slot.unset).toArray = ls at hl ⊢
  exact body ⟨p, l, e, rm, s, m, as.toArray, below, meth, c, MQ below (zQc E rv τ s.heap.size) as.toArray s 0 0 (OA E s.heap.size), E⟩ rfl rfl
    ⟨B.exec, B.bytes, hml, findClass_of_methodNamed B.named, atoms_spec (ws := ws) B.pre, B.returns, rfl, B.notSynchronized, hK, hL, hJ, hE⟩ rfl s.heap [] ls hP va_S.rf (by show lv_has ls c.maxLocals _; rw [hml]; exact hl)
end ZR0
section ZR1
variable {K : zK} {own : String} {cc : ByteArray} {nL : Nat} {Ts : List Cond} {ret : Option FieldType} {rm : Room} {cs ss pc : Nat} {lv lv' : List (Nat × Value)} {st : List Value} {σ τ : zST}
theorem Z_iconst (hk : zIs K own cc nL Ts ret rm) {n : Int} {v : Int32} (d : decode cc pc = .ok (.iconst n, 1)) (hv : Int32.ofInt n = v) (kk : Z K cs ss (pc + 1) lv (.int v :: st) σ) : Z K cs ss pc lv st σ := fun H locs ls hP hS hl => lv_iconst hk.exec hk.code d hv (kk H locs ls hP hS hl)
theorem Z_bipush (hk : zIs K own cc nL Ts ret rm) {n : Int} {v : Int32} (d : decode cc pc = .ok (.bipush n, 2)) (hv : (Int8.ofInt n).toInt32 = v) (kk : Z K cs ss (pc + 2) lv (.int v :: st) σ) : Z K cs ss pc lv st σ := fun H locs ls hP hS hl => lv_bipush hk.exec hk.code d hv (kk H locs ls hP hS hl)
theorem Z_sipush (hk : zIs K own cc nL Ts ret rm) {n : Int} {v : Int32} (d : decode cc pc = .ok (.sipush n, 3)) (hv : (Int16.ofInt n).toInt32 = v) (kk : Z K cs ss (pc + 3) lv (.int v :: st) σ) : Z K cs ss pc lv st σ := fun H locs ls hP hS hl => lv_sipush hk.exec hk.code d hv (kk H locs ls hP hS hl)
theorem Z_lconst (hk : zIs K own cc nL Ts ret rm) {n : Fin 2} {v : Int64} (d : decode cc pc = .ok (.lconst n, 1)) (hv : Int64.ofNat (n : Nat) = v) (kk : Z K cs ss (pc + 1) lv (.long v :: st) σ) : Z K cs ss pc lv st σ := fun H locs ls hP hS hl => lv_lconst hk.exec hk.code d hv (kk H locs ls hP hS hl)
theorem Z_ldc (hk : zIs K own cc nL Ts ret rm) {ix : Nat} {v : Int32} (d : decode cc pc = .ok (.ldc ix, 2)) (hw : Cond.constant own ix v ∈ Ts) (kk : Z K cs ss (pc + 2) lv (.int v :: st) σ) : Z K cs ss pc lv st σ := fun H locs ls hP hS hl => lv_ldc hk.exec hk.code hk.ow (hk.wd _ hw) d (kk H locs ls hP hS hl)
theorem Z_ldcw (hk : zIs K own cc nL Ts ret rm) {ix : Nat} {v : Int32} (d : decode cc pc = .ok (.ldc_w ix, 3)) (hw : Cond.constant own ix v ∈ Ts) (kk : Z K cs ss (pc + 3) lv (.int v :: st) σ) : Z K cs ss pc lv st σ := fun H locs ls hP hS hl => lv_ldcw hk.exec hk.code hk.ow (hk.wd _ hw) d (kk H locs ls hP hS hl)
theorem Z_ldc2 (hk : zIs K own cc nL Ts ret rm) {ix : Nat} {v : Int64} (d : decode cc pc = .ok (.ldc2_w ix, 3)) (hw : Cond.constantLong own ix v ∈ Ts) (kk : Z K cs ss (pc + 3) lv (.long v :: st) σ) : Z K cs ss pc lv st σ := fun H locs ls hP hS hl => lv_ldc2 hk.exec hk.code hk.ow (hk.wd _ hw) d (kk H locs ls hP hS hl)
theorem Z_iload_n (hk : zIs K own cc nL Ts ret rm) (j : Nat) {k : Fin 4} {i : Nat} {x : Int32} (d : decode cc pc = .ok (.iload_n k, 1)) (hi : (k : Nat) = i) (hj : lv[j]? = some (i, .int x)) (kk : Z K cs ss (pc + 1) lv (.int x :: st) σ) : Z K cs ss pc lv st σ := fun H locs ls hP hS hl => lv_iload_n hk.exec hk.code d hi (lv_at hl j hj) (kk H locs ls hP hS hl)
theorem Z_iload (hk : zIs K own cc nL Ts ret rm) (j : Nat) {i : Nat} {x : Int32} (d : decode cc pc = .ok (.iload i, 2)) (hj : lv[j]? = some (i, .int x)) (kk : Z K cs ss (pc + 2) lv (.int x :: st) σ) : Z K cs ss pc lv st σ := fun H locs ls hP hS hl => lv_iload hk.exec hk.code d (lv_at hl j hj) (kk H locs ls hP hS hl)
theorem Z_lload_n (hk : zIs K own cc nL Ts ret rm) (j : Nat) {k : Fin 4} {i : Nat} {x : Int64} (d : decode cc pc = .ok (.lload_n k, 1)) (hi : (k : Nat) = i) (hj : lv[j]? = some (i, .long x)) (kk : Z K cs ss (pc + 1) lv (.long x :: st) σ) : Z K cs ss pc lv st σ := fun H locs ls hP hS hl => lv_lload_n hk.exec hk.code d hi (lv_at hl j hj) (kk H locs ls hP hS hl)
theorem Z_lload (hk : zIs K own cc nL Ts ret rm) (j : Nat) {i : Nat} {x : Int64} (d : decode cc pc = .ok (.lload i, 2)) (hj : lv[j]? = some (i, .long x)) (kk : Z K cs ss (pc + 2) lv (.long x :: st) σ) : Z K cs ss pc lv st σ := fun H locs ls hP hS hl => lv_lload hk.exec hk.code d (lv_at hl j hj) (kk H locs ls hP hS hl)
theorem Z_aload_n (hk : zIs K own cc nL Ts ret rm) (j : Nat) {k : Fin 4} {i : Nat} {x : Nat} (d : decode cc pc = .ok (.aload_n k, 1)) (hi : (k : Nat) = i) (hj : lv[j]? = some (i, .ref x)) (kk : Z K cs ss (pc + 1) lv (.ref x :: st) σ) : Z K cs ss pc lv st σ := fun H locs ls hP hS hl => lv_aload_n hk.exec hk.code d hi (lv_at hl j hj) (kk H locs ls hP hS hl)
theorem Z_aload (hk : zIs K own cc nL Ts ret rm) (j : Nat) {i : Nat} {x : Nat} (d : decode cc pc = .ok (.aload i, 2)) (hj : lv[j]? = some (i, .ref x)) (kk : Z K cs ss (pc + 2) lv (.ref x :: st) σ) : Z K cs ss pc lv st σ := fun H locs ls hP hS hl => lv_aload hk.exec hk.code d (lv_at hl j hj) (kk H locs ls hP hS hl)
theorem Z_istore_n (hk : zIs K own cc nL Ts ret rm) {k : Fin 4} {i : Nat} {x : Int32} (d : decode cc pc = .ok (.istore_n k, 1)) (hi : (k : Nat) = i) (hn : i < nL) (hv : (i, Value.int x) :: lv.filter (fun q => !(q.1 == i) && !(q.1 + 1 == i && q.2.category == 2)) = lv') (kk : Z K cs ss (pc + 1) lv' st σ) : Z K cs ss pc lv (.int x :: st) σ := fun H locs ls hP hS hl => lv_istore_n hk.exec hk.code d hi hl (by rw [hk.maxl]; exact hn) hv (fun ls' h => kk H locs ls' hP hS h)
theorem Z_istore (hk : zIs K own cc nL Ts ret rm) {i : Nat} {x : Int32} (d : decode cc pc = .ok (.istore i, 2)) (hn : i < nL) (hv : (i, Value.int x) :: lv.filter (fun q => !(q.1 == i) && !(q.1 + 1 == i && q.2.category == 2)) = lv') (kk : Z K cs ss (pc + 2) lv' st σ) : Z K cs ss pc lv (.int x :: st) σ := fun H locs ls hP hS hl => lv_istore hk.exec hk.code d hl (by rw [hk.maxl]; exact hn) hv (fun ls' h => kk H locs ls' hP hS h)
theorem Z_lstore_n (hk : zIs K own cc nL Ts ret rm) {k : Fin 4} {i : Nat} {x : Int64} (d : decode cc pc = .ok (.lstore_n k, 1)) (hi : (k : Nat) = i) (hn : i + 1 < nL) (hv : (i, Value.long x) :: lv.filter (fun q => !(q.1 == i) && (!(q.1 == i + 1) && !(q.1 + 1 == i && q.2.category == 2))) = lv') (kk : Z K cs ss (pc + 1) lv' st σ) : Z K cs ss pc lv (.long x :: st) σ := fun H locs ls hP hS hl => lv_lstore_n hk.exec hk.code d hi hl (by rw [hk.maxl]; exact hn) hv (fun ls' h => kk H locs ls' hP hS h)
theorem Z_lstore (hk : zIs K own cc nL Ts ret rm) {i : Nat} {x : Int64} (d : decode cc pc = .ok (.lstore i, 2)) (hn : i + 1 < nL) (hv : (i, Value.long x) :: lv.filter (fun q => !(q.1 == i) && (!(q.1 == i + 1) && !(q.1 + 1 == i && q.2.category == 2))) = lv') (kk : Z K cs ss (pc + 2) lv' st σ) : Z K cs ss pc lv (.long x :: st) σ := fun H locs ls hP hS hl => lv_lstore hk.exec hk.code d hl (by rw [hk.maxl]; exact hn) hv (fun ls' h => kk H locs ls' hP hS h)
theorem Z_astore_n (hk : zIs K own cc nL Ts ret rm) {k : Fin 4} {i : Nat} {x : Nat} (d : decode cc pc = .ok (.astore_n k, 1)) (hi : (k : Nat) = i) (hn : i < nL) (hv : (i, Value.ref x) :: lv.filter (fun q => !(q.1 == i) && !(q.1 + 1 == i && q.2.category == 2)) = lv') (kk : Z K cs ss (pc + 1) lv' st σ) : Z K cs ss pc lv (.ref x :: st) σ := fun H locs ls hP hS hl => lv_astore_n hk.exec hk.code d hi hl (by rw [hk.maxl]; exact hn) hv (fun ls' h => kk H locs ls' hP hS h)
theorem Z_astore (hk : zIs K own cc nL Ts ret rm) {i : Nat} {x : Nat} (d : decode cc pc = .ok (.astore i, 2)) (hn : i < nL) (hv : (i, Value.ref x) :: lv.filter (fun q => !(q.1 == i) && !(q.1 + 1 == i && q.2.category == 2)) = lv') (kk : Z K cs ss (pc + 2) lv' st σ) : Z K cs ss pc lv (.ref x :: st) σ := fun H locs ls hP hS hl => lv_astore hk.exec hk.code d hl (by rw [hk.maxl]; exact hn) hv (fun ls' h => kk H locs ls' hP hS h)
theorem Z_iinc (hk : zIs K own cc nL Ts ret rm) (j : Nat) {i : Nat} {n : Int} {x v : Int32} (d : decode cc pc = .ok (.iinc i n, 3)) (hj : lv[j]? = some (i, .int x)) (hx : x + Int32.ofInt n = v) (hn : i < nL) (hv : (i, Value.int v) :: lv.filter (fun q => !(q.1 == i) && !(q.1 + 1 == i && q.2.category == 2)) = lv') (kk : Z K cs ss (pc + 3) lv' st σ) : Z K cs ss pc lv st σ := fun H locs ls hP hS hl => lv_iinc hk.exec hk.code d hl hj hx (by rw [hk.maxl]; exact hn) hv (fun ls' h => kk H locs ls' hP hS h)
theorem Z_iadd (hk : zIs K own cc nL Ts ret rm) {x y : Int32} (d : decode cc pc = .ok (.iadd, 1)) (kk : Z K cs ss (pc + 1) lv (.int (x + y) :: st) σ) : Z K cs ss pc lv (.int y :: .int x :: st) σ := fun H locs ls hP hS hl => lv_iadd hk.exec hk.code d (kk H locs ls hP hS hl)
theorem Z_isub (hk : zIs K own cc nL Ts ret rm) {x y : Int32} (d : decode cc pc = .ok (.isub, 1)) (kk : Z K cs ss (pc + 1) lv (.int (x - y) :: st) σ) : Z K cs ss pc lv (.int y :: .int x :: st) σ := fun H locs ls hP hS hl => lv_isub hk.exec hk.code d (kk H locs ls hP hS hl)
theorem Z_imul (hk : zIs K own cc nL Ts ret rm) {x y : Int32} (d : decode cc pc = .ok (.imul, 1)) (kk : Z K cs ss (pc + 1) lv (.int (x * y) :: st) σ) : Z K cs ss pc lv (.int y :: .int x :: st) σ := fun H locs ls hP hS hl => lv_imul hk.exec hk.code d (kk H locs ls hP hS hl)
theorem Z_iand (hk : zIs K own cc nL Ts ret rm) {x y : Int32} (d : decode cc pc = .ok (.iand, 1)) (kk : Z K cs ss (pc + 1) lv (.int (x &&& y) :: st) σ) : Z K cs ss pc lv (.int y :: .int x :: st) σ := fun H locs ls hP hS hl => lv_iand hk.exec hk.code d (kk H locs ls hP hS hl)
theorem Z_ior (hk : zIs K own cc nL Ts ret rm) {x y : Int32} (d : decode cc pc = .ok (.ior, 1)) (kk : Z K cs ss (pc + 1) lv (.int (x ||| y) :: st) σ) : Z K cs ss pc lv (.int y :: .int x :: st) σ := fun H locs ls hP hS hl => lv_ior hk.exec hk.code d (kk H locs ls hP hS hl)
theorem Z_ixor (hk : zIs K own cc nL Ts ret rm) {x y : Int32} (d : decode cc pc = .ok (.ixor, 1)) (kk : Z K cs ss (pc + 1) lv (.int (x ^^^ y) :: st) σ) : Z K cs ss pc lv (.int y :: .int x :: st) σ := fun H locs ls hP hS hl => lv_ixor hk.exec hk.code d (kk H locs ls hP hS hl)
theorem Z_ladd (hk : zIs K own cc nL Ts ret rm) {x y : Int64} (d : decode cc pc = .ok (.ladd, 1)) (kk : Z K cs ss (pc + 1) lv (.long (x + y) :: st) σ) : Z K cs ss pc lv (.long y :: .long x :: st) σ := fun H locs ls hP hS hl => lv_ladd hk.exec hk.code d (kk H locs ls hP hS hl)
theorem Z_lsub (hk : zIs K own cc nL Ts ret rm) {x y : Int64} (d : decode cc pc = .ok (.lsub, 1)) (kk : Z K cs ss (pc + 1) lv (.long (x - y) :: st) σ) : Z K cs ss pc lv (.long y :: .long x :: st) σ := fun H locs ls hP hS hl => lv_lsub hk.exec hk.code d (kk H locs ls hP hS hl)
theorem Z_lmul (hk : zIs K own cc nL Ts ret rm) {x y : Int64} (d : decode cc pc = .ok (.lmul, 1)) (kk : Z K cs ss (pc + 1) lv (.long (x * y) :: st) σ) : Z K cs ss pc lv (.long y :: .long x :: st) σ := fun H locs ls hP hS hl => lv_lmul hk.exec hk.code d (kk H locs ls hP hS hl)
theorem Z_land (hk : zIs K own cc nL Ts ret rm) {x y : Int64} (d : decode cc pc = .ok (.land, 1)) (kk : Z K cs ss (pc + 1) lv (.long (x &&& y) :: st) σ) : Z K cs ss pc lv (.long y :: .long x :: st) σ := fun H locs ls hP hS hl => lv_land hk.exec hk.code d (kk H locs ls hP hS hl)
theorem Z_lor (hk : zIs K own cc nL Ts ret rm) {x y : Int64} (d : decode cc pc = .ok (.lor, 1)) (kk : Z K cs ss (pc + 1) lv (.long (x ||| y) :: st) σ) : Z K cs ss pc lv (.long y :: .long x :: st) σ := fun H locs ls hP hS hl => lv_lor hk.exec hk.code d (kk H locs ls hP hS hl)
theorem Z_lxor (hk : zIs K own cc nL Ts ret rm) {x y : Int64} (d : decode cc pc = .ok (.lxor, 1)) (kk : Z K cs ss (pc + 1) lv (.long (x ^^^ y) :: st) σ) : Z K cs ss pc lv (.long y :: .long x :: st) σ := fun H locs ls hP hS hl => lv_lxor hk.exec hk.code d (kk H locs ls hP hS hl)
theorem Z_ineg (hk : zIs K own cc nL Ts ret rm) {x : Int32} (d : decode cc pc = .ok (.ineg, 1)) (kk : Z K cs ss (pc + 1) lv (.int (-x) :: st) σ) : Z K cs ss pc lv (.int x :: st) σ := fun H locs ls hP hS hl => lv_ineg hk.exec hk.code d (kk H locs ls hP hS hl)
theorem Z_ishl (hk : zIs K own cc nL Ts ret rm) {x y : Int32} (d : decode cc pc = .ok (.ishl, 1)) (kk : Z K cs ss (pc + 1) lv (.int (jshl x y) :: st) σ) : Z K cs ss pc lv (.int y :: .int x :: st) σ := fun H locs ls hP hS hl => lv_ishl hk.exec hk.code d (kk H locs ls hP hS hl)
theorem Z_ishr (hk : zIs K own cc nL Ts ret rm) {x y : Int32} (d : decode cc pc = .ok (.ishr, 1)) (kk : Z K cs ss (pc + 1) lv (.int (jshr x y) :: st) σ) : Z K cs ss pc lv (.int y :: .int x :: st) σ := fun H locs ls hP hS hl => lv_ishr hk.exec hk.code d (kk H locs ls hP hS hl)
theorem Z_iushr (hk : zIs K own cc nL Ts ret rm) {x y : Int32} (d : decode cc pc = .ok (.iushr, 1)) (kk : Z K cs ss (pc + 1) lv (.int (jushr x y) :: st) σ) : Z K cs ss pc lv (.int y :: .int x :: st) σ := fun H locs ls hP hS hl => lv_iushr hk.exec hk.code d rfl (kk H locs ls hP hS hl)
theorem Z_lshl (hk : zIs K own cc nL Ts ret rm) {x : Int64} {y : Int32} (d : decode cc pc = .ok (.lshl, 1)) (kk : Z K cs ss (pc + 1) lv (.long (jlshl x y) :: st) σ) : Z K cs ss pc lv (.int y :: .long x :: st) σ := fun H locs ls hP hS hl => lv_lshl hk.exec hk.code d rfl (kk H locs ls hP hS hl)
theorem Z_lshr (hk : zIs K own cc nL Ts ret rm) {x : Int64} {y : Int32} (d : decode cc pc = .ok (.lshr, 1)) (kk : Z K cs ss (pc + 1) lv (.long (jlshr x y) :: st) σ) : Z K cs ss pc lv (.int y :: .long x :: st) σ := fun H locs ls hP hS hl => lv_lshr hk.exec hk.code d rfl (kk H locs ls hP hS hl)
theorem Z_lushr (hk : zIs K own cc nL Ts ret rm) {x : Int64} {y : Int32} (d : decode cc pc = .ok (.lushr, 1)) (kk : Z K cs ss (pc + 1) lv (.long (jlushr x y) :: st) σ) : Z K cs ss pc lv (.int y :: .long x :: st) σ := fun H locs ls hP hS hl => lv_lushr hk.exec hk.code d rfl (kk H locs ls hP hS hl)
theorem Z_i2l (hk : zIs K own cc nL Ts ret rm) {x : Int32} (d : decode cc pc = .ok (.i2l, 1)) (kk : Z K cs ss (pc + 1) lv (.long x.toInt64 :: st) σ) : Z K cs ss pc lv (.int x :: st) σ := fun H locs ls hP hS hl => lv_i2l hk.exec hk.code d rfl (kk H locs ls hP hS hl)
theorem Z_l2i (hk : zIs K own cc nL Ts ret rm) {x : Int64} (d : decode cc pc = .ok (.l2i, 1)) (kk : Z K cs ss (pc + 1) lv (.int x.toInt32 :: st) σ) : Z K cs ss pc lv (.long x :: st) σ := fun H locs ls hP hS hl => lv_l2i hk.exec hk.code d rfl (kk H locs ls hP hS hl)
theorem Z_lcmp (hk : zIs K own cc nL Ts ret rm) {x y : Int64} (d : decode cc pc = .ok (.lcmp, 1)) (kk : Z K cs ss (pc + 1) lv (.int (lg_cmp x y) :: st) σ) : Z K cs ss pc lv (.long y :: .long x :: st) σ := fun H locs ls hP hS hl => W.lcmp hk.exec hk.code d (kk H locs ls hP hS hl)
theorem Z_idiv (hk : zIs K own cc nL Ts ret rm) {x y : Int32} (d : decode cc pc = .ok (.idiv, 1)) (hne : ¬ y = 0) (kk : Z K cs ss (pc + 1) lv (.int (x / y) :: st) σ) : Z K cs ss pc lv (.int y :: .int x :: st) σ := fun H locs ls hP hS hl => lv_idiv hk.exec hk.code d hne (kk H locs ls hP hS hl)
theorem Z_irem (hk : zIs K own cc nL Ts ret rm) {x y : Int32} (d : decode cc pc = .ok (.irem, 1)) (hne : ¬ y = 0) (kk : Z K cs ss (pc + 1) lv (.int (x - x / y * y) :: st) σ) : Z K cs ss pc lv (.int y :: .int x :: st) σ := fun H locs ls hP hS hl => lv_irem hk.exec hk.code d hne (kk H locs ls hP hS hl)
theorem Z_dup (hk : zIs K own cc nL Ts ret rm) {v : Value} (d : decode cc pc = .ok (.dup, 1)) (hc : v.category = 1) (kk : Z K cs ss (pc + 1) lv (v :: v :: st) σ) : Z K cs ss pc lv (v :: st) σ := fun H locs ls hP hS hl => lv_dup hk.exec hk.code d hc (kk H locs ls hP hS hl)
theorem Z_dup2 (hk : zIs K own cc nL Ts ret rm) {v w : Value} (d : decode cc pc = .ok (.dup2, 1)) (hc : v.category = 1) (hd : w.category = 1) (kk : Z K cs ss (pc + 1) lv (v :: w :: v :: w :: st) σ) : Z K cs ss pc lv (v :: w :: st) σ := fun H locs ls hP hS hl => lv_dup2_11 hk.exec hk.code d hc hd (kk H locs ls hP hS hl)
theorem Z_pop (hk : zIs K own cc nL Ts ret rm) {v : Value} (d : decode cc pc = .ok (.pop, 1)) (hc : v.category = 1) (kk : Z K cs ss (pc + 1) lv st σ) : Z K cs ss pc lv (v :: st) σ := fun H locs ls hP hS hl => lv_pop hk.exec hk.code d hc (kk H locs ls hP hS hl)
theorem Z_goto (hk : zIs K own cc nL Ts ret rm) {off : Int} {tgt : Nat} (d : decode cc pc = .ok (.goto off, 3)) (ht : (pc : Int) + off = (tgt : Int)) (kk : Z K cs ss tgt lv st σ) : Z K cs ss pc lv st σ := fun H locs ls hP hS hl => lv_goto hk.exec hk.code d ht (kk H locs ls hP hS hl)
theorem Z_if_eq (hk : zIs K own cc nL Ts ret rm) {x : Int32} {off : Int} {tgt : Nat} (d : decode cc pc = .ok (.ifCond .eq off, 3)) (ht : (pc : Int) + off = (tgt : Int)) (kt : x = 0 → Z K cs ss tgt lv st σ) (kf : ¬ x = 0 → Z K cs ss (pc + 3) lv st σ) : Z K cs ss pc lv (.int x :: st) σ := fun H locs ls hP hS hl => lv_if_eq hk.exec hk.code d ht (fun h => kt h H locs ls hP hS hl) (fun h => kf h H locs ls hP hS hl)
theorem Z_if_lt (hk : zIs K own cc nL Ts ret rm) {x : Int32} {off : Int} {tgt : Nat} (d : decode cc pc = .ok (.ifCond .lt off, 3)) (ht : (pc : Int) + off = (tgt : Int)) (kt : x < 0 → Z K cs ss tgt lv st σ) (kf : ¬ x < 0 → Z K cs ss (pc + 3) lv st σ) : Z K cs ss pc lv (.int x :: st) σ := fun H locs ls hP hS hl => lv_if_lt hk.exec hk.code d ht (fun h => kt h H locs ls hP hS hl) (fun h => kf h H locs ls hP hS hl)
theorem Z_if_ge (hk : zIs K own cc nL Ts ret rm) {x : Int32} {off : Int} {tgt : Nat} (d : decode cc pc = .ok (.ifCond .ge off, 3)) (ht : (pc : Int) + off = (tgt : Int)) (kt : 0 ≤ x → Z K cs ss tgt lv st σ) (kf : ¬ 0 ≤ x → Z K cs ss (pc + 3) lv st σ) : Z K cs ss pc lv (.int x :: st) σ := fun H locs ls hP hS hl => lv_if_ge hk.exec hk.code d ht (fun h => kt h H locs ls hP hS hl) (fun h => kf h H locs ls hP hS hl)
theorem Z_if_gt (hk : zIs K own cc nL Ts ret rm) {x : Int32} {off : Int} {tgt : Nat} (d : decode cc pc = .ok (.ifCond .gt off, 3)) (ht : (pc : Int) + off = (tgt : Int)) (kt : 0 < x → Z K cs ss tgt lv st σ) (kf : ¬ 0 < x → Z K cs ss (pc + 3) lv st σ) : Z K cs ss pc lv (.int x :: st) σ := fun H locs ls hP hS hl => lv_if_gt hk.exec hk.code d ht (fun h => kt h H locs ls hP hS hl) (fun h => kf h H locs ls hP hS hl)
theorem Z_if_le (hk : zIs K own cc nL Ts ret rm) {x : Int32} {off : Int} {tgt : Nat} (d : decode cc pc = .ok (.ifCond .le off, 3)) (ht : (pc : Int) + off = (tgt : Int)) (kt : x ≤ 0 → Z K cs ss tgt lv st σ) (kf : ¬ x ≤ 0 → Z K cs ss (pc + 3) lv st σ) : Z K cs ss pc lv (.int x :: st) σ := fun H locs ls hP hS hl => lv_if_le hk.exec hk.code d ht (fun h => kt h H locs ls hP hS hl) (fun h => kf h H locs ls hP hS hl)
theorem Z_icmp_eq (hk : zIs K own cc nL Ts ret rm) {x y : Int32} {off : Int} {tgt : Nat} (d : decode cc pc = .ok (.if_icmp .eq off, 3)) (ht : (pc : Int) + off = (tgt : Int)) (kt : x = y → Z K cs ss tgt lv st σ) (kf : ¬ x = y → Z K cs ss (pc + 3) lv st σ) : Z K cs ss pc lv (.int y :: .int x :: st) σ := fun H locs ls hP hS hl => lv_icmp_eq hk.exec hk.code d ht (fun h => kt h H locs ls hP hS hl) (fun h => kf h H locs ls hP hS hl)
theorem Z_icmp_lt (hk : zIs K own cc nL Ts ret rm) {x y : Int32} {off : Int} {tgt : Nat} (d : decode cc pc = .ok (.if_icmp .lt off, 3)) (ht : (pc : Int) + off = (tgt : Int)) (kt : x < y → Z K cs ss tgt lv st σ) (kf : ¬ x < y → Z K cs ss (pc + 3) lv st σ) : Z K cs ss pc lv (.int y :: .int x :: st) σ := fun H locs ls hP hS hl => lv_icmp_lt hk.exec hk.code d ht (fun h => kt h H locs ls hP hS hl) (fun h => kf h H locs ls hP hS hl)
theorem Z_icmp_ge (hk : zIs K own cc nL Ts ret rm) {x y : Int32} {off : Int} {tgt : Nat} (d : decode cc pc = .ok (.if_icmp .ge off, 3)) (ht : (pc : Int) + off = (tgt : Int)) (kt : y ≤ x → Z K cs ss tgt lv st σ) (kf : ¬ y ≤ x → Z K cs ss (pc + 3) lv st σ) : Z K cs ss pc lv (.int y :: .int x :: st) σ := fun H locs ls hP hS hl => lv_icmp_ge hk.exec hk.code d ht (fun h => kt h H locs ls hP hS hl) (fun h => kf h H locs ls hP hS hl)
theorem Z_icmp_gt (hk : zIs K own cc nL Ts ret rm) {x y : Int32} {off : Int} {tgt : Nat} (d : decode cc pc = .ok (.if_icmp .gt off, 3)) (ht : (pc : Int) + off = (tgt : Int)) (kt : y < x → Z K cs ss tgt lv st σ) (kf : ¬ y < x → Z K cs ss (pc + 3) lv st σ) : Z K cs ss pc lv (.int y :: .int x :: st) σ := fun H locs ls hP hS hl => lv_icmp_gt hk.exec hk.code d ht (fun h => kt h H locs ls hP hS hl) (fun h => kf h H locs ls hP hS hl)
theorem Z_icmp_le (hk : zIs K own cc nL Ts ret rm) {x y : Int32} {off : Int} {tgt : Nat} (d : decode cc pc = .ok (.if_icmp .le off, 3)) (ht : (pc : Int) + off = (tgt : Int)) (kt : x ≤ y → Z K cs ss tgt lv st σ) (kf : ¬ x ≤ y → Z K cs ss (pc + 3) lv st σ) : Z K cs ss pc lv (.int y :: .int x :: st) σ := fun H locs ls hP hS hl => lv_icmp_le hk.exec hk.code d ht (fun h => kt h H locs ls hP hS hl) (fun h => kf h H locs ls hP hS hl)
theorem Z_if_ne (hk : zIs K own cc nL Ts ret rm) {x : Int32} {off : Int} {tgt : Nat} (d : decode cc pc = .ok (.ifCond .ne off, 3)) (ht : (pc : Int) + off = (tgt : Int)) (kf : x = 0 → Z K cs ss (pc + 3) lv st σ) (kt : ¬ x = 0 → Z K cs ss tgt lv st σ) : Z K cs ss pc lv (.int x :: st) σ := fun H locs ls hP hS hl => lv_if_ne hk.exec hk.code d ht (fun h => kt h H locs ls hP hS hl) (fun h => kf h H locs ls hP hS hl)
theorem Z_icmp_ne (hk : zIs K own cc nL Ts ret rm) {x y : Int32} {off : Int} {tgt : Nat} (d : decode cc pc = .ok (.if_icmp .ne off, 3)) (ht : (pc : Int) + off = (tgt : Int)) (kf : x = y → Z K cs ss (pc + 3) lv st σ) (kt : ¬ x = y → Z K cs ss tgt lv st σ) : Z K cs ss pc lv (.int y :: .int x :: st) σ := fun H locs ls hP hS hl => lv_icmp_ne hk.exec hk.code d ht (fun h => kt h H locs ls hP hS hl) (fun h => kf h H locs ls hP hS hl)
theorem Z_sub (ks : List Nat) (hl' : lv_pick lv ks = lv') (kk : Z K cs ss pc lv' st σ) : Z K cs ss pc lv st σ := fun H locs ls hP hS hl => kk H locs ls hP hS (lv_sub hl ks hl')
theorem Z_eqI {x y : Int32} (h : x = y) (kk : Z K cs ss pc lv (.int y :: st) σ) : Z K cs ss pc lv (.int x :: st) σ := h ▸ kk
theorem Z_eqL {x y : Int64} (h : x = y) (kk : Z K cs ss pc lv (.long y :: st) σ) : Z K cs ss pc lv (.long x :: st) σ := h ▸ kk
theorem Z_eqS (h : σ = τ) (kk : Z K cs ss pc lv st τ) : Z K cs ss pc lv st σ := h ▸ kk
theorem Z_widen {cs' ss' : Nat} (h1 : cs ≤ cs') (h2 : ss ≤ ss') (kk : Z K cs' ss' pc lv st σ) : Z K cs ss pc lv st σ := fun H locs ls hP hS hl => W.widen h1 h2 (kk H locs ls hP hS hl)
-- fields: of an object at the place q
theorem Z_get (hk : zIs K own cc nL Ts ret rm) {C : String} {T : u_T} {N ci ix q : Nat} {fs : List Value} {v : Value} (hin : ∀ w ∈ u_ws C T N, w ∈ Ts) (hc : vwCl[ci]? = some (C, T, N)) (hq : q < eN (kZ K)) (hs : eS (kZ K) q σ = .inr (ci, fs)) (k : Nat) (hkN : k < N) (hw : Cond.fieldLink own ix (T k).1 (T k).2.1 (T k).2.2.1 ∈ Ts) (hv : fs[k]? = some v) (d : decode cc pc = .ok (.getfield ix, 3)) (kk : Z K cs ss (pc + 3) lv (v :: st) σ) : Z K cs ss pc lv (.ref (eA (kZ K) q) :: st) σ :=
  fun H locs ls hP hS hl => va_get hk.exec hk.code hk.wd hin hk.ow hk.cls hP q (by rw [wd_at hq, hs]) hc k hkN (hk.wd _ hw) (fun _ h => h) hv d (kk H locs ls hP hS hl)
theorem Z_getN (hk : zIs K own cc nL Ts ret rm) {C host : String} {T : u_T} {N ci ix q : Nat} {fs : List Value} {v : Value} (hin : ∀ w ∈ u_ws C T N, w ∈ Ts) (hc : vwCl[ci]? = some (C, T, N)) (hq : q < eN (kZ K)) (hs : eS (kZ K) q σ = .inr (ci, fs)) (k : Nat) (hkN : k < N) (hw : Cond.fieldLinkNest own ix (T k).1 (T k).2.1 (T k).2.2.1 host ∈ zNW) (hv : fs[k]? = some v) (d : decode cc pc = .ok (.getfield ix, 3)) (kk : Z K cs ss (pc + 3) lv (v :: st) σ) : Z K cs ss pc lv (.ref (eA (kZ K) q) :: st) σ :=
  fun H locs ls hP hS hl => va_getN hk.exec hk.code hk.wd hin hk.ow hk.cls hP q (by rw [wd_at hq, hs]) hc k hkN (va_Nw.use rfl (hk.nest hw)) (fun _ h => h) hv d (kk H locs ls hP hS hl)
theorem Z_put (hk : zIs K own cc nL Ts ret rm) {C : String} {T : u_T} {N ci ix q : Nat} {fs : List Value} {x : Int32} (hin : ∀ w ∈ u_ws C T N, w ∈ Ts) (ty0 : Nat → FieldType) (hty : ∀ k, k < N → parseFieldDescriptor (T k).2.2.1 = some (ty0 k)) (hnm : ∀ a, a < N → ∀ b, b < N → a ≠ b → (T a).2.1 ≠ (T b).2.1) (hc : vwCl[ci]? = some (C, T, N)) (hq : q < eN (kZ K)) (hs : eS (kZ K) q σ = .inr (ci, fs)) (k : Nat) (hkN : k < N) (hw : Cond.fieldLink own ix (T k).1 (T k).2.1 (T k).2.2.1 ∈ Ts) (hfin : (T k).2.2.2 = false) (hd : parseFieldDescriptor (T k).2.2.1 = some .int) (hl : k < fs.length) (hs' : eS (kZ K) q (sI σ q k x) = .inr (ci, fs.set k (.int x))) (d : decode cc pc = .ok (.putfield ix, 3)) (kk : Z K cs ss (pc + 3) lv st (sI σ q k x)) : Z K cs ss pc lv (.int x :: .ref (eA (kZ K) q) :: st) σ :=
  fun H locs ls hP hS hls => va_put hk.exec hk.code hk.wd hin ty0 hty hnm hk.ow hk.cls hP (wd_D hk.inj) hS q (by rw [wd_at hq, hs]) hc k hkN (hk.wd _ hw) (fun _ h => h) hfin hd rfl rfl hl d (fun H1 locs1 hP1 _ hS1 => kk H1 locs1 ls (by rw [wd_set hk.loc hs' sI_off] at hP1; exact hP1) hS1 hls)
theorem Z_putN (hk : zIs K own cc nL Ts ret rm) {C host : String} {T : u_T} {N ci ix q : Nat} {fs : List Value} {x : Int32} (hin : ∀ w ∈ u_ws C T N, w ∈ Ts) (ty0 : Nat → FieldType) (hty : ∀ k, k < N → parseFieldDescriptor (T k).2.2.1 = some (ty0 k)) (hnm : ∀ a, a < N → ∀ b, b < N → a ≠ b → (T a).2.1 ≠ (T b).2.1) (hc : vwCl[ci]? = some (C, T, N)) (hq : q < eN (kZ K)) (hs : eS (kZ K) q σ = .inr (ci, fs)) (k : Nat) (hkN : k < N) (hw : Cond.fieldLinkNest own ix (T k).1 (T k).2.1 (T k).2.2.1 host ∈ zNW) (hfin : (T k).2.2.2 = false) (hd : parseFieldDescriptor (T k).2.2.1 = some .int) (hl : k < fs.length) (hs' : eS (kZ K) q (sI σ q k x) = .inr (ci, fs.set k (.int x))) (d : decode cc pc = .ok (.putfield ix, 3)) (kk : Z K cs ss (pc + 3) lv st (sI σ q k x)) : Z K cs ss pc lv (.int x :: .ref (eA (kZ K) q) :: st) σ :=
  fun H locs ls hP hS hls => va_putN hk.exec hk.code hk.wd hin ty0 hty hnm hk.ow hk.cls hP (wd_D hk.inj) hS q (by rw [wd_at hq, hs]) hc k hkN (va_Nw.use rfl (hk.nest hw)) (fun _ h => h) hfin hd rfl rfl hl d (fun H1 locs1 hP1 _ hS1 => kk H1 locs1 ls (by rw [wd_set hk.loc hs' sI_off] at hP1; exact hP1) hS1 hls)
-- arrays at a place q
def aI (E : zE) (q n : Nat) : Prop := q < eN E ∧ ∀ σ, eS E q σ = .inl (eC E 0, n, .inl (σ.1 q))
def aJ (E : zE) (q n : Nat) : Prop := q < eN E ∧ ∀ σ, eS E q σ = .inl (eC E 1, n, .inr (.inl (σ.2 q)))
def aG (E : zE) (q p n : Nat) : Prop := q < eN E ∧ ∃ f : Nat → Option Nat, (∀ σ, eS E q σ = .inl (eC E 3, n, .inr (.inr (.inr (.inr f))))) ∧ ∀ k, k < n → f k = some (eA E (p + 3 * k))
theorem Z_iald (hk : zIs K own cc nL Ts ret rm) {q n : Nat} {i : Int32} (ha : aI (kZ K) q n) (hin : vp_in i n) (d : decode cc pc = .ok (.iaload, 1)) (kk : Z K cs ss (pc + 1) lv (.int (gI σ q i.toNatClampNeg) :: st) σ) : Z K cs ss pc lv (.int i :: .ref (eA (kZ K) q) :: st) σ :=
  fun H locs ls hP hS hl => va_iald (f := σ.1 q) hk.exec hk.code hk.cls hP q 0 (by rw [wd_at ha.1, ha.2]) rfl hin d (kk H locs ls hP hS hl)
theorem Z_lald (hk : zIs K own cc nL Ts ret rm) {q n : Nat} {i : Int32} (ha : aJ (kZ K) q n) (hin : vp_in i n) (d : decode cc pc = .ok (.laload, 1)) (kk : Z K cs ss (pc + 1) lv (.long (gL σ q i.toNatClampNeg) :: st) σ) : Z K cs ss pc lv (.int i :: .ref (eA (kZ K) q) :: st) σ :=
  fun H locs ls hP hS hl => va_lald (f := σ.2 q) hk.exec hk.code hk.cls hP q 1 (by rw [wd_at ha.1, ha.2]) rfl hin d (kk H locs ls hP hS hl)
theorem Z_iast (hk : zIs K own cc nL Ts ret rm) {q n : Nat} {i x : Int32} (ha : aI (kZ K) q n) (hin : vp_in i n) (d : decode cc pc = .ok (.iastore, 1)) (kk : Z K cs ss (pc + 1) lv st (sI σ q i.toNatClampNeg x)) : Z K cs ss pc lv (.int x :: .int i :: .ref (eA (kZ K) q) :: st) σ :=
  fun H locs ls hP hS hl => va_iast hk.exec hk.code hk.cls hP (wd_D hk.inj) hS q 0 (by rw [wd_at ha.1, ha.2]) rfl hin d (fun H1 locs1 hP1 _ hS1 => kk H1 locs1 ls (by rw [wd_set hk.loc (τ := sI σ q i.toNatClampNeg x) (by rw [ha.2, sI_at]) sI_off] at hP1; exact hP1) hS1 hl)
theorem Z_last (hk : zIs K own cc nL Ts ret rm) {q n : Nat} {i : Int32} {x : Int64} (ha : aJ (kZ K) q n) (hin : vp_in i n) (d : decode cc pc = .ok (.lastore, 1)) (kk : Z K cs ss (pc + 1) lv st (sL σ q i.toNatClampNeg x)) : Z K cs ss pc lv (.long x :: .int i :: .ref (eA (kZ K) q) :: st) σ :=
  fun H locs ls hP hS hl => va_last hk.exec hk.code hk.cls hP (wd_D hk.inj) hS q 1 (by rw [wd_at ha.1, ha.2]) rfl hin d (fun H1 locs1 hP1 _ hS1 => kk H1 locs1 ls (by rw [wd_set hk.loc (τ := sL σ q i.toNatClampNeg x) (by rw [ha.2, sL_at]) sL_off] at hP1; exact hP1) hS1 hl)
theorem Z_ialen (hk : zIs K own cc nL Ts ret rm) {q n : Nat} (ha : aI (kZ K) q n) (d : decode cc pc = .ok (.arraylength, 1)) (kk : Z K cs ss (pc + 1) lv (.int (nI n) :: st) σ) : Z K cs ss pc lv (.ref (eA (kZ K) q) :: st) σ :=
  fun H locs ls hP hS hl => va_alen (x := (n, .inl (σ.1 q))) hk.exec hk.code hk.cls hP q 0 (by rw [wd_at ha.1, ha.2]) rfl rfl d (kk H locs ls hP hS hl)
theorem Z_lalen (hk : zIs K own cc nL Ts ret rm) {q n : Nat} (ha : aJ (kZ K) q n) (d : decode cc pc = .ok (.arraylength, 1)) (kk : Z K cs ss (pc + 1) lv (.int (nI n) :: st) σ) : Z K cs ss pc lv (.ref (eA (kZ K) q) :: st) σ :=
  fun H locs ls hP hS hl => va_alen (x := (n, .inr (.inl (σ.2 q)))) hk.exec hk.code hk.cls hP q 1 (by rw [wd_at ha.1, ha.2]) rfl rfl d (kk H locs ls hP hS hl)
theorem Z_gtab (hk : zIs K own cc nL Ts ret rm) {ix : Nat} (hw : Cond.fieldLink own ix "CanonCote$Arranging" "LOWEST_EDGE_BIT" "[I" ∈ Ts) (d : decode cc pc = .ok (.getstatic ix, 3)) (kk : ∀ t : Nat, va_T .int t 8 (fun j => .int (zTb j)) (kO K) (kS K) (kS K).heap → Z K cs ss (pc + 3) lv (.ref t :: st) σ) : Z K cs ss pc lv st σ := by
  obtain ⟨t, h1, h2⟩ := hk.env.2.1
  exact fun H locs ls hP hS hl => va_gets hk.exec hk.code h1 hS hk.ow (hk.wd _ hw) (fun _ h => h) d (kk t h2 H locs ls hP hS hl)
theorem Z_tld (hk : zIs K own cc nL Ts ret rm) {t : Nat} {i : Int32} (hT : va_T .int t 8 (fun j => .int (zTb j)) (kO K) (kS K) (kS K).heap) (hin : vp_in i 8) (d : decode cc pc = .ok (.iaload, 1)) (kk : Z K cs ss (pc + 1) lv (.int (zTb i.toNatClampNeg) :: st) σ) : Z K cs ss pc lv (.int i :: .ref t :: st) σ :=
  fun H locs ls hP hS hl => va_ti hk.exec hk.code hT hS hin rfl d (kk H locs ls hP hS hl)
theorem Z_mmin (hk : zIs K own cc nL Ts ret rm) {ix : Nat} {x y : Int32} (hw : Cond.methodLink own ix Lib.Math.min.name ∈ Ts ∧ Cond.static Lib.Math.min.name ∈ Ts ∧ Cond.initialized "java/lang/Math" ∈ Ts ∧ Cond.code Lib.Math.min.name Lib.Math.min.code 2 (some .int) ∈ Ts) (hR : 1 ≤ rm.frames ∧ 21 ≤ rm.locals) (hst : (st.map fun v => v.category).sum ≤ 8) (hcs : cs ≤ rm.cells ∧ ss ≤ rm.slots) (d : decode cc pc = .ok (.invokestatic ix, 3)) (kk : Z K cs ss (pc + 3) lv (.int (if y < x then y else x) :: st) σ) : Z K cs ss pc lv (.int y :: .int x :: st) σ :=
  fun H locs ls hP hS hl => va_mmin hk.exec hk.code hl.1.symm hk.ow (hk.wd _ hw.1) (hk.wd _ hw.2.1) (hk.wd _ hw.2.2.1) (hk.wd _ hw.2.2.2) (by rw [hk.room]; exact hR.1) (by rw [hk.room]; have := hR.2; omega) (by rw [hk.room]; exact hcs.1) (by rw [hk.room]; exact hcs.2) d (kk H locs ls hP hS hl)
-- ends
theorem Z_iret (hk : zIs K own cc nL Ts (some .int) rm) {x : Int32} (hq : zQ K (some (.int x)) σ) (d : decode cc pc = .ok (.ireturn, 1)) : Z K 0 0 pc lv [.int x] σ := by
  intro H locs ls hP hS hl
  unfold kW
  rw [hq]
  exact W.iret hk.exec hk.code hk.rt (fun t ht hW => ⟨rfl, by rw [ht]; exact hP, hS.F ht⟩) hS.2.2 d hk.nolock
theorem Z_zret (hk : zIs K own cc nL Ts (some .boolean) rm) {x : Int32} (hx : x = 0 ∨ x = 1) (hq : zQ K (some (.int x)) σ) (d : decode cc pc = .ok (.ireturn, 1)) : Z K 0 0 pc lv [.int x] σ := by
  intro H locs ls hP hS hl
  unfold kW
  rw [hq]
  exact W.zret hk.exec hk.code hk.rt (by rcases hx with rfl | rfl <;> rfl) (fun t ht hW => ⟨rfl, by rw [ht]; exact hP, hS.F ht⟩) hS.2.2 d hk.nolock
theorem Z_lret (hk : zIs K own cc nL Ts (some .long) rm) {x : Int64} (hq : zQ K (some (.long x)) σ) (d : decode cc pc = .ok (.lreturn, 1)) : Z K 0 0 pc lv [.long x] σ := by
  intro H locs ls hP hS hl
  unfold kW
  rw [hq]
  exact W.lret hk.exec hk.code hk.rt (fun t ht hW => ⟨rfl, by rw [ht]; exact hP, hS.F ht⟩) hS.2.2 d hk.nolock
theorem Z_vret (hk : zIs K own cc nL Ts none rm) (hq : zQ K none σ) (d : decode cc pc = .ok (.return_, 1)) : Z K 0 0 pc lv [] σ := by
  intro H locs ls hP hS hl
  unfold kW
  rw [hq]
  exact W.vret hk.exec hk.code hk.rt (fun t ht hW => ⟨rfl, by rw [ht]; exact hP, hS.F ht⟩) hS.2.2 d hk.nolock
-- calls
theorem Z_pre (hk : zIs K own cc nL Ts ret rm) {H : Heap} {locs : List Loc} (hP : va_P (eD (kZ K)) vwCl (wd (kZ K) σ) H) (hS : va_S (kO K) (kS K).heap H locs) (as : List Value) : ∀ U : State, U.heap = H → (kS K).WarmedH U.vm → zPc (kZ K) as σ H.size as.toArray U :=
  fun U hU hW => ⟨rfl, by rw [hU], by rw [hU]; exact hP, va_K.moved hW.alike hk.cls, EF.step hk.env (fun a h1 h2 => hS.2.1 a h1 h2) (OA_mono hS.1) hU hW⟩
theorem Z_go {H : Heap} {locs : List Loc} {ls : Array Slot} {rv : Option Value} {stk : List Value} (hr : va_Run (kP K) (kL K) (kE K) (kR K) (kS K) (kM K) (kA K) (kB K) (kH K) (kC K) H locs cs ss 0 0 (F0 (kM K) pc ls stk) st (zQc (kZ K) rv τ H.size (Array.empty)) (OA (kZ K) H.size)) (hS : va_S (kO K) (kS K).heap H locs) (hl : lv_has ls (kC K).maxLocals lv) (kk : Z K cs ss (pc + 3) lv (rv.toList ++ st) τ) : kW K H locs cs ss (F0 (kM K) pc ls stk) := by
  intro T hT X
  obtain ⟨v, st₀, t, T', L, h0, X', hL, e1, e2, ⟨hv, hp, hF⟩, stp⟩ := hr T hT X
  cases hv
  obtain ⟨-, -, hS'⟩ := vx_keep h0 e1 hS (A1 := OA (kZ K) H.size) (free := OA (kZ K) H.size) (fun q _ h => OA_mono hS.1 q h) (OA_mono hS.1) hL hF
  obtain ⟨t2, a1, b1⟩ := kk T'.heap (locs ++ L) ls (by rw [e1]; exact hp) hS' hl T' rfl X'
  exact ⟨t2, stp t2 a1, b1⟩
variable {y : MethodName} {wsc ws' : List Cond} {rmc : Room} {rv : Option Value} {bytes : ByteArray} {maxL ix q : Nat} {retc : Option FieldType} {stk : List Value}
theorem Z_recv (hk : zIs K own cc nL Ts ret rm) {C : String} {T : u_T} {N : Nat} (ci : Nat) {fs : List Value} (hq : q < eN (kZ K)) (hs : eS (kZ K) q σ = .inr (ci, fs)) (hc : vwCl[ci]? = some (C, T, N)) {H : Heap} (hP : va_P (eD (kZ K)) vwCl (wd (kZ K) σ) H) : ∃ cellB : Cell, H[eA (kZ K) q]? = some cellB ∧ cellB.vm.isStatics = false ∧ (kS K).vm.findClass C = some cellB.cls :=
  va_recv hk.cls hP hc (q0 := q) (by rw [wd_at hq, hs])
theorem Z_callV (n : Nat) (hk : zIs K own cc nL Ts ret rm) {C : String} {T : u_T} {N ci : Nat} {fs : List Value} (as : List Value) (hc : Ct (kL K) y wsc rmc (kZ K) (.ref (eA (kZ K) q) :: as) σ rv τ) (hT : GoodIn Ts (wsV own ix C y wsc)) (hw : wsc = Cond.code y bytes maxL retc :: ws') (h0 : rmc.cells = 0 ∧ rmc.slots = 0) (hd : y.cls = C ∧ y.cls ≠ "java/lang/invoke/MethodHandle" ∧ y.cls ≠ "java/lang/invoke/VarHandle" ∧ (parseMethodDescriptor y.desc).map (fun d => d.parameters.length) = some n) (hR : rmc.frames + 1 ≤ rm.frames ∧ 8 + (maxL + 11) + rmc.locals ≤ rm.locals)
    (hq : q < eN (kZ K)) (hs : eS (kZ K) q σ = .inr (ci, fs)) (hcl : vwCl[ci]? = some (C, T, N)) (hn : as.length = n) (hstk : stk = as.reverse ++ .ref (eA (kZ K) q) :: st) (hW : (st.map fun v => v.category).sum ≤ 8) (hcs : cs ≤ rm.cells ∧ ss ≤ rm.slots) (d : decode cc pc = .ok (.invokevirtual ix, 3)) (kk : Z K cs ss (pc + 3) lv (rv.toList ++ st) τ) : Z K cs ss pc lv stk σ := by
  intro H locs ls hP hS hl
  subst hstk
  exact Z_go (va_runV (As := as) (rest := st) ⟨hk.exec, hk.code, hk.maxl, hk.ow, hk.wd⟩ (hc H.size) (cwV n hk.wd hT hw h0.1 h0.2 hd (by rw [hk.room]; exact hR)) ⟨zPc_blind, Z_recv hk ci hq hs hcl hP, Z_pre hk hP hS _⟩ rfl hn (hl.1.trans hk.maxl) rfl (lv_room hW) d (by rw [hk.room]; exact hcs)) hS hl kk
theorem Z_callVN (n : Nat) (hk : zIs K own cc nL Ts ret rm) {C host : String} {T : u_T} {N ci : Nat} {fs : List Value} (as : List Value) (hc : Ct (kL K) y wsc rmc (kZ K) (.ref (eA (kZ K) q) :: as) σ rv τ) (hT : GoodIn Ts wsc) (hnw : Cond.methodLinkNest own ix y host ∈ zNW) (hw : wsc = Cond.code y bytes maxL retc :: ws') (h0 : rmc.cells = 0 ∧ rmc.slots = 0) (hi : Cond.initialized y.cls ∈ Ts ∧ Cond.instanceMethod y ∈ Ts ∧ Cond.selects C y y ∈ Ts) (hd : y.cls ≠ "java/lang/invoke/MethodHandle" ∧ y.cls ≠ "java/lang/invoke/VarHandle" ∧ (parseMethodDescriptor y.desc).map (fun d => d.parameters.length) = some n) (hR : rmc.frames + 1 ≤ rm.frames ∧ 8 + (maxL + 11) + rmc.locals ≤ rm.locals)
    (hq : q < eN (kZ K)) (hs : eS (kZ K) q σ = .inr (ci, fs)) (hcl : vwCl[ci]? = some (C, T, N)) (hn : as.length = n) (hstk : stk = as.reverse ++ .ref (eA (kZ K) q) :: st) (hW : (st.map fun v => v.category).sum ≤ 8) (hcs : cs ≤ rm.cells ∧ ss ≤ rm.slots) (d : decode cc pc = .ok (.invokevirtual ix, 3)) (kk : Z K cs ss (pc + 3) lv (rv.toList ++ st) τ) : Z K cs ss pc lv stk σ := by
  intro H locs ls hP hS hl
  subst hstk
  exact Z_go (va_runVN (As := as) (rest := st) ⟨hk.exec, hk.code, hk.maxl, hk.ow, hk.wd⟩ (hc H.size) ⟨va_cnB n hk.wd hT hw h0.1 h0.2 (hk.nest hnw) (hk.wd _ hi.1) hd (by rw [hk.room]; exact hR), hk.wd _ hi.2.1, hk.wd _ hi.2.2⟩ ⟨zPc_blind, Z_recv hk ci hq hs hcl hP, Z_pre hk hP hS _⟩ rfl hn (hl.1.trans hk.maxl) rfl (lv_room hW) d (by rw [hk.room]; exact hcs)) hS hl kk
theorem Z_callS (n : Nat) (hk : zIs K own cc nL Ts ret rm) (as : List Value) (hc : Ct (kL K) y wsc rmc (kZ K) as σ rv τ) (hT : GoodIn Ts (wsS own ix y wsc)) (hw : wsc = Cond.code y bytes maxL retc :: ws') (h0 : rmc.cells = 0 ∧ rmc.slots = 0) (hd : y.cls = own ∧ y.cls ≠ "java/lang/invoke/MethodHandle" ∧ y.cls ≠ "java/lang/invoke/VarHandle" ∧ (parseMethodDescriptor y.desc).map (fun d => d.parameters.length) = some n) (hR : rmc.frames + 1 ≤ rm.frames ∧ 8 + (maxL + 11) + rmc.locals ≤ rm.locals)
    (hn : as.length = n) (hstk : stk = as.reverse ++ st) (hW : (st.map fun v => v.category).sum ≤ 8) (hcs : cs ≤ rm.cells ∧ ss ≤ rm.slots) (d : decode cc pc = .ok (.invokestatic ix, 3)) (kk : Z K cs ss (pc + 3) lv (rv.toList ++ st) τ) : Z K cs ss pc lv stk σ := by
  intro H locs ls hP hS hl
  subst hstk
  exact Z_go (va_runS (As := as) (rest := st) ⟨hk.exec, hk.code, hk.maxl, hk.ow, hk.wd⟩ (hc H.size) (cwS n hk.wd hT hw h0.1 h0.2 hd (by rw [hk.room]; exact hR)) ⟨zPc_blind, Z_pre hk hP hS _⟩ rfl hn (hl.1.trans hk.maxl) rfl (lv_room hW) d (by rw [hk.room]; exact hcs)) hS hl kk
theorem Z_callSN (n : Nat) (hk : zIs K own cc nL Ts ret rm) {host : String} (as : List Value) (hc : Ct (kL K) y wsc rmc (kZ K) as σ rv τ) (hT : GoodIn Ts wsc) (hnw : Cond.methodLinkNest own ix y host ∈ zNW) (hw : wsc = Cond.code y bytes maxL retc :: ws') (h0 : rmc.cells = 0 ∧ rmc.slots = 0) (hi : Cond.initialized y.cls ∈ Ts ∧ Cond.static y ∈ Ts) (hd : y.cls ≠ "java/lang/invoke/MethodHandle" ∧ y.cls ≠ "java/lang/invoke/VarHandle" ∧ (parseMethodDescriptor y.desc).map (fun d => d.parameters.length) = some n) (hR : rmc.frames + 1 ≤ rm.frames ∧ 8 + (maxL + 11) + rmc.locals ≤ rm.locals)
    (hn : as.length = n) (hstk : stk = as.reverse ++ st) (hW : (st.map fun v => v.category).sum ≤ 8) (hcs : cs ≤ rm.cells ∧ ss ≤ rm.slots) (d : decode cc pc = .ok (.invokestatic ix, 3)) (kk : Z K cs ss (pc + 3) lv (rv.toList ++ st) τ) : Z K cs ss pc lv stk σ := by
  intro H locs ls hP hS hl
  subst hstk
  exact Z_go (va_runSN (As := as) (rest := st) ⟨hk.exec, hk.code, hk.maxl, hk.ow, hk.wd⟩ (hc H.size) ⟨va_cnB n hk.wd hT hw h0.1 h0.2 (hk.nest hnw) (hk.wd _ hi.1) hd (by rw [hk.room]; exact hR), hk.wd _ hi.2, trivial⟩ ⟨zPc_blind, Z_pre hk hP hS _⟩ rfl hn (hl.1.trans hk.maxl) rfl (lv_room hW) d (by rw [hk.room]; exact hcs)) hS hl kk
theorem Z_callT (n : Nat) (hk : zIs K own cc nL Ts ret rm) (as : List Value) (hc : Ct (kL K) y wsc rmc (kZ K) as σ rv τ) (hT : GoodIn Ts (va_wsS own ix y wsc)) (hw : wsc = Cond.code y bytes maxL retc :: ws') (h0 : rmc.cells = 0 ∧ rmc.slots = 0) (hd : y.cls ≠ "java/lang/invoke/MethodHandle" ∧ y.cls ≠ "java/lang/invoke/VarHandle" ∧ (parseMethodDescriptor y.desc).map (fun d => d.parameters.length) = some n) (hR : rmc.frames + 1 ≤ rm.frames ∧ 8 + (maxL + 11) + rmc.locals ≤ rm.locals)
    (hn : as.length = n) (hstk : stk = as.reverse ++ st) (hW : (st.map fun v => v.category).sum ≤ 8) (hcs : cs ≤ rm.cells ∧ ss ≤ rm.slots) (d : decode cc pc = .ok (.invokestatic ix, 3)) (kk : Z K cs ss (pc + 3) lv (rv.toList ++ st) τ) : Z K cs ss pc lv stk σ := by
  intro H locs ls hP hS hl
  subst hstk
  exact Z_go (va_runS (As := as) (rest := st) ⟨hk.exec, hk.code, hk.maxl, hk.ow, hk.wd⟩ (hc H.size) (va_cwS n hk.wd hT hw h0.1 h0.2 hd (by rw [hk.room]; exact hR)) ⟨zPc_blind, Z_pre hk hP hS _⟩ rfl hn (hl.1.trans hk.maxl) rfl (lv_room hW) d (by rw [hk.room]; exact hcs)) hS hl kk
end ZR1
/-! METHODS THAT RETURN OR THROW: contracts CtX, rows -/
section ZX0
def zRc (E : zE) (res : String ⊕ Option Value) (τ : zST) (sz : Nat) : Array Value → State → Outcome → State → Prop := fun _ st oc t => (∃ v, res = .inr v ∧ oc = .returned v) ∧ va_P (eD E) vwCl (wd E τ) t.heap ∧ va_F (OA E sz) st t
def zTc (E : zE) (res : String ⊕ Option Value) (τ : zST) (sz : Nat) : String → State → State → Prop := fun X st t => res = .inl X ∧ va_P (eD E) vwCl (wd E τ) t.heap ∧ va_F (OA E sz) st t
def CtX (l : Launch) (y : MethodName) (ws : List Cond) (rm : Room) (E : zE) (as : List Value) (σ : zST) (res : String ⊕ Option Value) (τ : zST) : Prop :=
  ∀ sz : Nat, vx_Met l y ws rm (zPc E as σ sz) (zRc E res τ sz) (zTc E res τ sz) rm.cells rm.slots (OA E sz)
def zrI : zX Int32 → String ⊕ Option Value
  | .inl e => .inl e
  | .inr x => .inr (some (.int x))
def zrJ : zX Int64 → String ⊕ Option Value
  | .inl e => .inl e
  | .inr x => .inr (some (.long x))
def zrU : zX Unit → String ⊕ Option Value
  | .inl e => .inl e
  | .inr _ => .inr none
def zrR (E : zE) : zX Nat → String ⊕ Option Value
  | .inl e => .inl e
  | .inr x => .inr (some (.ref (eA E x)))
def zNX (K : zK) : Prop := ∀ x ∈ (kC K).exceptionTable.toList, False
def zQX (K : zK) (res : String ⊕ Option Value) (τ : zST) : Prop := kQ K = vx_MQ (kB K) (zRc (kZ K) res τ (kS K).heap.size) (zTc (kZ K) res τ (kS K).heap.size) (kA K) (kS K) (kR K).cells (kR K).slots (kO K)
theorem CtX_of {l : Launch} {y : MethodName} {ws ws' : List Cond} {rm : Room} {E : zE} {as : List Value} {σ τ : zST} {res : String ⊕ Option Value} {cc : ByteArray} {maxL : Nat} {ret : Option FieldType} (hy : plainName y.cls = true) (hw : ws = Cond.code y cc maxL ret :: ws') (hL : eL E) (hJ : eJ E) (hn : (lg_sl as).length ≤ maxL)
    (body : ∀ K : zK, kZ K = E → kL K = l → zIs K y.cls cc maxL ws ret rm → zNX K → zQX K res τ → Z K 0 0 0 (lv_args 0 as) [] σ) : CtX l y ws rm E as σ res τ := by
  intro sz
  refine vx_ofW (cc := cc) (maxL := maxL) (ret := ret) hy hw ?_
  intro p e s m args below meth c s₁ B hml hnx hv
  obtain ⟨rfl, hsz, hP, hK, hE⟩ := hv
  subst hsz
  have hl := lv_entry as (n := maxL) hn
  rw [lg_entry_eq]
  generalize (lg_sl as ++ List.replicate (maxL - (lg_sl as).length) Slot.unset).toArray = ls at hl ⊢
  exact body ⟨p, l, e, rm, s, m, as.toArray, below, meth, c, vx_MQ below (zRc E res τ s.heap.size) (zTc E res τ s.heap.size) as.toArray s rm.cells rm.slots (OA E s.heap.size), E⟩ rfl rfl
    ⟨B.exec, B.bytes, hml, findClass_of_methodNamed B.named, atoms_spec (ws := ws) B.pre, B.returns, rfl, B.notSynchronized, hK, hL, hJ, hE⟩ hnx rfl s.heap [] ls hP va_S.rf (by show lv_has ls c.maxLocals _; rw [hml]; exact hl)
theorem CtX_ofH {l : Launch} {y : MethodName} {ws ws' : List Cond} {rm : Room} {E : zE} {as : List Value} {σ τ : zST} {res : String ⊕ Option Value} {cc : ByteArray} {maxL : Nat} {ret : Option FieldType} {hh : List (Nat × Nat × Nat × Nat)} (hy : plainName y.cls = true) (hw : ws = Cond.codeWith y cc maxL ret hh :: ws') (hL : eL E) (hJ : eJ E) (hn : (lg_sl as).length ≤ maxL)
    (body : ∀ K : zK, kZ K = E → kL K = l → zIs K y.cls cc maxL ws ret rm → (kC K).exceptionTable.toList = tableOf hh → zQX K res τ → Z K 0 0 0 (lv_args 0 as) [] σ) : CtX l y ws rm E as σ res τ := by
  intro sz
  refine vx_ofWH (cc := cc) (maxL := maxL) (ret := ret) (hh := hh) hy hw ?_
  intro p e s m args below meth c s₁ B hml hv
  obtain ⟨rfl, hsz, hP, hK, hE⟩ := hv
  subst hsz
  have hl := lv_entry as (n := maxL) hn
  rw [lg_entry_eq]
  generalize (lg_sl as ++ List.replicate (maxL - (lg_sl as).length) Slot.unset).toArray = ls at hl ⊢
  have hts := atoms_spec (ws := ws) B.pre
  exact body ⟨p, l, e, rm, s, m, as.toArray, below, meth, c, vx_MQ below (zRc E res τ s.heap.size) (zTc E res τ s.heap.size) as.toArray s rm.cells rm.slots (OA E s.heap.size), E⟩ rfl rfl
    ⟨B.exec, B.bytes, hml, findClass_of_methodNamed B.named, hts, B.returns, rfl, B.notSynchronized, hK, hL, hJ, hE⟩ (vx_table (x := y) B (hts _ (by rw [hw]; exact List.mem_cons_self))) rfl s.heap [] ls hP va_S.rf (by show lv_has ls c.maxLocals _; rw [hml]; exact hl)
/-- an exception is on its way -/
def Y (K : zK) (cs ss pc : Nat) (lv : List (Nat × Value)) (st : List Value) (σ : zST) (X : String) : Prop :=
  ∀ (H : Heap) (locs : List Loc) (ls : Array Slot) (ce : Cell) (q : Addr), va_P (eD (kZ K)) vwCl (wd (kZ K) σ) H → va_S (kO K) (kS K).heap H locs → lv_has ls (kC K).maxLocals lv → H[q]? = some ce → ce.vm = .none → (kS K).vm.findClass X = some ce.cls →
    vx_W (kP K) (kL K) (kE K) (kR K) (kS K) (kM K) (kA K) (kB K) (kH K) (kC K) H locs cs ss (kQ K) (F0 (kM K) pc ls st) q
end ZX0
section ZX1
variable {K : zK} {own : String} {cc : ByteArray} {nL : Nat} {Ts : List Cond} {ret : Option FieldType} {rm : Room} {cs ss pc : Nat} {lv lv' : List (Nat × Value)} {st : List Value} {σ τ : zST}
-- ends
theorem ZX_iret (hk : zIs K own cc nL Ts (some .int) rm) {x : Int32} (hq : zQX K (.inr (some (.int x))) σ) (hc : cs ≤ rm.cells ∧ ss ≤ rm.slots) (d : decode cc pc = .ok (.ireturn, 1)) : Z K cs ss pc lv [.int x] σ := by
  intro H locs ls hP hS hl
  unfold kW
  rw [hq]
  exact W.widen (by rw [hk.room]; exact hc.1) (by rw [hk.room]; exact hc.2) (vx_ret (W.iret hk.exec hk.code hk.rt (fun t ht hW => ⟨⟨_, rfl, rfl⟩, by rw [ht]; exact hP, hS.F ht⟩) hS.2.2 d hk.nolock))
theorem ZX_zret (hk : zIs K own cc nL Ts (some .boolean) rm) {x : Int32} (hx : x = 0 ∨ x = 1) (hq : zQX K (.inr (some (.int x))) σ) (hc : cs ≤ rm.cells ∧ ss ≤ rm.slots) (d : decode cc pc = .ok (.ireturn, 1)) : Z K cs ss pc lv [.int x] σ := by
  intro H locs ls hP hS hl
  unfold kW
  rw [hq]
  exact W.widen (by rw [hk.room]; exact hc.1) (by rw [hk.room]; exact hc.2) (vx_ret (W.zret hk.exec hk.code hk.rt (by rcases hx with rfl | rfl <;> rfl) (fun t ht hW => ⟨⟨_, rfl, rfl⟩, by rw [ht]; exact hP, hS.F ht⟩) hS.2.2 d hk.nolock))
theorem ZX_lret (hk : zIs K own cc nL Ts (some .long) rm) {x : Int64} (hq : zQX K (.inr (some (.long x))) σ) (hc : cs ≤ rm.cells ∧ ss ≤ rm.slots) (d : decode cc pc = .ok (.lreturn, 1)) : Z K cs ss pc lv [.long x] σ := by
  intro H locs ls hP hS hl
  unfold kW
  rw [hq]
  exact W.widen (by rw [hk.room]; exact hc.1) (by rw [hk.room]; exact hc.2) (vx_ret (W.lret hk.exec hk.code hk.rt (fun t ht hW => ⟨⟨_, rfl, rfl⟩, by rw [ht]; exact hP, hS.F ht⟩) hS.2.2 d hk.nolock))
theorem ZX_vret (hk : zIs K own cc nL Ts none rm) (hq : zQX K (.inr none) σ) (hc : cs ≤ rm.cells ∧ ss ≤ rm.slots) (d : decode cc pc = .ok (.return_, 1)) : Z K cs ss pc lv [] σ := by
  intro H locs ls hP hS hl
  unfold kW
  rw [hq]
  exact W.widen (by rw [hk.room]; exact hc.1) (by rw [hk.room]; exact hc.2) (vx_ret (W.vret hk.exec hk.code hk.rt (fun t ht hW => ⟨⟨_, rfl, rfl⟩, by rw [ht]; exact hP, hS.F ht⟩) hS.2.2 d hk.nolock))
theorem ZX_aret {n0 : String} (hk : zIs K own cc nL Ts (some (.object n0)) rm) {x : Nat} (hq : zQX K (.inr (some (.ref x))) σ) (hc : cs ≤ rm.cells ∧ ss ≤ rm.slots) (d : decode cc pc = .ok (.areturn, 1)) : Z K cs ss pc lv [.ref x] σ := by
  intro H locs ls hP hS hl
  unfold kW
  rw [hq]
  exact W.widen (by rw [hk.room]; exact hc.1) (by rw [hk.room]; exact hc.2) (vx_ret (W.aret hk.exec hk.code hk.rt (Or.inl ⟨_, rfl⟩) (Or.inr ⟨_, rfl⟩) (fun t ht hW => ⟨⟨_, rfl, rfl⟩, by rw [ht]; exact hP, hS.F ht⟩) hS.2.2 d hk.nolock))
theorem Z_aald (hk : zIs K own cc nL Ts ret rm) {q p n : Nat} {i : Int32} (ha : aG (kZ K) q p n) (hin : vp_in i n) (d : decode cc pc = .ok (.aaload, 1)) (kk : Z K cs ss (pc + 1) lv (.ref (eA (kZ K) (p + 3 * i.toNatClampNeg)) :: st) σ) : Z K cs ss pc lv (.int i :: .ref (eA (kZ K) q) :: st) σ := by
  obtain ⟨h1, f, h2, h3⟩ := ha
  have e := h3 i.toNatClampNeg (Nat.not_le.mp fun z => hin (Or.inr z))
  exact fun H locs ls hP hS hl => va_aldq (f := f) hk.exec hk.code hk.cls hP q 3 (by rw [wd_at h1, h2]) rfl hin d (by rw [e]; exact kk H locs ls hP hS hl)
theorem Y_out (hk : zIs K own cc nL Ts ret rm) (hnx : zNX K) {X : String} (hq : zQX K (.inl X) σ) (hc : cs ≤ rm.cells ∧ ss ≤ rm.slots) : Y K cs ss pc lv st σ X := by
  intro H locs ls ce q hP hS hl h1 h2 h3
  rw [hq]
  exact vx_out (fun x hx => absurd (hnx x hx) id) hk.nolock h1 h2 h3 (fun t ht hal => ⟨rfl, by rw [ht]; exact hP, hS.F ht⟩) hS.2.2 (by rw [hk.room]; exact hc.1) (by rw [hk.room]; exact hc.2)
theorem Y_catch (hk : zIs K own cc nL Ts ret rm) {X name : String} {hh : List (Nat × Nat × Nat × Nat)} (tb : (kC K).exceptionTable.toList = tableOf hh) (pre : List ExceptionTableEntry) (x : ExceptionTableEntry) (suf : List ExceptionTableEntry) (hsplit : tableOf hh = pre ++ x :: suf)
    (hpass : ∀ z ∈ pre, covers z pc = false ∨ (z.catchType ≠ 0 ∧ ∃ nm : String, Cond.classLink own z.catchType nm ∈ Ts ∧ va_Nc X nm (kS K))) (hx : covers x pc = true) (h0 : x.catchType ≠ 0) (hw : Cond.classLink own x.catchType name ∈ Ts) (hcast : va_Nw (.castable X name) (kS K)) {hpc : Nat} (hh2 : x.handlerPc = hpc) (kk : ∀ q : Nat, Z K cs ss hpc lv [.ref q] σ) : Y K cs ss pc lv st σ X := by
  subst hh2
  intro H locs ls ce q hP hS hl h1 h2 h3
  exact vx_catch hk.ow pre x suf (tb.trans hsplit) (fun z hz => (hpass z hz).imp id (fun ⟨a, nm, b, c⟩ => ⟨a, nm, hk.wd _ b, c⟩)) hx h0 (hk.wd _ hw) (va_Nw.use rfl hcast) h1 h2 h3 (kk q H locs ls hP hS hl)
/-- new X("..") thrown: it leaves the method -/
theorem ZX_throw (hk : zIs K own cc nL Ts ret rm) (hnx : zNX K) (hfl : (kL K).stackTraces = false) {cls text : String} {ik is ic : Nat} (hq : zQX K (.inl cls) σ) (hcls : Bundle.fit cls = true)
    (hw : Cond.classLink own ik cls ∈ Ts ∧ Cond.initialized cls ∈ Ts) (hstr : (own, is, text) ∈ zSTR) (hat1 : ∀ w ∈ (vx_atS own ic cls ["java/lang/RuntimeException", "java/lang/Exception"]).filter goodWord, w ∈ Ts) (hat2 : ∀ w ∈ (vx_atS own ic cls ["java/lang/RuntimeException", "java/lang/Exception"]).filter (fun w => !goodWord w), w ∈ zNW ∧ w.onTables = true)
    (hgood : ∀ w ∈ Cond.classLink own ik cls :: Cond.initialized cls :: vx_atS own ic cls ["java/lang/RuntimeException", "java/lang/Exception"], vx_ot w = true)
    (d0 : decode cc pc = .ok (.new ik, 3)) (d3 : decode cc (pc + 3) = .ok (.dup, 1)) (d4 : decode cc (pc + 4) = .ok (.ldc is, 2)) (d6 : decode cc (pc + 6) = .ok (.invokespecial ic, 3)) (d9 : decode cc (pc + 9) = .ok (.athrow, 1))
    (hR : 6 ≤ rm.frames ∧ 90 ≤ rm.locals) (hst : (st.map fun v => v.category).sum ≤ 8) (hc : cs + 1 ≤ rm.cells ∧ ss + 6 ≤ rm.slots) : Z K cs ss pc lv st σ := by
  intro H locs ls hP hS hl
  obtain ⟨sa, hsa⟩ := hk.env.2.2.2.2.1 _ hstr
  have hat : ∀ w ∈ vx_atS own ic cls ["java/lang/RuntimeException", "java/lang/Exception"], w.before (kA K) (kS K) = true := by
    intro w hw
    by_cases hg : goodWord w = true
    · exact hk.wd _ (hat1 w (List.mem_filter.mpr ⟨hw, hg⟩))
    · obtain ⟨h1, h2⟩ := hat2 w (List.mem_filter.mpr ⟨hw, by simpa using hg⟩)
      exact va_Nw.use h2 (hk.nest h1)
  unfold kW
  rw [hq]
  exact vx_throwS hk.exec hk.code hfl hk.ow hcls (by decide +kernel) (hk.wd _ hw.1) (hk.wd _ hw.2) hsa hat hgood hk.env.2.2.1 hk.env.2.2.2.1 hS hl.1 d0 d3 d4 d6 d9 (fun x hx => absurd (hnx x hx) id)
    (by rw [hk.room]; have := hR.1; simp only [List.length_cons, List.length_nil]; omega) (by rw [hk.room]; have := hR.2; simp only [List.length_cons, List.length_nil]; omega) (by rw [hk.room]; exact hc.1) (by rw [hk.room]; exact hc.2) hk.nolock
    (fun t hal hz hq2 => ⟨rfl, hP.kept (fun k q hqk => hq2 q.1 (hP k q hqk).lt), Nat.le_trans hS.1 hz, fun q h1 h2 => (hq2 q (Nat.lt_of_lt_of_le h1 hS.1)).trans (hS.2.1 q h1 h2)⟩) hS.2.2 (by rw [hk.room]; exact hc.1) (by rw [hk.room]; exact hc.2)
-- calls
theorem ZX_go {H : Heap} {locs : List Loc} {ls : Array Slot} {res : String ⊕ Option Value} {stk : List Value} {mc ms : Nat} (hr : vx_Run (kP K) (kL K) (kE K) (kR K) (kS K) (kM K) (kA K) (kB K) (kH K) (kC K) H locs cs ss mc ms (F0 (kM K) pc ls stk) st (zRc (kZ K) res τ H.size (Array.empty)) (zTc (kZ K) res τ H.size) (OA (kZ K) H.size)) (hS : va_S (kO K) (kS K).heap H locs) (hl : lv_has ls (kC K).maxLocals lv)
    (kx : ∀ X, res = .inl X → Y K (cs + mc) (ss + ms) pc lv st τ X) (kk : ∀ v, res = .inr v → Z K (cs + mc) (ss + ms) (pc + 3) lv (v.toList ++ st) τ) : kW K H locs cs ss (F0 (kM K) pc ls stk) := by
  intro T hT X
  rcases hr T hT X with ⟨v, st₀, t, T', L, h0, X', hL, e1, e2, ⟨⟨v', hv', hv⟩, hp, hF⟩, stp⟩ | ⟨q, st₀, t, T', L, E, ce, h0, X', hL, e1, e2, ⟨hx, hp, hF⟩, hce, hcv, hcl, stp⟩
  · cases hv
    obtain ⟨-, -, hS'⟩ := vx_keep h0 e1 hS (A1 := OA (kZ K) H.size) (free := OA (kZ K) H.size) (fun q _ h => OA_mono hS.1 q h) (OA_mono hS.1) hL hF
    obtain ⟨t2, a1, b1⟩ := kk v hv' T'.heap (locs ++ L) ls (by rw [e1]; exact hp) hS' hl T' rfl X'
    exact ⟨t2, stp t2 a1, b1⟩
  · obtain ⟨-, -, hS'⟩ := vx_keep h0 e1 hS (A1 := OA (kZ K) H.size) (free := OA (kZ K) H.size) (fun q _ h => OA_mono hS.1 q h) (OA_mono hS.1) hL hF
    obtain ⟨t2, a1, b1⟩ := kx E hx T'.heap (locs ++ L) ls ce q (by rw [e1]; exact hp) hS' hl (by rw [e1]; exact hce) hcv hcl T' rfl X'
    exact ⟨t2, stp.trans a1, b1⟩
variable {y : MethodName} {wsc ws' : List Cond} {rmc : Room} {bytes : ByteArray} {maxL ix q : Nat} {retc : Option FieldType} {stk : List Value} {res : String ⊕ Option Value}
theorem ZX_callV (n : Nat) (hk : zIs K own cc nL Ts ret rm) {C : String} {T : u_T} {N ci : Nat} {fs : List Value} (as : List Value) (hc : CtX (kL K) y wsc rmc (kZ K) (.ref (eA (kZ K) q) :: as) σ res τ) (hT : GoodIn Ts (wsV own ix C y wsc)) (hw : wsc = Cond.code y bytes maxL retc :: ws') (hd : y.cls = C ∧ y.cls ≠ "java/lang/invoke/MethodHandle" ∧ y.cls ≠ "java/lang/invoke/VarHandle" ∧ (parseMethodDescriptor y.desc).map (fun d => d.parameters.length) = some n) (hR : rmc.frames + 1 ≤ rm.frames ∧ 8 + (maxL + 11) + rmc.locals ≤ rm.locals)
    (hq : q < eN (kZ K)) (hs : eS (kZ K) q σ = .inr (ci, fs)) (hcl : vwCl[ci]? = some (C, T, N)) (hn : as.length = n) (hstk : stk = as.reverse ++ .ref (eA (kZ K) q) :: st) (hW : (st.map fun v => v.category).sum ≤ 8) (hcs : cs + rmc.cells ≤ rm.cells ∧ ss + rmc.slots ≤ rm.slots) (d : decode cc pc = .ok (.invokevirtual ix, 3))
    (kx : ∀ X, res = .inl X → Y K (cs + rmc.cells) (ss + rmc.slots) pc lv st τ X) (kk : ∀ v, res = .inr v → Z K (cs + rmc.cells) (ss + rmc.slots) (pc + 3) lv (v.toList ++ st) τ) : Z K cs ss pc lv stk σ := by
  intro H locs ls hP hS hl
  subst hstk
  exact ZX_go (vx_runV (As := as) (rest := st) ⟨hk.exec, hk.code, hk.maxl, hk.ow, hk.wd⟩ (hc H.size) (cwV n hk.wd hT hw rfl rfl hd (by rw [hk.room]; exact hR)) ⟨zPc_blind, Z_recv hk ci hq hs hcl hP, Z_pre hk hP hS _⟩ rfl hn (hl.1.trans hk.maxl) rfl (lv_room hW) d (by rw [hk.room]; exact hcs)) hS hl kx kk
theorem ZX_callS (n : Nat) (hk : zIs K own cc nL Ts ret rm) (as : List Value) (hc : CtX (kL K) y wsc rmc (kZ K) as σ res τ) (hT : GoodIn Ts (wsS own ix y wsc)) (hw : wsc = Cond.code y bytes maxL retc :: ws') (hd : y.cls = own ∧ y.cls ≠ "java/lang/invoke/MethodHandle" ∧ y.cls ≠ "java/lang/invoke/VarHandle" ∧ (parseMethodDescriptor y.desc).map (fun d => d.parameters.length) = some n) (hR : rmc.frames + 1 ≤ rm.frames ∧ 8 + (maxL + 11) + rmc.locals ≤ rm.locals)
    (hn : as.length = n) (hstk : stk = as.reverse ++ st) (hW : (st.map fun v => v.category).sum ≤ 8) (hcs : cs + rmc.cells ≤ rm.cells ∧ ss + rmc.slots ≤ rm.slots) (d : decode cc pc = .ok (.invokestatic ix, 3))
    (kx : ∀ X, res = .inl X → Y K (cs + rmc.cells) (ss + rmc.slots) pc lv st τ X) (kk : ∀ v, res = .inr v → Z K (cs + rmc.cells) (ss + rmc.slots) (pc + 3) lv (v.toList ++ st) τ) : Z K cs ss pc lv stk σ := by
  intro H locs ls hP hS hl
  subst hstk
  exact ZX_go (vx_runS (As := as) (rest := st) ⟨hk.exec, hk.code, hk.maxl, hk.ow, hk.wd⟩ (hc H.size) (cwS n hk.wd hT hw rfl rfl hd (by rw [hk.room]; exact hR)) ⟨zPc_blind, Z_pre hk hP hS _⟩ rfl hn (hl.1.trans hk.maxl) rfl (lv_room hW) d (by rw [hk.room]; exact hcs)) hS hl kx kk
theorem ZX_callT (n : Nat) (hk : zIs K own cc nL Ts ret rm) (as : List Value) (hc : CtX (kL K) y wsc rmc (kZ K) as σ res τ) (hT : GoodIn Ts (va_wsS own ix y wsc)) (hw : wsc = Cond.code y bytes maxL retc :: ws') (hd : y.cls ≠ "java/lang/invoke/MethodHandle" ∧ y.cls ≠ "java/lang/invoke/VarHandle" ∧ (parseMethodDescriptor y.desc).map (fun d => d.parameters.length) = some n) (hR : rmc.frames + 1 ≤ rm.frames ∧ 8 + (maxL + 11) + rmc.locals ≤ rm.locals)
    (hn : as.length = n) (hstk : stk = as.reverse ++ st) (hW : (st.map fun v => v.category).sum ≤ 8) (hcs : cs + rmc.cells ≤ rm.cells ∧ ss + rmc.slots ≤ rm.slots) (d : decode cc pc = .ok (.invokestatic ix, 3))
    (kx : ∀ X, res = .inl X → Y K (cs + rmc.cells) (ss + rmc.slots) pc lv st τ X) (kk : ∀ v, res = .inr v → Z K (cs + rmc.cells) (ss + rmc.slots) (pc + 3) lv (v.toList ++ st) τ) : Z K cs ss pc lv stk σ := by
  intro H locs ls hP hS hl
  subst hstk
  exact ZX_go (vx_runS (As := as) (rest := st) ⟨hk.exec, hk.code, hk.maxl, hk.ow, hk.wd⟩ (hc H.size) (va_cwS n hk.wd hT hw rfl rfl hd (by rw [hk.room]; exact hR)) ⟨zPc_blind, Z_pre hk hP hS _⟩ rfl hn (hl.1.trans hk.maxl) rfl (lv_room hW) d (by rw [hk.room]; exact hcs)) hS hl kx kk
theorem ZX_callW (n : Nat) (hk : zIs K own cc nL Ts ret rm) {hh : List (Nat × Nat × Nat × Nat)} (as : List Value) (hc : CtX (kL K) y wsc rmc (kZ K) as σ res τ) (hT : GoodIn Ts (va_wsS own ix y wsc)) (hw : wsc = Cond.codeWith y bytes maxL retc hh :: ws') (hd : y.cls ≠ "java/lang/invoke/MethodHandle" ∧ y.cls ≠ "java/lang/invoke/VarHandle" ∧ (parseMethodDescriptor y.desc).map (fun d => d.parameters.length) = some n) (hR : rmc.frames + 1 ≤ rm.frames ∧ 8 + (maxL + 11) + rmc.locals ≤ rm.locals)
    (hn : as.length = n) (hstk : stk = as.reverse ++ st) (hW : (st.map fun v => v.category).sum ≤ 8) (hcs : cs + rmc.cells ≤ rm.cells ∧ ss + rmc.slots ≤ rm.slots) (d : decode cc pc = .ok (.invokestatic ix, 3))
    (kx : ∀ X, res = .inl X → Y K (cs + rmc.cells) (ss + rmc.slots) pc lv st τ X) (kk : ∀ v, res = .inr v → Z K (cs + rmc.cells) (ss + rmc.slots) (pc + 3) lv (v.toList ++ st) τ) : Z K cs ss pc lv stk σ := by
  intro H locs ls hP hS hl
  subst hstk
  exact ZX_go (vx_runSX (As := as) (rest := st) ⟨hk.exec, hk.code, hk.maxl, hk.ow, hk.wd⟩ (hc H.size) (vx_cwSW n hk.wd hT hw rfl rfl hd (by rw [hk.room]; exact hR)) ⟨zPc_blind, Z_pre hk hP hS _⟩ rfl hn (hl.1.trans hk.maxl) rfl (lv_room hW) d (by rw [hk.room]; exact hcs)) hS hl kx kk
def ldG {β : Type} (p n : Nat) (i : Int32) (k : Nat → Option β) : Option β := if i < 0 ∨ n ≤ i.toNatClampNeg then none else k (p + 3 * i.toNatClampNeg)
theorem ldG_get {β : Type} {p n : Nat} {i : Int32} {k : Nat → Option β} {r : β} (h : ldG p n i k = some r) : vp_in i n ∧ ∃ x, p + 3 * i.toNatClampNeg = x ∧ k x = some r := ⟨(in_get h).1, _, rfl, (in_get h).2⟩
theorem Z_eqR {x y : Nat} (h : x = y) (kk : Z K cs ss pc lv (.ref (eA (kZ K) y) :: st) σ) : Z K cs ss pc lv (.ref (eA (kZ K) x) :: st) σ := h ▸ kk
/-- a call inside a try: what it throws comes to a handler -/
def bc {α β : Type} (a : Option (zX α × zST)) (kx : String → zST → Option β) (k : α → zST → Option β) : Option β := match a with
  | none => none
  | some (.inl e, σ) => kx e σ
  | some (.inr x, σ) => k x σ
theorem bc_ok {α β : Type} {a : Option (zX α × zST)} {kx : String → zST → Option β} {k : α → zST → Option β} {r : β} (h : bc a kx k = some r) : (∃ e τ, a = some (.inl e, τ) ∧ kx e τ = some r) ∨ ∃ x τ, a = some (.inr x, τ) ∧ k x τ = some r := by
  cases a with
  | none => cases h
  | some z =>
    obtain ⟨y, τ⟩ := z
    cases y with
    | inl e => exact Or.inl ⟨e, τ, rfl, h⟩
    | inr x => exact Or.inr ⟨x, τ, rfl, h⟩
end ZX1
/-! THE OBJECTS IN A WORLD: what stands at the place p and behind it -/
section ZL
def atGraph (E : zE) (p : Nat) : Prop := (p < eN E ∧ ∀ σ, eS E p σ = .inr (2, [.int (gI σ p 0), .ref (eA E (p + 1)), .ref (eA E (p + 2))])) ∧ aI E (p + 1) 8 ∧ aI E (p + 2) 8
theorem atGraph.cell {E : zE} {p : Nat} (h : atGraph E p) : (p < eN E ∧ ∀ σ, eS E p σ = .inr (2, [.int (gI σ p 0), .ref (eA E (p + 1)), .ref (eA E (p + 2))])) := h.1
theorem atGraph.near {E : zE} {p : Nat} (h : atGraph E p) : aI E (p + 1) 8 := h.2.1
theorem atGraph.colours {E : zE} {p : Nat} (h : atGraph E p) : aI E (p + 2) 8 := h.2.2
theorem atGraph.put_size {E : zE} {p : Nat} (h : atGraph E p) (σ : zST) (x : Int32) : eS E p (sI σ p 0 x) = .inr (2, ([.int (gI σ p 0), .ref (eA E (p + 1)), .ref (eA E (p + 2))] : List Value).set 0 (.int x)) := by rw [h.cell.2]; simp [gI, sI, upd]
def atRefinement (E : zE) (p : Nat) : Prop := (p < eN E ∧ ∀ σ, eS E p σ = .inr (5, [.int (gI σ p 0), .int (gI σ p 1), .ref (eA E (p + 1)), .ref (eA E (p + 2)), .ref (eA E (p + 3))])) ∧ aI E (p + 1) 8 ∧ aI E (p + 2) 8 ∧ aJ E (p + 3) 8
theorem atRefinement.cell {E : zE} {p : Nat} (h : atRefinement E p) : (p < eN E ∧ ∀ σ, eS E p σ = .inr (5, [.int (gI σ p 0), .int (gI σ p 1), .ref (eA E (p + 1)), .ref (eA E (p + 2)), .ref (eA E (p + 3))])) := h.1
theorem atRefinement.numbers {E : zE} {p : Nat} (h : atRefinement E p) : aI E (p + 1) 8 := h.2.1
theorem atRefinement.members {E : zE} {p : Nat} (h : atRefinement E p) : aI E (p + 2) 8 := h.2.2.1
theorem atRefinement.keys {E : zE} {p : Nat} (h : atRefinement E p) : aJ E (p + 3) 8 := h.2.2.2
theorem atRefinement.put_count {E : zE} {p : Nat} (h : atRefinement E p) (σ : zST) (x : Int32) : eS E p (sI σ p 0 x) = .inr (5, ([.int (gI σ p 0), .int (gI σ p 1), .ref (eA E (p + 1)), .ref (eA E (p + 2)), .ref (eA E (p + 3))] : List Value).set 0 (.int x)) := by rw [h.cell.2]; simp [gI, sI, upd]
theorem atRefinement.put_lastRound {E : zE} {p : Nat} (h : atRefinement E p) (σ : zST) (x : Int32) : eS E p (sI σ p 1 x) = .inr (5, ([.int (gI σ p 0), .int (gI σ p 1), .ref (eA E (p + 1)), .ref (eA E (p + 2)), .ref (eA E (p + 3))] : List Value).set 1 (.int x)) := by rw [h.cell.2]; simp [gI, sI, upd]
def atArranging (E : zE) (p : Nat) : Prop := (p < eN E ∧ ∀ σ, eS E p σ = .inr (0, [.int (gI σ p 0), .int (gI σ p 1), .int (gI σ p 2), .ref (eA E (p + 1)), .ref (eA E (p + 2)), .ref (eA E (p + 3)), .ref (eA E (p + 4))])) ∧ aI E (p + 1) 8 ∧ aI E (p + 2) 64 ∧ aI E (p + 3) 8 ∧ aI E (p + 4) 8
theorem atArranging.cell {E : zE} {p : Nat} (h : atArranging E p) : (p < eN E ∧ ∀ σ, eS E p σ = .inr (0, [.int (gI σ p 0), .int (gI σ p 1), .int (gI σ p 2), .ref (eA E (p + 1)), .ref (eA E (p + 2)), .ref (eA E (p + 3)), .ref (eA E (p + 4))])) := h.1
theorem atArranging.twins {E : zE} {p : Nat} (h : atArranging E p) : aI E (p + 1) 8 := h.2.1
theorem atArranging.cells {E : zE} {p : Nat} (h : atArranging E p) : aI E (p + 2) 64 := h.2.2.1
theorem atArranging.vertexAt {E : zE} {p : Nat} (h : atArranging E p) : aI E (p + 3) 8 := h.2.2.2.1
theorem atArranging.seenAt {E : zE} {p : Nat} (h : atArranging E p) : aI E (p + 4) 8 := h.2.2.2.2
theorem atArranging.put_leastEdges {E : zE} {p : Nat} (h : atArranging E p) (σ : zST) (x : Int32) : eS E p (sI σ p 0 x) = .inr (0, ([.int (gI σ p 0), .int (gI σ p 1), .int (gI σ p 2), .ref (eA E (p + 1)), .ref (eA E (p + 2)), .ref (eA E (p + 3)), .ref (eA E (p + 4))] : List Value).set 0 (.int x)) := by rw [h.cell.2]; simp [gI, sI, upd]
theorem atArranging.put_leastPlaces {E : zE} {p : Nat} (h : atArranging E p) (σ : zST) (x : Int32) : eS E p (sI σ p 1 x) = .inr (0, ([.int (gI σ p 0), .int (gI σ p 1), .int (gI σ p 2), .ref (eA E (p + 1)), .ref (eA E (p + 2)), .ref (eA E (p + 3)), .ref (eA E (p + 4))] : List Value).set 1 (.int x)) := by rw [h.cell.2]; simp [gI, sI, upd]
theorem atArranging.put_met {E : zE} {p : Nat} (h : atArranging E p) (σ : zST) (x : Int32) : eS E p (sI σ p 2 x) = .inr (0, ([.int (gI σ p 0), .int (gI σ p 1), .int (gI σ p 2), .ref (eA E (p + 1)), .ref (eA E (p + 2)), .ref (eA E (p + 3)), .ref (eA E (p + 4))] : List Value).set 2 (.int x)) := by rw [h.cell.2]; simp [gI, sI, upd]
def atChain (E : zE) (p : Nat) : Prop := (p < eN E ∧ ∀ σ, eS E p σ = .inr (1, [.int (gI σ p 0), .int (gI σ p 1), .int (gI σ p 2), .ref (eA E (p + 1)), .ref (eA E (p + 2)), .ref (eA E (p + 3))])) ∧ aI E (p + 1) 8 ∧ aJ E (p + 2) 28 ∧ aJ E (p + 3) 64
theorem atChain.cell {E : zE} {p : Nat} (h : atChain E p) : (p < eN E ∧ ∀ σ, eS E p σ = .inr (1, [.int (gI σ p 0), .int (gI σ p 1), .int (gI σ p 2), .ref (eA E (p + 1)), .ref (eA E (p + 2)), .ref (eA E (p + 3))])) := h.1
theorem atChain.base {E : zE} {p : Nat} (h : atChain E p) : aI E (p + 1) 8 := h.2.1
theorem atChain.kept {E : zE} {p : Nat} (h : atChain E p) : aJ E (p + 2) 28 := h.2.2.1
theorem atChain.back {E : zE} {p : Nat} (h : atChain E p) : aJ E (p + 3) 64 := h.2.2.2
theorem atChain.put_members {E : zE} {p : Nat} (h : atChain E p) (σ : zST) (x : Int32) : eS E p (sI σ p 0 x) = .inr (1, ([.int (gI σ p 0), .int (gI σ p 1), .int (gI σ p 2), .ref (eA E (p + 1)), .ref (eA E (p + 2)), .ref (eA E (p + 3))] : List Value).set 0 (.int x)) := by rw [h.cell.2]; simp [gI, sI, upd]
theorem atChain.put_keptCount {E : zE} {p : Nat} (h : atChain E p) (σ : zST) (x : Int32) : eS E p (sI σ p 1 x) = .inr (1, ([.int (gI σ p 0), .int (gI σ p 1), .int (gI σ p 2), .ref (eA E (p + 1)), .ref (eA E (p + 2)), .ref (eA E (p + 3))] : List Value).set 1 (.int x)) := by rw [h.cell.2]; simp [gI, sI, upd]
theorem atChain.put_closedCount {E : zE} {p : Nat} (h : atChain E p) (σ : zST) (x : Int32) : eS E p (sI σ p 2 x) = .inr (1, ([.int (gI σ p 0), .int (gI σ p 1), .int (gI σ p 2), .ref (eA E (p + 1)), .ref (eA E (p + 2)), .ref (eA E (p + 3))] : List Value).set 2 (.int x)) := by rw [h.cell.2]; simp [gI, sI, upd]
def atMapping (E : zE) (p : Nat) : Prop := (p < eN E ∧ ∀ σ, eS E p σ = .inr (4, [.ref (eA E (p + 1)), .ref (eA E (p + 2)), .ref (eA E (p + 6))])) ∧ aI E (p + 1) 8 ∧ atRefinement E (p + 2) ∧ atRefinement E (p + 6)
theorem atMapping.cell {E : zE} {p : Nat} (h : atMapping E p) : (p < eN E ∧ ∀ σ, eS E p σ = .inr (4, [.ref (eA E (p + 1)), .ref (eA E (p + 2)), .ref (eA E (p + 6))])) := h.1
theorem atMapping.images {E : zE} {p : Nat} (h : atMapping E p) : aI E (p + 1) 8 := h.2.1
theorem atMapping.classesHere {E : zE} {p : Nat} (h : atMapping E p) : atRefinement E (p + 2) := h.2.2.1
theorem atMapping.classesThere {E : zE} {p : Nat} (h : atMapping E p) : atRefinement E (p + 6) := h.2.2.2
def atGroup (E : zE) (p : Nat) : Prop := (p < eN E ∧ ∀ σ, eS E p σ = .inr (3, [.int (gI σ p 0), .ref (eA E (p + 1)), .ref (eA E (p + 2)), .ref (eA E (p + 6))])) ∧ aJ E (p + 1) 6 ∧ atChain E (p + 2) ∧ atChain E (p + 6)
theorem atGroup.cell {E : zE} {p : Nat} (h : atGroup E p) : (p < eN E ∧ ∀ σ, eS E p σ = .inr (3, [.int (gI σ p 0), .ref (eA E (p + 1)), .ref (eA E (p + 2)), .ref (eA E (p + 6))])) := h.1
theorem atGroup.generators {E : zE} {p : Nat} (h : atGroup E p) : aJ E (p + 1) 6 := h.2.1
theorem atGroup.chain {E : zE} {p : Nat} (h : atGroup E p) : atChain E (p + 2) := h.2.2.1
theorem atGroup.fixingChain {E : zE} {p : Nat} (h : atGroup E p) : atChain E (p + 6) := h.2.2.2
theorem atGroup.put_count {E : zE} {p : Nat} (h : atGroup E p) (σ : zST) (x : Int32) : eS E p (sI σ p 0 x) = .inr (3, ([.int (gI σ p 0), .ref (eA E (p + 1)), .ref (eA E (p + 2)), .ref (eA E (p + 6))] : List Value).set 0 (.int x)) := by rw [h.cell.2]; simp [gI, sI, upd]
def atCanonCote (E : zE) (p : Nat) : Prop := (p < eN E ∧ ∀ σ, eS E p σ = .inr (6, [.ref (eA E (p + 1)), .ref (eA E (p + 14)), .ref (eA E (p + 17)), .ref (eA E (p + 21)), .ref (eA E (p + 26)), .ref (eA E (p + 36))])) ∧ aG E (p + 1) (p + 2) 4 ∧ atGraph E (p + 14) ∧ atRefinement E (p + 17) ∧ atArranging E (p + 21) ∧ atMapping E (p + 26) ∧ atGroup E (p + 36) ∧ (∀ k : Nat, k < 4 → atGraph E (p + 2 + 3 * k))
theorem atCanonCote.cell {E : zE} {p : Nat} (h : atCanonCote E p) : (p < eN E ∧ ∀ σ, eS E p σ = .inr (6, [.ref (eA E (p + 1)), .ref (eA E (p + 14)), .ref (eA E (p + 17)), .ref (eA E (p + 21)), .ref (eA E (p + 26)), .ref (eA E (p + 36))])) := h.1
theorem atCanonCote.graphs {E : zE} {p : Nat} (h : atCanonCote E p) : aG E (p + 1) (p + 2) 4 := h.2.1
theorem atCanonCote.chosen {E : zE} {p : Nat} (h : atCanonCote E p) : atGraph E (p + 14) := h.2.2.1
theorem atCanonCote.refinement {E : zE} {p : Nat} (h : atCanonCote E p) : atRefinement E (p + 17) := h.2.2.2.1
theorem atCanonCote.arranging {E : zE} {p : Nat} (h : atCanonCote E p) : atArranging E (p + 21) := h.2.2.2.2.1
theorem atCanonCote.mapping {E : zE} {p : Nat} (h : atCanonCote E p) : atMapping E (p + 26) := h.2.2.2.2.2.1
theorem atCanonCote.group {E : zE} {p : Nat} (h : atCanonCote E p) : atGroup E (p + 36) := h.2.2.2.2.2.2.1
theorem atCanonCote.graph {E : zE} {p : Nat} (h : atCanonCote E p) : (∀ k : Nat, k < 4 → atGraph E (p + 2 + 3 * k)) := h.2.2.2.2.2.2.2
end ZL
theorem zc_bipush_6 : (Int8.ofInt 6).toInt32 = (6 : Int32) := by decide +kernel
theorem zc_bipush_7 : (Int8.ofInt 7).toInt32 = (7 : Int32) := by decide +kernel
theorem zc_bipush_8 : (Int8.ofInt 8).toInt32 = (8 : Int32) := by decide +kernel
theorem zc_bipush_16 : (Int8.ofInt 16).toInt32 = (16 : Int32) := by decide +kernel
theorem zc_bipush_18 : (Int8.ofInt 18).toInt32 = (18 : Int32) := by decide +kernel
theorem zc_bipush_21 : (Int8.ofInt 21).toInt32 = (21 : Int32) := by decide +kernel
theorem zc_bipush_22 : (Int8.ofInt 22).toInt32 = (22 : Int32) := by decide +kernel
theorem zc_bipush_24 : (Int8.ofInt 24).toInt32 = (24 : Int32) := by decide +kernel
theorem zc_bipush_27 : (Int8.ofInt 27).toInt32 = (27 : Int32) := by decide +kernel
theorem zc_bipush_28 : (Int8.ofInt 28).toInt32 = (28 : Int32) := by decide +kernel
theorem zc_bipush_32 : (Int8.ofInt 32).toInt32 = (32 : Int32) := by decide +kernel
theorem zc_bipush_41 : (Int8.ofInt 41).toInt32 = (41 : Int32) := by decide +kernel
theorem zc_bipush_48 : (Int8.ofInt 48).toInt32 = (48 : Int32) := by decide +kernel
theorem zc_bipush_49 : (Int8.ofInt 49).toInt32 = (49 : Int32) := by decide +kernel
theorem zc_bipush_52 : (Int8.ofInt 52).toInt32 = (52 : Int32) := by decide +kernel
theorem zc_bipush_60 : (Int8.ofInt 60).toInt32 = (60 : Int32) := by decide +kernel
theorem zc_bipush_63 : (Int8.ofInt 63).toInt32 = (63 : Int32) := by decide +kernel
theorem zc_bipush_64 : (Int8.ofInt 64).toInt32 = (64 : Int32) := by decide +kernel
theorem zc_bipush_73 : (Int8.ofInt 73).toInt32 = (73 : Int32) := by decide +kernel
theorem zc_iconst_m1 : Int32.ofInt (-1) = ((-1) : Int32) := by decide +kernel
theorem zc_iconst_0 : Int32.ofInt 0 = (0 : Int32) := by decide +kernel
theorem zc_iconst_1 : Int32.ofInt 1 = (1 : Int32) := by decide +kernel
theorem zc_iconst_2 : Int32.ofInt 2 = (2 : Int32) := by decide +kernel
theorem zc_iconst_3 : Int32.ofInt 3 = (3 : Int32) := by decide +kernel
theorem zc_iconst_4 : Int32.ofInt 4 = (4 : Int32) := by decide +kernel
theorem zc_iconst_5 : Int32.ofInt 5 = (5 : Int32) := by decide +kernel
theorem zc_iinc_1 : Int32.ofInt 1 = (1 : Int32) := by decide +kernel
theorem zc_sipush_255 : (Int16.ofInt 255).toInt32 = (255 : Int32) := by decide +kernel
theorem zc_sipush_256 : (Int16.ofInt 256).toInt32 = (256 : Int32) := by decide +kernel
theorem tok_TX2 : ∀ k, k < 3 → parseFieldDescriptor (TX2 k).2.2.1 = some (tyX2 k) := by decide +kernel
theorem tnm_TX2 : ∀ a, a < 3 → ∀ b, b < 3 → a ≠ b → (TX2 a).2.1 ≠ (TX2 b).2.1 := by decide +kernel
theorem tok_TX6 : ∀ k, k < 5 → parseFieldDescriptor (TX6 k).2.2.1 = some (tyX6 k) := by decide +kernel
theorem tnm_TX6 : ∀ a, a < 5 → ∀ b, b < 5 → a ≠ b → (TX6 a).2.1 ≠ (TX6 b).2.1 := by decide +kernel
theorem tok_TX0 : ∀ k, k < 7 → parseFieldDescriptor (TX0 k).2.2.1 = some (tyX0 k) := by decide +kernel
theorem tnm_TX0 : ∀ a, a < 7 → ∀ b, b < 7 → a ≠ b → (TX0 a).2.1 ≠ (TX0 b).2.1 := by decide +kernel
theorem tok_TX4 : ∀ k, k < 3 → parseFieldDescriptor (TX4 k).2.2.1 = some (tyX4 k) := by decide +kernel
theorem tnm_TX4 : ∀ a, a < 3 → ∀ b, b < 3 → a ≠ b → (TX4 a).2.1 ≠ (TX4 b).2.1 := by decide +kernel
theorem tok_TX1 : ∀ k, k < 6 → parseFieldDescriptor (TX1 k).2.2.1 = some (tyX1 k) := by decide +kernel
theorem tnm_TX1 : ∀ a, a < 6 → ∀ b, b < 6 → a ≠ b → (TX1 a).2.1 ≠ (TX1 b).2.1 := by decide +kernel
theorem tok_TX3 : ∀ k, k < 4 → parseFieldDescriptor (TX3 k).2.2.1 = some (tyX3 k) := by decide +kernel
theorem tnm_TX3 : ∀ a, a < 4 → ∀ b, b < 4 → a ≠ b → (TX3 a).2.1 ≠ (TX3 b).2.1 := by decide +kernel
theorem tok_TX7 : ∀ k, k < 6 → parseFieldDescriptor (TX7 k).2.2.1 = some (tyX7 k) := by decide +kernel
theorem tnm_TX7 : ∀ a, a < 6 → ∀ b, b < 6 → a ≠ b → (TX7 a).2.1 ≠ (TX7 b).2.1 := by decide +kernel
theorem gw_0 : ("CanonCote", 195, "no such graph") ∈ zSTR := by decide +kernel
theorem gw_1 : ∀ w ∈ (vx_atS RX7 186 "java/lang/IndexOutOfBoundsException" ["java/lang/RuntimeException", "java/lang/Exception"]).filter (fun w => !goodWord w), w ∈ zNW ∧ w.onTables = true := by decide +kernel
theorem gw_2 : ∀ w ∈ Cond.classLink RX7 182 "java/lang/IndexOutOfBoundsException" :: Cond.initialized "java/lang/IndexOutOfBoundsException" :: vx_atS RX7 186 "java/lang/IndexOutOfBoundsException" ["java/lang/RuntimeException", "java/lang/Exception"], vx_ot w = true := by decide +kernel
theorem gw_3 : ("CanonCote", 54, "size is out of range") ∈ zSTR := by decide +kernel
theorem gw_4 : ∀ w ∈ (vx_atS RX7 56 "java/lang/IllegalArgumentException" ["java/lang/RuntimeException", "java/lang/Exception"]).filter (fun w => !goodWord w), w ∈ zNW ∧ w.onTables = true := by decide +kernel
theorem gw_5 : ∀ w ∈ Cond.classLink RX7 52 "java/lang/IllegalArgumentException" :: Cond.initialized "java/lang/IllegalArgumentException" :: vx_atS RX7 56 "java/lang/IllegalArgumentException" ["java/lang/RuntimeException", "java/lang/Exception"], vx_ot w = true := by decide +kernel
theorem gw_6 : ("CanonCote", 197, "no such vertex") ∈ zSTR := by decide +kernel
theorem gw_7 : ("CanonCote", 71, "both vertices are the same") ∈ zSTR := by decide +kernel
theorem gw_8 : ("CanonCote", 81, "colour is out of range") ∈ zSTR := by decide +kernel
theorem gw_9 : ("CanonCote", 204, "no permutation") ∈ zSTR := by decide +kernel
theorem gw_10 : ("CanonCote", 161, "there are 6 generators") ∈ zSTR := by decide +kernel
theorem gw_11 : ∀ w ∈ (vx_atS RX7 163 "java/lang/IllegalStateException" ["java/lang/RuntimeException", "java/lang/Exception"]).filter (fun w => !goodWord w), w ∈ zNW ∧ w.onTables = true := by decide +kernel
theorem gw_12 : ∀ w ∈ Cond.classLink RX7 159 "java/lang/IllegalStateException" :: Cond.initialized "java/lang/IllegalStateException" :: vx_atS RX7 163 "java/lang/IllegalStateException" ["java/lang/RuntimeException", "java/lang/Exception"], vx_ot w = true := by decide +kernel
theorem gw_13 : ("CanonCote", 184, "no such point") ∈ zSTR := by decide +kernel
theorem gw_14 : ("CanonCote", 190, "points is out of range") ∈ zSTR := by decide +kernel
theorem nw_0 : Cond.fieldLinkNest RX0 40 (TX2 0).1 (TX2 0).2.1 (TX2 0).2.2.1 "CanonCote" ∈ zNW := by decide +kernel
theorem nw_1 : Cond.methodLinkNest RX0 45 yX2_areTwins "CanonCote" ∈ zNW := by decide +kernel
theorem nw_2 : Cond.fieldLinkNest RX0 49 (TX2 2).1 (TX2 2).2.1 (TX2 2).2.2.1 "CanonCote" ∈ zNW := by decide +kernel
theorem nw_3 : Cond.fieldLinkNest RX0 72 (TX2 1).1 (TX2 1).2.1 (TX2 1).2.2.1 "CanonCote" ∈ zNW := by decide +kernel
theorem nw_4 : Cond.methodLinkNest RX0 65 yX7_below "CanonCote" ∈ zNW := by decide +kernel
theorem nw_5 : Cond.methodLinkNest RX1 41 yX7_isIn "CanonCote" ∈ zNW := by decide +kernel
theorem nw_6 : Cond.methodLinkNest RX1 68 yX5_imageOf "CanonCote" ∈ zNW := by decide +kernel
theorem nw_7 : Cond.methodLinkNest RX1 56 yX5_oneThenOther "CanonCote" ∈ zNW := by decide +kernel
theorem nw_8 : Cond.methodLinkNest RX1 72 yX5_inverse "CanonCote" ∈ zNW := by decide +kernel
theorem nw_9 : Cond.methodLinkNest RX2 28 yX7_isIn "CanonCote" ∈ zNW := by decide +kernel
theorem nw_10 : Cond.methodLinkNest RX2 32 yX7_below "CanonCote" ∈ zNW := by decide +kernel
theorem nw_11 : Cond.methodLinkNest RX3 32 yX1_restart "CanonCote" ∈ zNW := by decide +kernel
theorem nw_12 : Cond.methodLinkNest RX3 37 yX1_add "CanonCote" ∈ zNW := by decide +kernel
theorem nw_13 : Cond.methodLinkNest RX3 45 yX7_isIn "CanonCote" ∈ zNW := by decide +kernel
theorem nw_14 : Cond.methodLinkNest RX3 49 yX5_imageOf "CanonCote" ∈ zNW := by decide +kernel
theorem nw_15 : Cond.methodLinkNest RX3 63 yX1_countFrom "CanonCote" ∈ zNW := by decide +kernel
theorem nw_16 : Cond.fieldLinkNest RX3 54 (TX1 0).1 (TX1 0).2.1 (TX1 0).2.2.1 "CanonCote" ∈ zNW := by decide +kernel
theorem nw_17 : Cond.methodLinkNest RX6 64 yX7_isIn "CanonCote" ∈ zNW := by decide +kernel
theorem nw_18 : Cond.fieldLinkNest RX6 45 (TX2 1).1 (TX2 1).2.1 (TX2 1).2.2.1 "CanonCote" ∈ zNW := by decide +kernel
theorem nw_19 : Cond.fieldLinkNest RX6 22 (TX2 0).1 (TX2 0).2.1 (TX2 0).2.2.1 "CanonCote" ∈ zNW := by decide +kernel
theorem nw_20 : Cond.fieldLinkNest RX6 28 (TX2 2).1 (TX2 2).2.1 (TX2 2).2.2.1 "CanonCote" ∈ zNW := by decide +kernel
theorem nw_21 : Cond.fieldLinkNest RX4 47 (TX6 2).1 (TX6 2).2.1 (TX6 2).2.2.1 "CanonCote" ∈ zNW := by decide +kernel
theorem nw_22 : Cond.methodLinkNest RX4 50 yX2_hasEdge "CanonCote" ∈ zNW := by decide +kernel
theorem nw_23 : Cond.fieldLinkNest RX4 25 (TX2 0).1 (TX2 0).2.1 (TX2 0).2.2.1 "CanonCote" ∈ zNW := by decide +kernel
theorem nw_24 : Cond.methodLinkNest RX4 39 yX7_isIn "CanonCote" ∈ zNW := by decide +kernel
theorem nw_25 : Cond.methodLinkNest RX4 31 yX6_refine "CanonCote" ∈ zNW := by decide +kernel
theorem nw_26 : Cond.methodLinkNest RX7 120 yX0_search "CanonCote" ∈ zNW := by decide +kernel
theorem nw_27 : Cond.methodLinkNest RX7 206 yX0_leastCode "CanonCote" ∈ zNW := by decide +kernel
theorem nw_28 : Cond.fieldLinkNest RX7 59 (TX2 0).1 (TX2 0).2.1 (TX2 0).2.2.1 "CanonCote" ∈ zNW := by decide +kernel
theorem nw_29 : Cond.methodLinkNest RX7 63 yX2_clear "CanonCote" ∈ zNW := by decide +kernel
theorem nw_30 : Cond.methodLinkNest RX7 73 yX2_flipEdge "CanonCote" ∈ zNW := by decide +kernel
theorem nw_31 : Cond.methodLinkNest RX7 77 yX2_hasEdge "CanonCote" ∈ zNW := by decide +kernel
theorem nw_32 : Cond.fieldLinkNest RX7 83 (TX2 2).1 (TX2 2).2.1 (TX2 2).2.2.1 "CanonCote" ∈ zNW := by decide +kernel
theorem nw_33 : Cond.methodLinkNest RX7 87 yX2_exchange "CanonCote" ∈ zNW := by decide +kernel
theorem nw_34 : Cond.methodLinkNest RX7 90 yX2_become "CanonCote" ∈ zNW := by decide +kernel
theorem nw_35 : Cond.methodLinkNest RX7 94 yX2_invertEdges "CanonCote" ∈ zNW := by decide +kernel
theorem nw_36 : Cond.methodLinkNest RX7 97 yX2_countEdges "CanonCote" ∈ zNW := by decide +kernel
theorem nw_37 : Cond.fieldLinkNest RX7 101 (TX2 1).1 (TX2 1).2.1 (TX2 1).2.2.1 "CanonCote" ∈ zNW := by decide +kernel
theorem nw_38 : Cond.methodLinkNest RX7 104 yX6_refine "CanonCote" ∈ zNW := by decide +kernel
theorem nw_39 : Cond.fieldLinkNest RX7 107 (TX6 0).1 (TX6 0).2.1 (TX6 0).2.2.1 "CanonCote" ∈ zNW := by decide +kernel
theorem nw_40 : Cond.fieldLinkNest RX7 110 (TX6 2).1 (TX6 2).2.1 (TX6 2).2.2.1 "CanonCote" ∈ zNW := by decide +kernel
theorem nw_41 : Cond.fieldLinkNest RX7 113 (TX6 1).1 (TX6 1).2.1 (TX6 1).2.2.1 "CanonCote" ∈ zNW := by decide +kernel
theorem nw_42 : Cond.methodLinkNest RX7 123 yX0_bestPlace "CanonCote" ∈ zNW := by decide +kernel
theorem nw_43 : Cond.methodLinkNest RX7 131 yX4_find "CanonCote" ∈ zNW := by decide +kernel
theorem nw_44 : Cond.fieldLinkNest RX7 134 (TX4 0).1 (TX4 0).2.1 (TX4 0).2.2.1 "CanonCote" ∈ zNW := by decide +kernel
theorem nw_45 : Cond.methodLinkNest RX7 142 yX2_becomePart "CanonCote" ∈ zNW := by decide +kernel
theorem nw_46 : Cond.methodLinkNest RX7 145 yX0_countBest "CanonCote" ∈ zNW := by decide +kernel
theorem nw_47 : Cond.methodLinkNest RX7 148 yX0_exchangeable "CanonCote" ∈ zNW := by decide +kernel
theorem nw_48 : Cond.methodLinkNest RX7 199 yX5_isOne "CanonCote" ∈ zNW := by decide +kernel
theorem nw_49 : Cond.fieldLinkNest RX7 158 (TX3 0).1 (TX3 0).2.1 (TX3 0).2.2.1 "CanonCote" ∈ zNW := by decide +kernel
theorem nw_50 : Cond.methodLinkNest RX7 164 yX3_add "CanonCote" ∈ zNW := by decide +kernel
theorem nw_51 : Cond.fieldLinkNest RX7 167 (TX3 2).1 (TX3 2).2.1 (TX3 2).2.2.1 "CanonCote" ∈ zNW := by decide +kernel
theorem nw_52 : Cond.fieldLinkNest RX7 171 (TX1 0).1 (TX1 0).2.1 (TX1 0).2.2.1 "CanonCote" ∈ zNW := by decide +kernel
theorem nw_53 : Cond.methodLinkNest RX7 176 yX3_clear "CanonCote" ∈ zNW := by decide +kernel
theorem nw_54 : Cond.methodLinkNest RX7 178 yX1_holds "CanonCote" ∈ zNW := by decide +kernel
theorem nw_55 : Cond.methodLinkNest RX7 187 yX3_reach "CanonCote" ∈ zNW := by decide +kernel
theorem nw_56 : Cond.methodLinkNest RX7 192 yX3_countFixing "CanonCote" ∈ zNW := by decide +kernel
theorem nw_57 : Cond.methodLinkNest RX4 17 yX6_init "CanonCote" ∈ zNW := by decide +kernel
theorem nw_58 : Cond.methodLinkNest RX3 17 yX1_init "CanonCote" ∈ zNW := by decide +kernel
theorem nw_59 : Cond.methodLinkNest RX7 15 yX2_init "CanonCote" ∈ zNW := by decide +kernel
theorem nw_60 : Cond.methodLinkNest RX7 22 yX6_init "CanonCote" ∈ zNW := by decide +kernel
theorem nw_61 : Cond.methodLinkNest RX7 29 yX0_init "CanonCote" ∈ zNW := by decide +kernel
theorem nw_62 : Cond.methodLinkNest RX7 36 yX4_init "CanonCote" ∈ zNW := by decide +kernel
theorem nw_63 : Cond.methodLinkNest RX7 43 yX3_init "CanonCote" ∈ zNW := by decide +kernel
