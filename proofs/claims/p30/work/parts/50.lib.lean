/-! MATHEMATICS, 1: numbers, reads and writes of the store, loops -/
section
theorem nm_eq {α β : Type} (e : α) (k : α → β) : nm e k = k e := rfl
theorem bd_some {α β : Type} (x : α) (τ : zST) (k : α → zST → Option β) : bd (some (x, τ)) k = k x τ := rfl
theorem bv_some {β : Type} (τ : zST) (k : zST → Option β) : bv (some τ) k = k τ := rfl
theorem bx_inr {α β : Type} (x : α) (τ : zST) (k : α → zST → Option (zX β × zST)) : bx (some (.inr x, τ)) k = k x τ := rfl
theorem bx_inl {α β : Type} (e : String) (τ : zST) (k : α → zST → Option (zX β × zST)) : bx (some (.inl e, τ)) k = some (.inl e, τ) := rfl
theorem bc_inr {α β : Type} (x : α) (τ : zST) (kx : String → zST → Option β) (k : α → zST → Option β) : bc (some (.inr x, τ)) kx k = k x τ := rfl
theorem bc_inl {α β : Type} (e : String) (τ : zST) (kx : String → zST → Option β) (k : α → zST → Option β) : bc (some (.inl e, τ)) kx k = kx e τ := rfl
theorem gd_yes {β : Type} {c : Prop} [Decidable c] (h : c) (k : Option β) : gd c k = k := if_pos h
theorem in_yes {β : Type} {n i : Nat} (h : i < n) (hn : n < 2 ^ 31) (k : Option β) : (if nI i < 0 ∨ n ≤ (nI i).toNatClampNeg then none else k) = k := if_neg (nI_in h hn)
theorem ldI_at {β : Type} {σ : zST} {q n i : Nat} {k : Int32 → Option β} (h : i < n) (hn : n < 2 ^ 31) : ldI σ q n (nI i) k = k (gI σ q i) := by
  unfold ldI; rw [in_yes h hn, nI_clamp (Nat.lt_trans h hn)]
theorem ldL_at {β : Type} {σ : zST} {q n i : Nat} {k : Int64 → Option β} (h : i < n) (hn : n < 2 ^ 31) : ldL σ q n (nI i) k = k (gL σ q i) := by
  unfold ldL; rw [in_yes h hn, nI_clamp (Nat.lt_trans h hn)]
theorem stI_at {β : Type} {σ : zST} {q n i : Nat} {x : Int32} {k : zST → Option β} (h : i < n) (hn : n < 2 ^ 31) : stI σ q n (nI i) x k = k (sI σ q i x) := by
  unfold stI; rw [in_yes h hn, nI_clamp (Nat.lt_trans h hn)]
theorem stL_at {β : Type} {σ : zST} {q n i : Nat} {x : Int64} {k : zST → Option β} (h : i < n) (hn : n < 2 ^ 31) : stL σ q n (nI i) x k = k (sL σ q i x) := by
  unfold stL; rw [in_yes h hn, nI_clamp (Nat.lt_trans h hn)]
theorem ldT_at {β : Type} {f : Nat → Int32} {n i : Nat} {k : Int32 → Option β} (h : i < n) (hn : n < 2 ^ 31) : ldT f n (nI i) k = k (f i) := by
  unfold ldT; rw [in_yes h hn, nI_clamp (Nat.lt_trans h hn)]
theorem ldG_at {β : Type} {p n i : Nat} {k : Nat → Option β} (h : i < n) (hn : n < 2 ^ 31) : ldG p n (nI i) k = k (p + 3 * i) := by
  unfold ldG; rw [in_yes h hn, nI_clamp (Nat.lt_trans h hn)]
theorem gI_sI (σ : zST) (p j : Nat) (x : Int32) (q i : Nat) : gI (sI σ p j x) q i = if q = p ∧ i = j then x else gI σ q i := by
  unfold gI sI upd
  by_cases h : q = p
  · subst h
    by_cases h2 : i = j <;> simp [h2]
  · simp [h]
theorem gL_sI (σ : zST) (p j : Nat) (x : Int32) (q i : Nat) : gL (sI σ p j x) q i = gL σ q i := rfl
theorem gI_sL (σ : zST) (p j : Nat) (x : Int64) (q i : Nat) : gI (sL σ p j x) q i = gI σ q i := rfl
theorem gL_sL (σ : zST) (p j : Nat) (x : Int64) (q i : Nat) : gL (sL σ p j x) q i = if q = p ∧ i = j then x else gL σ q i := by
  unfold gL sL vp_updL
  by_cases h : q = p
  · subst h
    by_cases h2 : i = j <;> simp [h2]
  · simp [h]
/-- stores are the same where they read the same -/
theorem zST_ext {σ τ : zST} (h1 : ∀ p j, gI σ p j = gI τ p j) (h2 : ∀ p j, gL σ p j = gL τ p j) : σ = τ := by
  have a : σ.1 = τ.1 := by funext p j; exact h1 p j
  have b : σ.2 = τ.2 := by funext p j; exact h2 p j
  exact Prod.ext a b
/-- the stores agree off the cells of S -/
def Fr (S : Nat → Nat → Prop) (σ τ : zST) : Prop := ∀ p j, ¬ S p j → gI τ p j = gI σ p j ∧ gL τ p j = gL σ p j
theorem Fr.rf {S : Nat → Nat → Prop} {σ : zST} : Fr S σ σ := fun _ _ _ => ⟨rfl, rfl⟩
theorem Fr.tr {S : Nat → Nat → Prop} {σ τ ρ : zST} (h1 : Fr S σ τ) (h2 : Fr S τ ρ) : Fr S σ ρ := fun p j h => ⟨(h2 p j h).1.trans (h1 p j h).1, (h2 p j h).2.trans (h1 p j h).2⟩
theorem Fr.mono {S T : Nat → Nat → Prop} {σ τ : zST} (h : Fr S σ τ) (hST : ∀ p j, S p j → T p j) : Fr T σ τ := fun p j hp => h p j (fun z => hp (hST p j z))
theorem Fr.sI {S : Nat → Nat → Prop} {σ : zST} {p j : Nat} {x : Int32} (h : S p j) : Fr S σ (sI σ p j x) := fun q i hq => ⟨by
  rw [gI_sI, if_neg (fun z => hq (by rw [z.1, z.2]; exact h))], rfl⟩
theorem Fr.sL {S : Nat → Nat → Prop} {σ : zST} {p j : Nat} {x : Int64} (h : S p j) : Fr S σ (sL σ p j x) := fun q i hq => ⟨rfl, by
  rw [gL_sL, if_neg (fun z => hq (by rw [z.1, z.2]; exact h))]⟩
/-- the cells j < n of p become f j -/
def wI (σ : zST) (p n : Nat) (f : Nat → Int32) : zST := (fun q j => if q = p ∧ j < n then f j else gI σ q j, σ.2)
def wL (σ : zST) (p n : Nat) (f : Nat → Int64) : zST := (σ.1, fun q j => if q = p ∧ j < n then f j else gL σ q j)
theorem gI_wI (σ : zST) (p n : Nat) (f : Nat → Int32) (q i : Nat) : gI (wI σ p n f) q i = if q = p ∧ i < n then f i else gI σ q i := rfl
theorem gL_wI (σ : zST) (p n : Nat) (f : Nat → Int32) (q i : Nat) : gL (wI σ p n f) q i = gL σ q i := rfl
theorem gL_wL (σ : zST) (p n : Nat) (f : Nat → Int64) (q i : Nat) : gL (wL σ p n f) q i = if q = p ∧ i < n then f i else gL σ q i := rfl
theorem gI_wL (σ : zST) (p n : Nat) (f : Nat → Int64) (q i : Nat) : gI (wL σ p n f) q i = gI σ q i := rfl
theorem wI_0 (σ : zST) (p : Nat) (f : Nat → Int32) : wI σ p 0 f = σ := zST_ext (fun q i => by simp [gI_wI]) (fun q i => rfl)
theorem wL_0 (σ : zST) (p : Nat) (f : Nat → Int64) : wL σ p 0 f = σ := zST_ext (fun q i => rfl) (fun q i => by simp [gL_wL])
theorem wI_s (σ : zST) (p n : Nat) (f : Nat → Int32) : sI (wI σ p n f) p n (f n) = wI σ p (n + 1) f := zST_ext (fun q i => by
  rw [gI_sI, gI_wI, gI_wI]
  by_cases h : q = p
  · subst h
    by_cases h2 : i = n
    · subst h2; simp
    · have : i < n ↔ i < n + 1 := by omega
      simp [h2, this]
  · simp [h]) (fun q i => rfl)
theorem wL_s (σ : zST) (p n : Nat) (f : Nat → Int64) : sL (wL σ p n f) p n (f n) = wL σ p (n + 1) f := zST_ext (fun q i => rfl) (fun q i => by
  rw [gL_sL, gL_wL, gL_wL]
  by_cases h : q = p
  · subst h
    by_cases h2 : i = n
    · subst h2; simp
    · have : i < n ↔ i < n + 1 := by omega
      simp [h2, this]
  · simp [h])
theorem Fr.wI {S : Nat → Nat → Prop} {σ : zST} {p n : Nat} {f : Nat → Int32} (h : ∀ j, j < n → S p j) : Fr S σ (wI σ p n f) := fun q i hq => ⟨by
  rw [gI_wI, if_neg (fun z => hq (by rw [z.1]; exact h _ z.2))], rfl⟩
theorem Fr.wL {S : Nat → Nat → Prop} {σ : zST} {p n : Nat} {f : Nat → Int64} (h : ∀ j, j < n → S p j) : Fr S σ (wL σ p n f) := fun q i hq => ⟨rfl, by
  rw [gL_wL, if_neg (fun z => hq (by rw [z.1]; exact h _ z.2))]⟩
/-- a loop that counts up: the state before the i-th turn is st i -/
theorem up_loop {S β : Type} (f : Nat → Int32 → S → Option β) (N : Nat) (st : Nat → S) (out : Option β) (hs : ∀ n i, i < N → f (n + 1) (nI i) (st i) = f n (nI (i + 1)) (st (i + 1))) (he : ∀ n, f (n + 1) (nI N) (st N) = out) : ∀ (d i n : Nat), i + d = N → d < n → f n (nI i) (st i) = out := by
  intro d
  induction d with
  | zero =>
    intro i n hi hn
    obtain ⟨n, rfl⟩ : ∃ k, n = k + 1 := ⟨n - 1, by omega⟩
    have : i = N := by omega
    subst this
    exact he n
  | succ d ih =>
    intro i n hi hn
    obtain ⟨n, rfl⟩ : ∃ k, n = k + 1 := ⟨n - 1, by omega⟩
    rw [hs n i (by omega)]
    exact ih (i + 1) n (by omega) (by omega)
theorem up_loop0 {S β : Type} (f : Nat → Int32 → S → Option β) (N : Nat) (st : Nat → S) (out : Option β) (hs : ∀ n i, i < N → f (n + 1) (nI i) (st i) = f n (nI (i + 1)) (st (i + 1))) (he : ∀ n, f (n + 1) (nI N) (st N) = out) {F : Nat} (hF : N < F) : f F 0 (st 0) = out := by
  have h := up_loop f N st out hs he N 0 F (by omega) hF
  rwa [nI_0] at h
/-- a loop with an invariant: from the i-th turn on, the rest answers as out says -/
theorem up_inv {S β : Type} (f : Nat → Int32 → S → Option β) (N : Nat) (I : Nat → S → Prop) (P : Option β → Prop) (hs : ∀ n i s, i < N → I i s → ∃ s', I (i + 1) s' ∧ f (n + 1) (nI i) s = f n (nI (i + 1)) s') (he : ∀ n s, I N s → P (f (n + 1) (nI N) s)) : ∀ (d i n : Nat) (s : S), i + d = N → d < n → I i s → P (f n (nI i) s) := by
  intro d
  induction d with
  | zero =>
    intro i n s hi hn h
    obtain ⟨n, rfl⟩ : ∃ k, n = k + 1 := ⟨n - 1, by omega⟩
    have : i = N := by omega
    subst this
    exact he n s h
  | succ d ih =>
    intro i n s hi hn h
    obtain ⟨n, rfl⟩ : ∃ k, n = k + 1 := ⟨n - 1, by omega⟩
    obtain ⟨s', h', e⟩ := hs n i s (by omega) h
    rw [e]
    exact ih (i + 1) n s' (by omega) (by omega) h'
theorem up_inv0 {S β : Type} (f : Nat → Int32 → S → Option β) (N : Nat) (I : Nat → S → Prop) (P : Option β → Prop) (hs : ∀ n i s, i < N → I i s → ∃ s', I (i + 1) s' ∧ f (n + 1) (nI i) s = f n (nI (i + 1)) s') (he : ∀ n s, I N s → P (f (n + 1) (nI N) s)) {F : Nat} (hF : N < F) {s : S} (h : I 0 s) : P (f F 0 s) := by
  have h := up_inv f N I P hs he N 0 F s (by omega) hF h
  rwa [nI_0] at h
-- literals
theorem l0 : (0 : Int32) = nI 0 := rfl
theorem l1 : (1 : Int32) = nI 1 := rfl
theorem l2 : (2 : Int32) = nI 2 := rfl
theorem l3 : (3 : Int32) = nI 3 := rfl
theorem l4 : (4 : Int32) = nI 4 := rfl
theorem l6 : (6 : Int32) = nI 6 := rfl
theorem l7 : (7 : Int32) = nI 7 := rfl
theorem l8 : (8 : Int32) = nI 8 := rfl
theorem l28 : (28 : Int32) = nI 28 := rfl
theorem l64 : (64 : Int32) = nI 64 := rfl
-- bits of small numbers
theorem b_and (a b : Nat) : nI a &&& nI b = nI (a &&& b) := by
  apply Int32.toBitVec.inj
  show (BitVec.ofNat 32 a) &&& (BitVec.ofNat 32 b) = BitVec.ofNat 32 (a &&& b)
  simp [← BitVec.ofNat_and]
theorem b_or (a b : Nat) : nI a ||| nI b = nI (a ||| b) := by
  apply Int32.toBitVec.inj
  show (BitVec.ofNat 32 a) ||| (BitVec.ofNat 32 b) = BitVec.ofNat 32 (a ||| b)
  simp [← BitVec.ofNat_or]
theorem b_xor (a b : Nat) : nI a ^^^ nI b = nI (a ^^^ b) := by
  apply Int32.toBitVec.inj
  show (BitVec.ofNat 32 a) ^^^ (BitVec.ofNat 32 b) = BitVec.ofNat 32 (a ^^^ b)
  simp [← BitVec.ofNat_xor]
theorem b_shl (a : Nat) {k : Nat} (hk : k < 32) : jshl (nI a) (nI k) = nI (a * 2 ^ k) := by
  apply Int32.toBitVec.inj
  apply BitVec.eq_of_toNat_eq
  have hs : ((nI k &&& 31).toBitVec.smod 32).toNat = k := by
    revert k; decide +kernel
  show ((nI a) <<< (nI k &&& 31)).toBitVec.toNat = _
  rw [pk_shl (nI a) (nI k &&& 31) k hs]
  show (BitVec.ofNat 32 a).toNat * 2 ^ k % 2 ^ 32 = (BitVec.ofNat 32 (a * 2 ^ k)).toNat
  rw [BitVec.toNat_ofNat, BitVec.toNat_ofNat, Nat.mod_mul_mod]
theorem b_shr {a : Nat} (ha : a < 2 ^ 31) {k : Nat} (hk : k < 32) : jshr (nI a) (nI k) = nI (a / 2 ^ k) := by
  have hs : ((nI k &&& 31).toBitVec.smod 32).toNat = k := by
    revert k; decide +kernel
  exact pk_shrN ha (nI k &&& 31) k hs
theorem b_eq {a b : Nat} (ha : a < 2 ^ 31) (hb : b < 2 ^ 31) : nI a = nI b ↔ a = b := nI_eq ha hb
theorem b_sub {a b : Nat} (h : b ≤ a) : nI a - nI b = nI (a - b) := pk_sub h
theorem b_not (a b : Nat) : nI a &&& (nI b ^^^ (-1)) = nI (a ^^^ (a &&& b)) := by
  rw [← b_xor, ← b_and]
  apply Int32.toBitVec.inj
  generalize nI a = x
  generalize nI b = y
  show x.toBitVec &&& (y.toBitVec ^^^ (Int32.toBitVec (-1))) = x.toBitVec ^^^ (x.toBitVec &&& y.toBitVec)
  rw [show Int32.toBitVec (-1) = BitVec.allOnes 32 from by decide +kernel]
  ext i hi
  simp only [BitVec.getElem_and, BitVec.getElem_xor, BitVec.getElem_allOnes]
  cases x.toBitVec[i] <;> cases y.toBitVec[i] <;> rfl
end

