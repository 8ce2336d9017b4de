/-! MATHEMATICS, 2: small methods; the graphs of both sides -/
section
/-- the number of bits of a number below 256 -/
def pop (a : Nat) : Nat := (List.range 8).countP (fun i => a.testBit i)
theorem bitCount_eq (F : Nat) {a : Nat} (ha : a < 256) (σ : zST) : m_J6_bitCount_0f7a4 F (nI a) σ = some (nI (pop a), σ) := by
  have h : ∀ a, a < 256 → ((fun x1 : Int32 => (fun x3 : Int32 => (fun x5 : Int32 => (fun x7 : Int32 => (fun x9 : Int32 => x9 &&& 63) (x7 + (jushr x7 16))) (x5 + (jushr x5 8))) ((x3 + (jushr x3 4)) &&& 252645135)) ((x1 &&& 858993459) + ((jushr x1 2) &&& 858993459))) (nI a - ((jushr (nI a) 1) &&& 1431655765))) = nI (pop a) := by decide +kernel
  exact congrArg (fun x => some (x, σ)) (h a ha)
theorem tb_and1 (a i : Nat) : a / 2 ^ i &&& 1 = if a.testBit i then 1 else 0 := by
  rw [Nat.and_one_is_mod, Nat.testBit_eq_decide_div_mod_eq]
  by_cases h : a / 2 ^ i % 2 = 1
  · simp [h]
  · simp [h]; omega
theorem isIn_eq (F : Nat) {a : Nat} (ha : a < 2 ^ 31) {i : Nat} (hi : i < 32) (σ : zST) : m_X7_isIn F (nI a) (nI i) σ = some (if a.testBit i then 1 else 0, σ) := by
  unfold m_X7_isIn
  rw [b_shr ha hi, l1, b_and, tb_and1, l0]
  by_cases h : a.testBit i <;> simp [h, nI_0]
  intro h; exact absurd h (by decide +kernel)
theorem shl1 {i : Nat} (hi : i < 32) : jshl 1 (nI i) = nI (2 ^ i) := by
  rw [l1, b_shl 1 hi, Nat.one_mul]
theorem below_eq (F : Nat) {i : Nat} (hi : i < 32) (σ : zST) : m_X7_below F (nI i) σ = some (nI (2 ^ i - 1), σ) := by
  unfold m_X7_below
  rw [shl1 hi, l1, b_sub (Nat.one_le_two_pow)]
/-- filling an array with one number -/
theorem fillI (F p : Nat) (hF : 8 < F) (x : Int32) (σ : zST) : m_J7_fill_53178 F 8 p x σ = some (wI σ p 8 (fun _ => x)) := by
  unfold m_J7_fill_53178
  rw [nm_eq]
  have h := up_loop0 (fun n (i : Int32) (s : zST) => m_J7_fill_53178_5 F 8 n p x i (nI 8) s) 8 (fun i => wI σ p i (fun _ => x)) (some (wI σ p 8 (fun _ => x)))
    (fun n i hi => by
      show m_J7_fill_53178_5 F 8 (n + 1) p x (nI i) (nI 8) _ = _
      rw [m_J7_fill_53178_5]; dsimp only; rw [if_neg (nI_ge hi (by omega)), stI_at hi (by omega), nm_eq, nI_1, ← wI_s])
    (fun n => by
      show m_J7_fill_53178_5 F 8 (n + 1) p x (nI 8) (nI 8) _ = _
      rw [m_J7_fill_53178_5]; dsimp only; rw [if_pos (nI_le (by omega) (by omega))]) hF
  rw [wI_0] at h
  exact h
/-- the graph with n vertices, adjacency masks M, colours C -/
def Gr (n : Nat) (M C : Nat → Nat) : Prop := (1 ≤ n ∧ n ≤ 8) ∧ ∀ v, v < 8 → C v < 8 ∧ M v < 2 ^ n ∧ (n ≤ v → M v = 0) ∧ (M v).testBit v = false ∧ ∀ u, u < 8 → (M u).testBit v = (M v).testBit u
/-- it lies at place p (class) -/
def At (p n : Nat) (M C : Nat → Nat) (σ : zST) : Prop := gI σ p 0 = nI n ∧ ∀ v, v < 8 → gI σ (p + 1) v = nI (M v) ∧ gI σ (p + 2) v = nI (C v)
/-- it is graph k (reference) -/
def RAt (k n : Nat) (M C : Nat → Nat) (σ : zST) : Prop := gI σ 47 k = nI n ∧ ∀ v, v < 8 → gI σ 48 (8 * k + v) = nI (M v) ∧ gI σ 49 (8 * k + v) = nI (C v)
/-- the four graphs, the same on both sides -/
def GI (σ : zST) : Prop := ∀ k, k < 4 → ∃ n M C, Gr n M C ∧ At (2 + 3 * k) n M C σ ∧ RAt k n M C σ
theorem At.mv {p n : Nat} {M C : Nat → Nat} {σ τ : zST} (h : At p n M C σ) {S : Nat → Nat → Prop} (hf : Fr S σ τ) (h0 : ∀ q j, p ≤ q → q ≤ p + 2 → ¬ S q j) : At p n M C τ := ⟨by
  rw [(hf p 0 (h0 p 0 (by omega) (by omega))).1, h.1], fun v hv => ⟨by
  rw [(hf (p + 1) v (h0 _ _ (by omega) (by omega))).1, (h.2 v hv).1], by
  rw [(hf (p + 2) v (h0 _ _ (by omega) (by omega))).1, (h.2 v hv).2]⟩⟩
theorem RAt.mv {k n : Nat} {M C : Nat → Nat} {σ τ : zST} (h : RAt k n M C σ) {S : Nat → Nat → Prop} (hf : Fr S σ τ) (h0 : ∀ q j, 47 ≤ q → q ≤ 49 → ¬ S q j) : RAt k n M C τ := ⟨by
  rw [(hf 47 k (h0 _ _ (by omega) (by omega))).1, h.1], fun v hv => ⟨by
  rw [(hf 48 _ (h0 _ _ (by omega) (by omega))).1, (h.2 v hv).1], by
  rw [(hf 49 _ (h0 _ _ (by omega) (by omega))).1, (h.2 v hv).2]⟩⟩
theorem pow8 {n : Nat} (h : n ≤ 8) : 2 ^ n ≤ 256 := Nat.pow_le_pow_right (by omega) h
theorem Gr.lt {n : Nat} {M C : Nat → Nat} (h : Gr n M C) {v : Nat} (hv : v < 8) : M v < 256 := Nat.lt_of_lt_of_le (h.2 v hv).2.1 (pow8 h.1.2)
/-- a number that is no index below n -/
def Bad (n : Nat) (x : Int32) : Prop := x < 0 ∨ nI n ≤ x
theorem Bad.or (n : Nat) (hn : n < 2 ^ 31) (x : Int32) : Bad n x ∨ ∃ j, j < n ∧ x = nI j := by
  rcases pk_ix x hn with h | h | h
  · exact Or.inl (Or.inl h)
  · exact Or.inl (Or.inr h)
  · exact Or.inr h
theorem graphAt_bad (F : Nat) {x : Int32} (h : Bad 4 x) (σ : zST) : m_X7_graphAt F 0 x σ = some (.inl "java/lang/IndexOutOfBoundsException", σ) := by
  unfold m_X7_graphAt m_X7_graphAt_9
  rcases h with h | h
  · rw [if_pos h]
  · by_cases h0 : x < 0
    · rw [if_pos h0]
    · rw [if_neg h0, l4, if_neg (fun z => absurd h (Int32.not_le.mpr z))]
theorem graphAt_ok (F : Nat) {k : Nat} (h : k < 4) (σ : zST) : m_X7_graphAt F 0 (nI k) σ = some (.inr (2 + 3 * k), σ) := by
  unfold m_X7_graphAt
  rw [if_neg (nI_pos (by omega)), l4, if_pos (nI_lt h (by omega)), ldG_at h (by omega)]
theorem checkV_bad (F : Nat) {p n : Nat} {x : Int32} {σ : zST} (h : Bad n x) (hg : gI σ p 0 = nI n) : m_X7_checkVertex F p x σ = some (.inl "java/lang/IndexOutOfBoundsException", σ) := by
  unfold m_X7_checkVertex m_X7_checkVertex_12
  rcases h with h | h
  · rw [if_pos h]
  · by_cases h0 : x < 0
    · rw [if_pos h0]
    · rw [if_neg h0, hg, if_neg (fun z => absurd h (Int32.not_le.mpr z))]
theorem checkV_ok (F : Nat) {p n v : Nat} {σ : zST} (h : v < n) (hn : n < 2 ^ 31) (hg : gI σ p 0 = nI n) : m_X7_checkVertex F p (nI v) σ = some (.inr (), σ) := by
  unfold m_X7_checkVertex
  rw [if_neg (nI_pos (by omega)), hg, if_pos (nI_lt h (by omega))]
/-- what a call of the law asks for: both sides answer alike, and what they keep is kept -/
def Op (I : zST → Prop) (cl rf : zST → Option (Int32 × zST)) : Prop := ∀ σ, I σ → ∃ c σ1 r σ2, cl σ = some (c, σ1) ∧ rf σ1 = some (r, σ2) ∧ gI σ2 46 16 = c ∧ (c = 0 → gL σ2 60 0 = r.toInt64) ∧ I σ2
/-- cells that calls on graphs write: class, reference -/
def SC (p _j : Nat) : Prop := p < 36 ∨ p = 60
def SR (p j : Nat) : Prop := (46 < p ∧ p < 56) ∨ (p = 46 ∧ (j = 9 ∨ j = 16))
/-- the rest of what is kept: I does not look at graphs' cells -/
def Nb (I : zST → Prop) : Prop := ∀ σ τ, I σ → Fr (fun p j => SC p j ∨ SR p j) σ τ → I τ
theorem gI_same (σ : zST) (p j : Nat) (x : Int32) : gI (sI σ p j x) p j = x := by
  rw [gI_sI, if_pos ⟨rfl, rfl⟩]
theorem n10 : ¬ (1 : Int32) = 0 := by decide +kernel
end

