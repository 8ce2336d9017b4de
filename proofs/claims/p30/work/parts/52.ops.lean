/-! MATHEMATICS, 3: calls that read or change a graph plainly -/
section
/-- scratch cells of calls on graphs -/
def SS (p j : Nat) : Prop := (14 ≤ p ∧ p < 36) ∨ p = 60 ∨ (50 ≤ p ∧ p < 56) ∨ (p = 46 ∧ (j = 9 ∨ j = 16))
/-- the cells of graph k too -/
def SK (k p j : Nat) : Prop := SS p j ∨ (2 + 3 * k ≤ p ∧ p ≤ 4 + 3 * k) ∨ (p = 47 ∧ j = k) ∨ ((p = 48 ∨ p = 49) ∧ 8 * k ≤ j ∧ j < 8 * k + 8)
theorem SS.nb {p j : Nat} (h : SS p j) : SC p j ∨ SR p j := by
  unfold SS at h; unfold SC SR; omega
theorem SK.nb {k p j : Nat} (hk : k < 4) (h : SK k p j) : SC p j ∨ SR p j := by
  unfold SK SS at h; unfold SC SR; omega
theorem GI.mv {σ τ : zST} (h : GI σ) (hf : Fr SS σ τ) : GI τ := by
  intro k hk
  obtain ⟨n, M, C, h1, h2, h3⟩ := h k hk
  exact ⟨n, M, C, h1, h2.mv hf (fun q j a b => by unfold SS; omega), h3.mv hf (fun q j a b => by unfold SS; omega)⟩
theorem GI.set {σ τ : zST} (h : GI σ) {k : Nat} {n : Nat} {M C : Nat → Nat} (hk : k < 4) (h1 : Gr n M C) (h2 : At (2 + 3 * k) n M C τ) (h3 : RAt k n M C τ) (hf : Fr (SK k) σ τ) : GI τ := by
  intro l hl
  by_cases e : l = k
  · subst e; exact ⟨n, M, C, h1, h2, h3⟩
  · obtain ⟨n, M, C, h1, h2, h3⟩ := h l hl
    refine ⟨n, M, C, h1, h2.mv hf (fun q j a b => by unfold SK SS; omega), ?_⟩
    refine ⟨by rw [(hf 47 l (by unfold SK SS; omega)).1, h3.1], fun v hv => ⟨by rw [(hf 48 _ (by unfold SK SS; omega)).1, (h3.2 v hv).1], by rw [(hf 49 _ (by unfold SK SS; omega)).1, (h3.2 v hv).2]⟩⟩
/-- what the law keeps: the graphs, and J -/
def GJ (J : zST → Prop) (σ : zST) : Prop := GI σ ∧ J σ
theorem GJ.mv {J : zST → Prop} (hJ : Nb J) {σ τ : zST} (h : GJ J σ) (hf : Fr SS σ τ) : GJ J τ := ⟨h.1.mv hf, hJ σ τ h.2 (hf.mono fun _ _ z => z.nb)⟩
theorem GJ.set {J : zST → Prop} (hJ : Nb J) {σ τ : zST} (h : GJ J σ) {k : Nat} {n : Nat} {M C : Nat → Nat} (hk : k < 4) (h1 : Gr n M C) (h2 : At (2 + 3 * k) n M C τ) (h3 : RAt k n M C τ) (hf : Fr (SK k) σ τ) : GJ J τ := ⟨h.1.set hk h1 h2 h3 hf, hJ σ τ h.2 (hf.mono fun _ _ z => z.nb hk)⟩
/-- what an Op asks of one store -/
def Ok1 (I : zST → Prop) (cl rf : zST → Option (Int32 × zST)) (σ : zST) : Prop := ∃ c σ1 r σ2, cl σ = some (c, σ1) ∧ rf σ1 = some (r, σ2) ∧ gI σ2 46 16 = c ∧ (c = 0 → gL σ2 60 0 = r.toInt64) ∧ I σ2
/-- a refused call -/
theorem Ok1.bad {J : zST → Prop} (hJ : Nb J) {cl rf : zST → Option (Int32 × zST)} {σ : zST} (h : GJ J σ) {c r : Int32} (hc : ¬ c = 0) (h1 : cl σ = some (c, σ)) (h2 : rf σ = some (r, sI σ 46 16 c)) : Ok1 (GJ J) cl rf σ := ⟨c, σ, r, _, h1, h2, gI_same _ _ _ _, fun z => absurd z hc, h.mv hJ (Fr.sI (by unfold SS; omega))⟩
/-- a call that changes no graph -/
theorem Ok1.rd {J : zST → Prop} (hJ : Nb J) {cl rf : zST → Option (Int32 × zST)} {σ σ1 σ2 : zST} (h : GJ J σ) {r : Int32} (h1 : cl σ = some (0, σ1)) (h2 : rf σ1 = some (r, σ2)) (f1 : Fr SS σ σ1) (f2 : Fr SS σ1 σ2) (ht : gI σ2 46 16 = 0) (hv : gL σ2 60 0 = r.toInt64) : Ok1 (GJ J) cl rf σ := ⟨0, σ1, r, σ2, h1, h2, ht, fun _ => hv, h.mv hJ (f1.tr f2)⟩
theorem gL_same (σ : zST) (p j : Nat) (x : Int64) : gL (sL σ p j x) p j = x := by
  rw [gL_sL, if_pos ⟨rfl, rfl⟩]
theorem out_at {β : Type} (σ : zST) (x : Int64) (k : zST → Option β) : stL σ 60 1 0 x k = k (sL σ 60 0 x) := by
  rw [l0, stL_at (by omega) (by omega)]
/-- a call on a graph: refused alike; what is left is the case of a graph -/
theorem Op.g {J : zST → Prop} (hJ : Nb J) {cl rf : Int32 → zST → Option (Int32 × zST)} (h1 : ∀ x, Bad 4 x → ∀ σ, cl x σ = some (1, σ)) (h2 : ∀ x, Bad 4 x → ∀ σ, rf x σ = some (0, sI σ 46 16 1)) (h3 : ∀ σ, GJ J σ → ∀ k, k < 4 → ∀ n M C, Gr n M C → At (2 + 3 * k) n M C σ → RAt k n M C σ → Ok1 (GJ J) (cl (nI k)) (rf (nI k)) σ) (x : Int32) : Op (GJ J) (cl x) (rf x) := by
  intro σ h
  rcases Bad.or 4 (by omega) x with hx | ⟨k, hk, rfl⟩
  · exact Ok1.bad hJ h (c := 1) (r := 0) (by decide +kernel) (h1 x hx σ) (h2 x hx σ)
  · obtain ⟨n, M, C, hG, hA, hR⟩ := h.1 k hk
    exact h3 σ h k hk n M C hG hA hR
theorem Op.v {J : zST → Prop} (hJ : Nb J) {cl rf : Int32 → Int32 → zST → Option (Int32 × zST)} (h1 : ∀ x, Bad 4 x → ∀ y σ, cl x y σ = some (1, σ)) (h2 : ∀ x, Bad 4 x → ∀ y σ, rf x y σ = some (0, sI σ 46 16 1)) (h4 : ∀ k n, k < 4 → ∀ y, Bad n y → ∀ σ, gI σ (2 + 3 * k) 0 = nI n → cl (nI k) y σ = some (1, σ)) (h5 : ∀ k n, k < 4 → ∀ y, Bad n y → ∀ σ, gI σ 47 k = nI n → 1 ≤ n → n ≤ 8 → rf (nI k) y σ = some (0, sI σ 46 16 1)) (h3 : ∀ σ, GJ J σ → ∀ k, k < 4 → ∀ n M C, Gr n M C → At (2 + 3 * k) n M C σ → RAt k n M C σ → ∀ v, v < n → Ok1 (GJ J) (cl (nI k) (nI v)) (rf (nI k) (nI v)) σ) (x y : Int32) : Op (GJ J) (cl x y) (rf x y) := by
  intro σ h
  rcases Bad.or 4 (by omega) x with hx | ⟨k, hk, rfl⟩
  · exact Ok1.bad hJ h (c := 1) (r := 0) (by decide +kernel) (h1 x hx y σ) (h2 x hx y σ)
  · obtain ⟨n, M, C, hG, hA, hR⟩ := h.1 k hk
    have h8 := hG.1.2
    rcases Bad.or n (by omega) y with hy | ⟨v, hv, rfl⟩
    · exact Ok1.bad hJ h (c := 1) (r := 0) (by decide +kernel) (h4 k n hk y hy σ hA.1) (h5 k n hk y hy σ hR.1 hG.1.1 hG.1.2)
    · exact h3 σ h k hk n M C hG hA hR v hv
end

