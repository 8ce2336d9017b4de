/-! MATHEMATICS, 27: first moved level, counting from a level -/
section
theorem firstMoved_eq (F : Nat) (hF : 8 < F) {q : Nat} {b : Nat → Nat} {E : Nat → Nat → Option (Nat → Nat)} {σ : zST} (hC : Ch q b E σ) (hb : IsP b) {f : Nat → Nat} (hf : IsP f) {l : Nat} (hl : l < 8) (h0 : ∀ j, j < l → f (b j) = b j) (h1 : f (b l) ≠ b l) : m_X1_firstMoved F q (lN (en f)) σ = some (nI l, σ) := by
  unfold m_X1_firstMoved
  have step : ∀ m i, i < 8 → m_X1_firstMoved_2 F (m + 1) q (lN (en f)) (nI i) σ = (if f (b i) = b i then m_X1_firstMoved_2 F m q (lN (en f)) (nI (i + 1)) σ else some (nI i, σ)) := by
    intro m i hi
    have hbi := hb.2.1 i hi
    have hx := hf.2.1 _ hbi
    rw [m_X1_firstMoved_2]; dsimp only
    rw [l8, if_neg (nI_ge hi (by omega)), ldI_at hi (by omega), hC.1 i hi, imageOf_eq F hf.2.1 hbi, bd_some, ldI_at hi (by omega), hC.1 i hi]
    by_cases e : f (b i) = b i
    · rw [if_pos (by rw [e]), nm_eq, nI_1, if_pos e]
    · rw [if_neg (fun z => e ((nI_eq (by omega) (by omega)).mp z)), if_neg e]
  exact find_yes (fun m i => m_X1_firstMoved_2 F m q (lN (en f)) i σ) 8 (fun i => f (b i) ≠ b i) (fun i => some (nI i, σ)) (fun m i hi hp => by
      show m_X1_firstMoved_2 F (m + 1) q (lN (en f)) (nI i) σ = _
      rw [step m i hi, if_pos (Classical.not_not.mp hp)]) (fun m i hi hp => by
      show m_X1_firstMoved_2 F (m + 1) q (lN (en f)) (nI i) σ = _
      rw [step m i hi, if_neg hp]) hl h1 (fun i hi z => z (h0 i hi)) hF
theorem countFrom_eq (F : Nat) (hF : 8 < F) {q : Nat} {b : Nat → Nat} {E : Nat → Nat → Option (Nat → Nat)} {σ : zST} (hC : Ch q b E σ) (hV : VE b E) {i d : Nat} (hid : i + d = 8) : m_X1_countFrom F q (nI i) σ = some (nI (prodFrom E d), σ) := by
  have inner : ∀ (k4 : Nat → Int32 → Int32 → zST → Option (Int32 × zST)) (acc i : Nat), i < 8 → m_X1_countFrom_16 F k4 F q (nI acc) (nI i) 0 0 σ = k4 q (nI (acc * row E i)) (nI (i + 1)) σ := by
    intro k4 acc i hi
    exact up_loop0 (fun m (x : Int32) (s : Int32) => m_X1_countFrom_16 F k4 m q (nI acc) (nI i) s x σ) 8 (fun x => nI (cnt (fun x => (E i x).isSome) x)) _
      (fun m x hx => by
        have hc := cel_0 hV hi hx
        show m_X1_countFrom_16 F k4 (m + 1) q (nI acc) (nI i) _ (nI x) σ = _
        rw [m_X1_countFrom_16]; dsimp only
        unfold m_X1_countFrom_43
        rw [l8, if_neg (nI_ge hx (by omega)), pk_mul, nI_add, Nat.mul_comm i 8, ldL_at (by omega) (by omega), hC.2 i x hi hx, cnt_s]
        cases e : E i x with
        | none =>
          rw [e] at hc
          rw [if_pos (hc.mpr rfl), nm_eq, nI_1]; rfl
        | some u =>
          rw [e] at hc
          rw [if_neg (fun z => by have := hc.mp z; simp at this), nm_eq, nm_eq, nI_1, nI_1]; rfl)
      (fun m => by
        show m_X1_countFrom_16 F k4 (m + 1) q (nI acc) (nI i) (nI (row E i)) (nI 8) σ = _
        rw [m_X1_countFrom_16]; dsimp only
        rw [l8, if_pos (nI_le (by omega) (by omega)), nm_eq, nm_eq, pk_mul, nI_1]) hF
  have h : ∀ d i m acc, i + d = 8 → d < m → m_X1_countFrom_4 F m q (nI acc) (nI i) σ = some (nI (acc * prodFrom E d), σ) := by
    intro d
    induction d with
    | zero =>
      intro i m acc hi hm
      obtain ⟨m, rfl⟩ : ∃ k, m = k + 1 := ⟨m - 1, by omega⟩
      have : i = 8 := by omega
      subst this
      rw [m_X1_countFrom_4]; dsimp only
      rw [l8, if_pos (nI_le (by omega) (by omega)), prodFrom, Nat.mul_one]
    | succ d ih =>
      intro i m acc hi hm
      obtain ⟨m, rfl⟩ : ∃ k, m = k + 1 := ⟨m - 1, by omega⟩
      have hi8 : i < 8 := by omega
      rw [m_X1_countFrom_4]; dsimp only
      rw [l8, if_neg (nI_ge hi8 (by omega)), inner _ acc i hi8, ih (i + 1) m (acc * row E i) (by omega) (by omega), prodFrom, show 7 - d = i from by omega, Nat.mul_assoc]
  unfold m_X1_countFrom
  have := h d i F 1 hid (by omega)
  rw [Nat.one_mul] at this
  exact this
end

