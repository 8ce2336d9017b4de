/-! MATHEMATICS, 30: restart, its table -/
section
/-- the table at the start -/
def E0 (b : Nat → Nat) (i x : Nat) : Option (Nat → Nat) := if x = b i then some (fun j => j) else none
theorem VE0 {b : Nat → Nat} (hb : IsP b) : VE b (E0 b) := by
  refine ⟨hb, fun i _ => if_pos rfl, fun i x u hi hx e => ?_⟩
  unfold E0 at e
  split at e
  · rename_i z
    have := Option.some.inj e
    subst this
    exact ⟨IsP.id, z, fun _ _ => rfl⟩
  · exact absurd e (by simp)
theorem row_E0 {b : Nat → Nat} (hb : IsP b) {i : Nat} (hi : i < 8) : row (E0 b) i = 1 := by
  unfold row
  refine cnt_one (j := b i) (hb.2.1 i hi) ?_ (fun k _ hne => ?_)
  · unfold E0; rw [if_pos rfl]; rfl
  · unfold E0; rw [if_neg hne]; rfl
theorem prod_E0 {b : Nat → Nat} (hb : IsP b) : ∀ d, d ≤ 8 → prodFrom (E0 b) d = 1
  | 0, _ => rfl
  | d + 1, h => by rw [prodFrom, row_E0 hb (by omega), prod_E0 hb d (by omega)]
theorem restart_eq (F : Nat) (hF : 64 < F) {q a : Nat} (ha : a < 256) (σ : zST) : ∃ τ, m_X1_restart F q (nI a) σ = some τ ∧ CK q (iv (pos a)) (E0 (iv (pos a))) 0 (fun _ j => j) τ ∧ gI τ q 2 = nI 0 ∧ Fr (fun p _ => q ≤ p ∧ p ≤ q + 3) σ τ := by
  have hp := pos_P a
  have hb := hp.iv
  have hid : en (fun j => j) = 1985229328 := by decide +kernel
  unfold m_X1_restart
  rw [nm_eq, nm_eq, fillL F (q + 3) 64 (by omega) hF, bv_some, bitCount_eq F ha, bd_some]
  generalize hs0 : wL (sI (sI σ q 1 0) q 2 0) (q + 3) 64 (fun _ => 0) = s0
  have f0 : Fr (fun p _ => q ≤ p ∧ p ≤ q + 3) σ s0 := by
    subst hs0
    exact ((Fr.sI (by omega)).tr (Fr.sI (by omega))).tr (Fr.wL (by intros; omega))
  have z1 : gI s0 q 1 = 0 ∧ gI s0 q 2 = 0 := by
    subst hs0
    exact ⟨by rw [gI_wL, gI_sI, if_neg (by omega), gI_same], by rw [gI_wL, gI_same]⟩
  have z3 : ∀ t, t < 64 → gL s0 (q + 3) t = lN 0 := by
    intro t ht
    subst hs0
    rw [gL_wL, if_pos ⟨rfl, ht⟩]; rfl
  refine up_inv0 (fun m (i : Int32) (s : Int32 × Int32 × zST) => m_X1_restart_28 F m q (nI a) s.1 s.2.1 i s.2.2) 8
    (fun i s => s.1 = nI (cnt (fun j => a.testBit j) i) ∧ s.2.1 = nI (pop a + (i - cnt (fun j => a.testBit j) i)) ∧ (∀ v, v < i → gI s.2.2 (q + 1) (pos a v) = nI v) ∧ (∀ l x, l < 8 → x < 8 → gL s.2.2 (q + 3) (8 * l + x) = lN (if l = pos a x ∧ x < i then 1985229328 else 0)) ∧ gI s.2.2 q 1 = 0 ∧ gI s.2.2 q 2 = 0 ∧ Fr (fun p _ => q ≤ p ∧ p ≤ q + 3) σ s.2.2)
    (fun o => ∃ τ, o = some τ ∧ CK q (iv (pos a)) (E0 (iv (pos a))) 0 (fun _ j => j) τ ∧ gI τ q 2 = nI 0 ∧ Fr (fun p _ => q ≤ p ∧ p ≤ q + 3) σ τ)
    ?_ ?_ (show 8 < F by omega) (s := (0, nI (pop a), s0)) ?_
  · rintro m i ⟨a2, a3, s⟩ hi ⟨h1, h2, h3, h4, h5, h6, h7⟩
    dsimp only at h1 h2 h3 h4 h5 h6 h7
    subst h1 h2
    have hpi := hp.2.1 i hi
    have hcl := cnt_le (fun j => a.testBit j) i
    have hkeep : (∀ v, v < i + 1 → gI (sL (sI s (q + 1) (pos a i) (nI i)) (q + 3) (8 * pos a i + i) 1985229328) (q + 1) (pos a v) = nI v) ∧ (∀ l x, l < 8 → x < 8 → gL (sL (sI s (q + 1) (pos a i) (nI i)) (q + 3) (8 * pos a i + i) 1985229328) (q + 3) (8 * l + x) = lN (if l = pos a x ∧ x < i + 1 then 1985229328 else 0)) := by
      refine ⟨fun v hv => ?_, fun l x hl hx => ?_⟩
      · rw [gI_sL, gI_sI]
        by_cases e : v = i
        · subst e; rw [if_pos ⟨rfl, rfl⟩]
        · rw [if_neg (fun z => e (hp.2.2 v i (by omega) hi z.2)), h3 v (by omega)]
      · rw [gL_sL, gL_sI]
        by_cases e : x = i ∧ l = pos a i
        · rw [if_pos (by omega), if_pos (by rw [e.1]; exact ⟨e.2, by omega⟩)]; rfl
        · rw [if_neg (by omega), h4 l x hl hx]
          congr 1
          by_cases z : l = pos a x ∧ x < i
          · rw [if_pos z, if_pos ⟨z.1, by omega⟩]
          · rw [if_neg z, if_neg (fun w => by
              by_cases k : x = i
              · subst k; exact e ⟨rfl, w.1⟩
              · exact z ⟨w.1, by omega⟩)]
    have hfr := h7.tr ((Fr.sI (S := fun p _ => q ≤ p ∧ p ≤ q + 3) (p := q + 1) (j := pos a i) (x := nI i) (by omega)).tr (Fr.sL (p := q + 3) (j := 8 * pos a i + i) (x := 1985229328) (by omega)))
    have hq1 : gI (sL (sI s (q + 1) (pos a i) (nI i)) (q + 3) (8 * pos a i + i) 1985229328) q 1 = 0 := by rw [gI_sL, gI_sI, if_neg (by omega), h5]
    have hq2 : gI (sL (sI s (q + 1) (pos a i) (nI i)) (q + 3) (8 * pos a i + i) 1985229328) q 2 = 0 := by rw [gI_sL, gI_sI, if_neg (by omega), h6]
    refine ⟨(nI (cnt (fun j => a.testBit j) (i + 1)), nI (pop a + (i + 1 - cnt (fun j => a.testBit j) (i + 1))), _), ⟨rfl, rfl, hkeep.1, hkeep.2, hq1, hq2, hfr⟩, ?_⟩
    show m_X1_restart_28 F (m + 1) q (nI a) _ _ (nI i) s = m_X1_restart_28 F m q (nI a) _ _ (nI (i + 1)) _
    rw [m_X1_restart_28]; dsimp only
    unfold m_X1_restart_55
    rw [l8, if_neg (nI_ge hi (by omega)), isIn_b F (by omega) (by omega), bd_some, cnt_s]
    cases e : a.testBit i
    · have ep : pos a i = pop a + (i - cnt (fun j => a.testBit j) i) := by unfold pos; rw [if_pos hi, e]; rfl
      rw [if_pos (by decide +kernel), nm_eq, ← ep, stI_at hpi (by omega), pk_mul, nI_add, Nat.mul_comm (pos a i) 8, stL_at (by omega) (by omega), nm_eq, nI_1, nI_1]
      rw [show pos a i + 1 = pop a + (i + 1 - (cnt (fun j => a.testBit j) i + false.toNat)) from by rw [ep]; show _ = pop a + (i + 1 - (cnt (fun j => a.testBit j) i + 0)); omega]
      rfl
    · have ep : pos a i = cnt (fun j => a.testBit j) i := by unfold pos; rw [if_pos hi, e]; rfl
      rw [if_neg (by decide +kernel), nm_eq, ← ep, stI_at hpi (by omega), pk_mul, nI_add, Nat.mul_comm (pos a i) 8, stL_at (by omega) (by omega), nm_eq, nI_1, nI_1]
      rw [show i + 1 - (pos a i + true.toNat) = i - pos a i from by show i + 1 - (pos a i + 1) = _; omega]
      rfl
  · rintro m ⟨a2, a3, s⟩ ⟨h1, h2, h3, h4, h5, h6, h7⟩
    dsimp only at h1 h2 h3 h4 h5 h6 h7
    refine ⟨sI s q 0 1, ?_, ⟨⟨fun i hi => ?_, fun i x hi hx => ?_⟩, VE0 hb, ?_, ?_, ?_, fun a ha => absurd ha (by omega), fun i x u hi hx e hne => ?_, fun a ha => absurd ha (by omega)⟩, ?_, h7.tr (Fr.sI (by omega))⟩
    · show m_X1_restart_28 F (m + 1) q (nI a) a2 a3 (nI 8) s = _
      rw [m_X1_restart_28]; dsimp only
      rw [l8, if_pos (nI_le (by omega) (by omega)), nm_eq]
    · rw [gI_sI, if_neg (by omega)]
      have := h3 (iv (pos a) i) (iv_lt hi)
      rwa [iv_r hp] at this
    · rw [gL_sI, h4 i x hi hx]
      congr 1
      unfold E0
      by_cases e : i = pos a x
      · rw [if_pos ⟨e, hx⟩, if_pos (by rw [e, iv_l hp])]; exact hid.symm
      · rw [if_neg (fun z => e z.1), if_neg (fun z => e (by rw [z, iv_r hp]))]; rfl
    · rw [gI_same, prod_E0 hb 8 (by omega)]; rfl
    · rw [gI_sI, if_neg (by omega), h5]; rfl
    · rw [sumTo_cong (g := fun _ => 1) (fun i hi => row_E0 hb hi)]; rfl
    · unfold E0 at e
      rw [if_neg hne] at e
      exact absurd e (by simp)
    · rw [gI_sI, if_neg (by omega), h6]; rfl
  · refine ⟨rfl, rfl, fun v hv => absurd hv (by omega), fun l x hl hx => ?_, z1.1, z1.2, f0⟩
    show gL s0 (q + 3) (8 * l + x) = _
    rw [z3 _ (by omega), if_neg (by omega)]
end

