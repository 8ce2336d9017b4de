/-! THE LAW ASKS A GROUP -/
section
theorem mvs_256 {L : Nat → Nat → Nat} {x N : Nat} (h : ∀ k, k < N → L k x < 8) : ∀ k, k ≤ N → mvs L x k < 256
  | 0, _ => by rw [mvs]; omega
  | k + 1, hk => by
    rw [mvs]
    have := h k (by omega)
    exact or_lt (mvs_256 h k (by omega)) (Nat.pow_lt_pow_right (by omega) (show L k x < 8 by omega))
theorem isGroup_row (F : Nat) (hF : 8 < F) {w N z at_ set fx : Nat} {f p : Nat → Nat} (hp : IsP p) (hat : at_ < 64) (hset : set < 256) (inn : Int32) (mv : Int32) (σ : zST) (h : gL σ 47 at_ = lN (en p)) (k28 : Nat → Nat → Int32 → Int32 → Int64 → Int32 → Int32 → Int32 → Int32 → Int32 → zST → Option (Int32 × zST)) : m_L_isGroup_85 F w k28 F 0 47 (nI N) (nI z) (lN (en f)) inn mv (nI fx) (nI set) (nI at_) 1 0 σ = k28 0 47 (nI N) (nI z) (lN (en f)) inn mv (nI (fx + (fxT set p 8).toNat)) (nI set) (nI (at_ + 1)) σ := by
  have e0 : (1 : Int32) = bI (fxT set p 0) := rfl
  refine (congrArg (fun b => m_L_isGroup_85 F w k28 F 0 47 (nI N) (nI z) (lN (en f)) inn mv (nI fx) (nI set) (nI at_) b 0 σ) e0).trans (up_loop0 (fun m (j : Int32) (b : Int32) => m_L_isGroup_85 F w k28 m 0 47 (nI N) (nI z) (lN (en f)) inn mv (nI fx) (nI set) (nI at_) b j σ) 8 (fun j => bI (fxT set p j)) _ (fun m j hj => ?_) (fun m => ?_) hF)
  · show m_L_isGroup_85 F w k28 (m + 1) 0 47 (nI N) (nI z) (lN (en f)) inn mv (nI fx) (nI set) (nI at_) (bI (fxT set p j)) (nI j) σ = m_L_isGroup_85 F w k28 m 0 47 (nI N) (nI z) (lN (en f)) inn mv (nI fx) (nI set) (nI at_) (bI (fxT set p (j + 1))) (nI (j + 1)) σ
    have hpj := hp.2.1 j hj
    rw [m_L_isGroup_85]; dsimp only
    unfold m_L_isGroup_127 m_L_isGroup_131 m_L_isGroup_132
    rw [l8, if_neg (nI_ge hj (by omega)), nm_eq, nm_eq, nI_1, fxT]
    cases q : fxT set p j
    · rw [if_pos (bI_no rfl)]; rfl
    · rw [if_neg (by decide +kernel), shr_and1 (by omega) (by omega)]
      cases b : set.testBit j
      · rw [if_pos (bI_no rfl)]; rfl
      · rw [if_neg (by decide +kernel), ldL_at hat (by omega), h, l4, ← l4, dig_L p hp.d16 hj, nI_l (by omega)]
        by_cases e : p j = j
        · rw [if_pos ((cmp_0 (by omega) (by omega)).mpr e), show (p j == j) = true from by simp [e]]; rfl
        · rw [if_neg (fun y => e ((cmp_0 (by omega) (by omega)).mp y)), show (p j == j) = false from by simp [e]]; rfl
  · show m_L_isGroup_85 F w k28 (m + 1) 0 47 (nI N) (nI z) (lN (en f)) inn mv (nI fx) (nI set) (nI at_) (bI (fxT set p 8)) (nI 8) σ = _
    rw [m_L_isGroup_85]; dsimp only
    unfold m_L_isGroup_152
    rw [l8, if_pos (nI_le (Nat.le_refl _) (by omega)), nm_eq, nm_eq, nI_1]
    cases q : fxT set p 8
    · rw [if_pos (bI_no rfl), l0, nI_add]; rfl
    · rw [if_neg (by decide +kernel)]; first | rfl | (rw [nI_1]; rfl)
theorem isGroup_eq (F : Nat) (hF : 64 < F) {w c : Nat} {g : Nat → Nat → Nat} {σ : zST} (h : GS σ c g) {N : Nat} {L : Nat → Nat → Nat} (hl : GLs c g N L) (hN : N ≤ 48) (hL : ∀ k, k < N → gL σ 47 k = lN (en (L k)) ∧ IsP (L k)) {z : Nat} (hz : z < 100000) : ∃ τ, m_L_isGroup F w 0 47 (nI N) (nI z) σ = some (1, τ) ∧ Fr (fun p _ => 42 ≤ p ∧ p ≤ 45) σ τ := by
  obtain ⟨τ, e1, f1⟩ := x_fixing F hF h hl (show z % 256 < 256 from Nat.mod_lt _ (by omega))
  refine ⟨τ, ?_, f1⟩
  have h8 : z % 8 < 8 := Nat.mod_lt _ (by omega)
  have h256 : z % 256 < 256 := Nat.mod_lt _ (by omega)
  have e8 : nI z - nI z / 8 * 8 = nI (z % 8) := by rw [l8, pk_rem (by omega) (by omega) (by omega)]
  have hmv := mvs_256 (L := L) (x := z % 8) (N := N) (fun k hk => (hL k hk).2.2.1 _ h8)
  unfold m_L_isGroup
  rw [show (48 : Int32) = nI 48 from rfl, pk_rem (by omega) (by omega) (by omega), told_eq F (by omega) (by omega), bd_some, show (256 : Int32) = nI 256 from rfl, pk_rem (by omega) (by omega) (by omega), nm_eq]
  generalize hf : td (z % 48) = f
  have hP : IsP f := by rw [← hf]; exact td_P _
  have hlt := en_lt8 hP.2.1
  have e0 : (0 : Int32) = bI (dc (Hd 0 L f)) := by rw [dc_no (fun ⟨x, hx, _⟩ => absurd hx (by omega))]; rfl
  refine (congrArg (fun b => m_L_isGroup_28 F w F 0 47 (nI N) (nI z) (lN (en f)) b 0 0 (nI (z % 256)) 0 σ) e0).trans (up_loop0 (fun m (k : Int32) (st : Int32 × Int32 × Int32) => m_L_isGroup_28 F w m 0 47 (nI N) (nI z) (lN (en f)) st.1 st.2.1 st.2.2 (nI (z % 256)) k σ) N (fun k => (bI (dc (Hd k L f)), nI (mvs L (z % 8) k), nI (cnt (fun n => fxT (z % 256) (L n) 8) k))) _ (fun m k hk => ?_) (fun m => ?_) (show N < F by omega))
  · show m_L_isGroup_28 F w (m + 1) 0 47 (nI N) (nI z) (lN (en f)) (bI (dc (Hd k L f))) (nI (mvs L (z % 8) k)) (nI (cnt (fun n => fxT (z % 256) (L n) 8) k)) (nI (z % 256)) (nI k) σ = m_L_isGroup_28 F w m 0 47 (nI N) (nI z) (lN (en f)) (bI (dc (Hd (k + 1) L f))) (nI (mvs L (z % 8) (k + 1))) (nI (cnt (fun n => fxT (z % 256) (L n) 8) (k + 1))) (nI (z % 256)) (nI (k + 1)) σ
    obtain ⟨hg, hPk⟩ := hL k hk
    have hltk := en_lt8 hPk.2.1
    have hk8 := hPk.2.1 _ h8
    have r54 : ∀ t0 : Int32, m_L_isGroup_54 F w (m_L_isGroup_28 F w m) 0 47 (nI N) (nI z) (lN (en f)) (nI (mvs L (z % 8) k)) (nI (cnt (fun n => fxT (z % 256) (L n) 8) k)) (nI (z % 256)) (nI k) t0 σ = m_L_isGroup_28 F w m 0 47 (nI N) (nI z) (lN (en f)) t0 (nI (mvs L (z % 8) (k + 1))) (nI (cnt (fun n => fxT (z % 256) (L n) 8) (k + 1))) (nI (z % 256)) (nI (k + 1)) σ := fun t0 => by
      unfold m_L_isGroup_54
      rw [ldL_at (show k < 64 by omega) (by omega), hg, e8, dig_L (L k) hPk.d16 h8, L_to32, shl1 (by omega), b_or, nm_eq, isGroup_row F (by omega) hPk (show k < 64 by omega) h256 t0 _ σ hg, cnt_s, mvs]
    rw [m_L_isGroup_28]; dsimp only
    unfold m_L_isGroup_49
    rw [if_neg (nI_ge hk (by omega)), r54, r54]
    by_cases q : Hd k L f
    · rw [dc_yes q, if_neg (by decide +kernel), dc_yes (show Hd (k + 1) L f from by obtain ⟨x, hx, e⟩ := q; exact ⟨x, by omega, e⟩)]; rfl
    · rw [dc_no q, if_pos (bI_no rfl), ldL_at (show k < 64 by omega) (by omega), hg]
      by_cases e : L k = f
      · rw [if_pos ((cmp_0 (by omega) (by omega)).mpr (by rw [e])), dc_yes (show Hd (k + 1) L f from ⟨k, by omega, e⟩)]; rfl
      · rw [if_neg (fun y => e (hPk.en_inj hP ((cmp_0 (by omega) (by omega)).mp y))), dc_no (show ¬ Hd (k + 1) L f from fun ⟨x, hx, ex⟩ => by
          by_cases y : x = k
          · exact e (by rw [← y]; exact ex)
          · exact q ⟨x, by omega, ex⟩)]; rfl
  · show m_L_isGroup_28 F w (m + 1) 0 47 (nI N) (nI z) (lN (en f)) (bI (dc (Hd N L f))) (nI (mvs L (z % 8) N)) (nI (cnt (fun n => fxT (z % 256) (L n) 8) N)) (nI (z % 256)) (nI N) σ = _
    rw [m_L_isGroup_28]; dsimp only
    rw [if_pos (nI_le (Nat.le_refl _) (by omega)), x_order F h hl, bd_some, if_pos rfl, x_isIn F (by omega) h hl hP, br_inr, if_pos rfl, e8, x_moves F (by omega) h hl h8, br_inr, if_pos rfl, e1, br_inr, if_pos rfl]
end
