/-! THE LAW'S GROUPS: told, behind, close -/
section
def tsw (i : Nat) : Nat := if i = 4 then 5 else if i = 5 then 4 else i
theorem tsw_tsw (i : Nat) : tsw (tsw i) = i := by
  unfold tsw
  by_cases h : i = 4
  · subst h; rfl
  · by_cases h2 : i = 5
    · subst h2; rfl
    · rw [if_neg h, if_neg h2, if_neg h, if_neg h2]
theorem tsw_4 {i : Nat} (h : 4 ≤ i) : 4 ≤ tsw i := by
  unfold tsw
  split
  · omega
  · split <;> omega
theorem tsw_8 {i : Nat} (h : i < 8) : tsw i < 8 := by
  unfold tsw
  split
  · omega
  · split <;> omega
def ts (z i : Nat) : Nat := if z % 2 = 0 then i else tsw i
def td (z i : Nat) : Nat := if i < 4 then gim 4 (z / 2 % 24) i else ts z i
theorem ts_4 {z i : Nat} (h : 4 ≤ i) : 4 ≤ ts z i := by
  unfold ts
  split
  · exact h
  · exact tsw_4 h
theorem ts_8 {z i : Nat} (h : i < 8) : ts z i < 8 := by
  unfold ts
  split
  · exact h
  · exact tsw_8 h
theorem ts_inj {z i j : Nat} (h : ts z i = ts z j) : i = j := by
  unfold ts at h
  by_cases e : z % 2 = 0
  · rw [if_pos e, if_pos e] at h; exact h
  · rw [if_neg e, if_neg e] at h
    rw [← tsw_tsw i, h, tsw_tsw]
theorem ts_ts {a b c i : Nat} (h : c % 2 = (a + b) % 2) : ts c i = ts b (ts a i) := by
  unfold ts
  rcases Nat.mod_two_eq_zero_or_one a with ha | ha <;> rcases Nat.mod_two_eq_zero_or_one b with hb | hb
  · rw [if_pos (show c % 2 = 0 by omega), if_pos hb, if_pos ha]
  · rw [if_neg (show ¬ c % 2 = 0 by omega), if_neg (show ¬ b % 2 = 0 by omega), if_pos ha]
  · rw [if_neg (show ¬ c % 2 = 0 by omega), if_pos hb, if_neg (show ¬ a % 2 = 0 by omega)]
  · rw [if_pos (show c % 2 = 0 by omega), if_neg (show ¬ b % 2 = 0 by omega), if_neg (show ¬ a % 2 = 0 by omega), tsw_tsw]
theorem img4 {m i : Nat} (hm : m < 24) (hi : i < 4) : gim 4 m i < 4 := (img_ok 4 (by omega) m hm i hi).2
theorem m24 (z : Nat) : z / 2 % 24 < 24 := Nat.mod_lt _ (by omega)
theorem td_P (z : Nat) : IsP (td z) := by
  refine ⟨fun i hi => ?_, fun i hi => ?_, fun i j hi hj h => ?_⟩
  · unfold td ts tsw
    rw [if_neg (show ¬ i < 4 by omega)]
    split
    · rfl
    · rw [if_neg (show ¬ i = 4 by omega), if_neg (show ¬ i = 5 by omega)]
  · unfold td
    by_cases h : i < 4
    · rw [if_pos h]; have := img4 (m24 z) h; omega
    · rw [if_neg h]; exact ts_8 hi
  · unfold td at h
    by_cases h1 : i < 4
    · rw [if_pos h1] at h
      by_cases h2 : j < 4
      · rw [if_pos h2] at h
        exact img_inj 4 (by omega) _ (m24 z) i h1 j h2 h
      · rw [if_neg h2] at h
        have := img4 (m24 z) h1
        have := ts_4 (z := z) (show 4 ≤ j by omega)
        omega
    · rw [if_neg h1] at h
      by_cases h2 : j < 4
      · rw [if_pos h2] at h
        have := img4 (m24 z) h2
        have := ts_4 (z := z) (show 4 ≤ i by omega)
        omega
      · rw [if_neg h2] at h
        exact ts_inj h
theorem td_mul {a b : Nat} : ∃ c, c < 48 ∧ td c = fun i => td b (td a i) := by
  have h1 := pmn_N (n := 4) (by omega) (show a / 2 % 24 < fac 4 from m24 a)
  have h2 := pmn_N (n := 4) (by omega) (show b / 2 % 24 < fac 4 from m24 b)
  obtain ⟨m, hm, e⟩ := pmn_onto (n := 4) (by omega) (by omega) (h1.comp h2)
  have hm' : m < 24 := hm
  refine ⟨2 * m + (a + b) % 2, by omega, ?_⟩
  funext i
  by_cases h : i < 4
  · have := img4 (m24 a) h
    have e2 := congrFun e i
    rw [pmn_in h] at e2
    have e3 : pmn 4 (a / 2 % 24) i = gim 4 (a / 2 % 24) i := pmn_in h
    rw [e3, pmn_in this] at e2
    unfold td
    rw [if_pos h, if_pos h, if_pos this, show (2 * m + (a + b) % 2) / 2 % 24 = m by omega, e2]
  · have h4 := ts_4 (z := a) (show 4 ≤ i by omega)
    unfold td
    rw [if_neg h, if_neg h, if_neg (show ¬ ts a i < 4 by omega)]
    exact ts_ts (by omega)
theorem td_id : td 0 = fun j => j := by
  funext i
  unfold td ts
  by_cases h : i < 4
  · rw [if_pos h]; exact pmn_0 4 (by omega) i h
  · rw [if_neg h, if_pos rfl]
def tdT (z k i : Nat) : Nat := if i < 4 then (if i < k then gim 4 (z / 2 % 24) i else 0) else ts z i
theorem told_eq (F : Nat) (hF : 9 < F) {z : Nat} (hz : z < 2 ^ 20) (σ : zST) : m_L_told F (nI z) σ = some (lN (en (td z)), σ) := by
  have h16 : ∀ k, ∀ i, i < 8 → tdT z k i < 16 := fun k i hi => by
    unfold tdT
    have := ts_8 (z := z) hi
    by_cases h : i < 4
    · rw [if_pos h]
      have := img4 (m24 z) h
      split <;> omega
    · rw [if_neg h]; omega
  have hm := m24 z
  have loop : m_L_told_18 F F (nI z) (lN (en (tdT z 0))) 0 σ = some (lN (en (td z)), σ) := by
    refine up_loop0 (fun m (k : Int32) (a : Int64) => m_L_told_18 F m (nI z) a k σ) 4 (fun k => lN (en (tdT z k))) _ (fun m k hk => ?_) (fun m => ?_) (show 4 < F by omega)
    · show m_L_told_18 F (m + 1) (nI z) (lN (en (tdT z k))) (nI k) σ = m_L_told_18 F m (nI z) (lN (en (tdT z (k + 1)))) (nI (k + 1)) σ
      have hi := img4 hm hk
      have himg := image_eq F (by omega) (n := 4) (num := z / 2 % 24) (pt := k) (by omega) hm hk σ
      rw [m_L_told_18]; dsimp only
      rw [l4, if_neg (nI_ge hk (by omega)), l2, pk_div (a := z) (d := 2) (by omega) (by omega) (by omega), show (24 : Int32) = nI 24 from rfl, pk_rem (by omega) (by omega) (by omega), himg, bd_some, nI_l (by omega), pk_mul, L_shl _ (by omega), L_or, en_set (h16 k) (show k < 8 by omega) (show gim 4 (z / 2 % 24) k < 16 by omega) (by unfold tdT; rw [if_pos hk, if_neg (by omega)]), nm_eq, nm_eq, nI_1]
      have e : en (fun i => if i = k then gim 4 (z / 2 % 24) k else tdT z k i) = en (tdT z (k + 1)) := en_cong (fun i hi => by
        unfold tdT
        by_cases q : i = k
        · rw [if_pos q, if_pos (by omega), if_pos (by omega), q]
        · rw [if_neg q]
          by_cases p : i < 4
          · rw [if_pos p, if_pos p]
            by_cases r : i < k
            · rw [if_pos r, if_pos (by omega)]
            · rw [if_neg r, if_neg (by omega)]
          · rw [if_neg p, if_neg p])
      rw [e]
    · show m_L_told_18 F (m + 1) (nI z) (lN (en (tdT z 4))) (nI 4) σ = _
      rw [m_L_told_18]; dsimp only
      have e : en (tdT z 4) = en (td z) := en_cong (fun i hi => by
        unfold tdT td
        by_cases p : i < 4
        · rw [if_pos p, if_pos p, if_pos p]
        · rw [if_neg p, if_neg p])
      rw [l4, if_pos (nI_le (Nat.le_refl _) (by omega)), e]
  unfold m_L_told m_L_told_15
  rw [l2, pk_rem (by omega) (by omega) (by omega)]
  have hbase : en (tdT z 0) = if z % 2 = 0 then 1985216512 else 1984233472 := by
    by_cases h : z % 2 = 0
    · rw [if_pos h]
      have : en (tdT z 0) = en (fun i => if i < 4 then 0 else i) := en_cong (fun i hi => by
        unfold tdT ts
        by_cases p : i < 4
        · rw [if_pos p, if_pos p, if_neg (by omega)]
        · rw [if_neg p, if_neg p, if_pos h])
      rw [this]
      decide +kernel
    · rw [if_neg h]
      have : en (tdT z 0) = en (fun i => if i < 4 then 0 else if i = 4 then 5 else if i = 5 then 4 else i) := en_cong (fun i hi => by
        unfold tdT ts tsw
        by_cases p : i < 4
        · rw [if_pos p, if_pos p, if_neg (by omega)]
        · rw [if_neg p, if_neg p, if_neg h])
      rw [this]
      decide +kernel
  by_cases h : z % 2 = 0
  · rw [if_pos (by rw [h]; rfl), ← loop, hbase, if_pos h]
    rfl
  · rw [if_neg (nI_ne0 (by omega) (by omega)), ← loop, hbase, if_neg h]
    rfl
theorem behind_eq (F : Nat) (hF : 9 < F) {p q : Nat → Nat} (hp : IsP p) (hq : IsP q) (σ : zST) : m_L_behind F (lN (en p)) (lN (en q)) σ = some (lN (en (fun i => q (p i))), σ) := by
  have h0 : (0 : Int64) = lN (en (fun i => if i < 0 then q (p i) else 0)) := by
    have : en (fun i => if i < 0 then q (p i) else 0) = en (fun _ => 0) := en_cong (fun i _ => if_neg (by omega))
    rw [this, en_0]
    rfl
  have h16 : ∀ k, ∀ i, i < 8 → (fun i => if i < k then q (p i) else 0) i < 16 := fun k i hi => by
    show (if i < k then q (p i) else 0) < 16
    have := hq.2.1 _ (hp.2.1 i hi)
    split <;> omega
  unfold m_L_behind
  rw [h0]
  refine up_loop0 (fun m (k : Int32) (a : Int64) => m_L_behind_6 F m (lN (en p)) (lN (en q)) a k σ) 8 (fun k => lN (en (fun i => if i < k then q (p i) else 0))) _ (fun m k hk => ?_) (fun m => ?_) (show 8 < F by omega)
  · show m_L_behind_6 F (m + 1) (lN (en p)) (lN (en q)) (lN (en (fun i => if i < k then q (p i) else 0))) (nI k) σ = m_L_behind_6 F m (lN (en p)) (lN (en q)) (lN (en (fun i => if i < k + 1 then q (p i) else 0))) (nI (k + 1)) σ
    have hpk := hp.2.1 k hk
    have hqk := hq.2.1 _ hpk
    rw [m_L_behind_6]; dsimp only
    rw [l8, if_neg (nI_ge hk (by omega)), dig_L p hp.d16 hk, L_to32, dig_L q hq.d16 hpk, l4, pk_mul, L_shl _ (by omega), L_or, en_set (h16 k) hk (show q (p k) < 16 by omega) (if_neg (by omega)), nm_eq, nm_eq, nI_1]
    have e : en (fun i => if i = k then q (p k) else (fun i => if i < k then q (p i) else 0) i) = en (fun i => if i < k + 1 then q (p i) else 0) := en_cong (fun i hi => by
      show (if i = k then q (p k) else if i < k then q (p i) else 0) = (if i < k + 1 then q (p i) else 0)
      by_cases h : i = k
      · rw [if_pos h, if_pos (by omega), h]
      · rw [if_neg h]
        by_cases h2 : i < k
        · rw [if_pos h2, if_pos (by omega)]
        · rw [if_neg h2, if_neg (by omega)])
    rw [e]
  · show m_L_behind_6 F (m + 1) (lN (en p)) (lN (en q)) (lN (en (fun i => if i < 8 then q (p i) else 0))) (nI 8) σ = _
    rw [m_L_behind_6]; dsimp only
    have e : en (fun i => if i < 8 then q (p i) else 0) = en (fun i => q (p i)) := en_cong (fun i hi => if_pos hi)
    rw [l8, if_pos (nI_le (Nat.le_refl _) (by omega)), e]
-- the list that close makes
def upL (L : Nat → Nat → Nat) (N : Nat) (f : Nat → Nat) (k : Nat) : Nat → Nat := if k = N then f else L k
def CI (c : Nat) (g : Nat → Nat → Nat) (σ : zST) (N : Nat) (L : Nat → Nat → Nat) (s : zST) : Prop := 1 ≤ N ∧ L 0 = (fun j => j) ∧ (∀ k, k < N → (∃ z, z < 48 ∧ L k = td z) ∧ gL s 47 k = lN (en (L k)) ∧ Gp c g (L k)) ∧ (∀ i j, i < N → j < N → L i = L j → i = j) ∧ Fr (fun q _ => q = 47) σ s
theorem CI.le {c : Nat} {g : Nat → Nat → Nat} {σ : zST} {N : Nat} {L : Nat → Nat → Nat} {s : zST} (h : CI c g σ N L s) : N ≤ 48 := by
  obtain ⟨h1, h2, h3, h4, h5⟩ := h
  have hz : ∃ f : Nat → Nat, ∀ k, k < N → f k < 48 ∧ L k = td (f k) := by
    refine ⟨fun k => if q : k < N then Classical.choose (h3 k q).1 else 0, fun k hk => ?_⟩
    have e : (fun k => if q : k < N then Classical.choose (h3 k q).1 else 0) k = Classical.choose (h3 k hk).1 := dif_pos hk
    rw [e]
    exact Classical.choose_spec (h3 k hk).1
  obtain ⟨f, hf⟩ := hz
  exact pig 48 N f (fun i hi => (hf i hi).1) (fun i j hi hj e => h4 i j hi hj (by rw [(hf i hi).2, (hf j hj).2, e]))
theorem CI.isP {c : Nat} {g : Nat → Nat → Nat} {σ : zST} {N : Nat} {L : Nat → Nat → Nat} {s : zST} (h : CI c g σ N L s) {k : Nat} (hk : k < N) : IsP (L k) := by
  obtain ⟨z, _, e⟩ := (h.2.2.1 k hk).1
  rw [e]
  exact td_P z
theorem c47 (F : Nat) (hF : 60 < F) {c : Nat} {g : Nat → Nat → Nat} {σ : zST} {N : Nat} {L : Nat → Nat → Nat} {s : zST} (h : CI c g σ N L s) (k10 : Nat → Nat → Int32 → Int32 → zST → Option (Int32 × zST)) (k18 : Nat → Nat → Int32 → Int32 → Int32 → zST → Option (Int32 × zST)) (a3 : Int32) (k : Nat) {f : Nat → Nat} (hf : ∃ z, z < 48 ∧ f = td z) (hfG : Gp c g f) : ∃ N' L' s', m_L_close_47 F k10 k18 F 47 48 (nI N) a3 (nI k) (lN (en f)) 1 0 s = k18 47 48 (nI N') a3 (nI (k + 1)) s' ∧ CI c g σ N' L' s' ∧ N ≤ N' ∧ (∀ x, x < N → L' x = L x) ∧ Hd N' L' f := by
  have hN := h.le
  have hP : IsP f := by obtain ⟨z, _, e⟩ := hf; rw [e]; exact td_P z
  have hlt := en_lt8 hP.2.1
  obtain ⟨h1, h2, h3, h4, h5⟩ := h
  have run : m_L_close_47 F k10 k18 F 47 48 (nI N) a3 (nI k) (lN (en f)) 1 0 s = (if dc (∀ x, x < N → L x ≠ f) = true then m_L_close_93 F k10 k18 47 48 (nI N) a3 (nI k) (lN (en f)) 1 (nI N) 47 s else m_L_close_93 F k10 k18 47 48 (nI N) a3 (nI k) (lN (en f)) 0 63 47 s) := by
    have e0 : (1 : Int32) = bI (dc (∀ x, x < 0 → L x ≠ f)) := by rw [dc_yes (fun x hx => absurd hx (by omega))]; rfl
    refine (congrArg (fun b => m_L_close_47 F k10 k18 F 47 48 (nI N) a3 (nI k) (lN (en f)) b 0 s) e0).trans (up_loop0 (fun m (j : Int32) (b : Int32) => m_L_close_47 F k10 k18 m 47 48 (nI N) a3 (nI k) (lN (en f)) b j s) N (fun j => bI (dc (∀ x, x < j → L x ≠ f))) _ (fun m j hj => ?_) (fun m => ?_) (show N < F by omega))
    · show m_L_close_47 F k10 k18 (m + 1) 47 48 (nI N) a3 (nI k) (lN (en f)) (bI (dc (∀ x, x < j → L x ≠ f))) (nI j) s = m_L_close_47 F k10 k18 m 47 48 (nI N) a3 (nI k) (lN (en f)) (bI (dc (∀ x, x < j + 1 → L x ≠ f))) (nI (j + 1)) s
      have hPj : IsP (L j) := by obtain ⟨z, _, e⟩ := (h3 j hj).1; rw [e]; exact td_P z
      have hltj := en_lt8 hPj.2.1
      rw [m_L_close_47]; dsimp only
      unfold m_L_close_72 m_L_close_73
      rw [if_neg (nI_ge hj (by omega))]
      by_cases q : ∀ x, x < j → L x ≠ f
      · rw [dc_yes q, if_neg (by decide +kernel), ldL_at (by omega) (by omega), (h3 j hj).2.1]
        by_cases e : L j = f
        · rw [if_pos ((cmp_0 (by omega) (by omega)).mpr (by rw [e])), nm_eq, nI_1, dc_no (fun z => z j (by omega) e)]; rfl
        · rw [if_neg (fun z => e (hPj.en_inj hP ((cmp_0 (by omega) (by omega)).mp z))), nm_eq, nI_1, dc_yes (fun x hx => by
            by_cases y : x = j
            · rw [y]; exact e
            · exact q x (by omega))]; rfl
      · rw [dc_no q, if_pos (by decide +kernel), nm_eq, nI_1, dc_no (fun z => q (fun x hx => z x (by omega)))]; rfl
    · show m_L_close_47 F k10 k18 (m + 1) 47 48 (nI N) a3 (nI k) (lN (en f)) (bI (dc (∀ x, x < N → L x ≠ f))) (nI N) s = _
      rw [m_L_close_47]; dsimp only
      rw [if_pos (nI_le (Nat.le_refl _) (by omega))]
      cases q : dc (∀ x, x < N → L x ≠ f)
      · rw [if_pos (by decide +kernel), if_neg (by decide)]; rfl
      · rw [if_neg (by decide +kernel), if_pos rfl]; rfl
  rw [run]
  unfold m_L_close_93 m_L_close_107
  by_cases q : ∀ x, x < N → L x ≠ f
  · rw [dc_yes q, if_pos rfl, stL_at (by omega) (by omega), if_neg n10, nm_eq, nm_eq, nI_1, nI_1]
    have hL : ∀ x, x < N → upL L N f x = L x := fun x hx => if_neg (by omega)
    have hLN : upL L N f N = f := if_pos rfl
    refine ⟨N + 1, upL L N f, _, rfl, ⟨by omega, by rw [hL 0 (by omega), h2], fun x hx => ?_, fun i j hi hj e => ?_, h5.tr (Fr.sL rfl)⟩, by omega, hL, N, by omega, hLN⟩
    · by_cases y : x = N
      · rw [y, hLN]
        exact ⟨hf, gL_same _ _ _ _, hfG⟩
      · rw [hL x (by omega), gL_sL, if_neg (fun z => y z.2)]
        exact h3 x (by omega)
    · by_cases yi : i = N <;> by_cases yj : j = N
      · omega
      · rw [yi, hLN, hL j (by omega)] at e
        exact absurd e.symm (q j (by omega))
      · rw [yj, hLN, hL i (by omega)] at e
        exact absurd e (q i (by omega))
      · rw [hL i (by omega), hL j (by omega)] at e
        exact h4 i j (by omega) (by omega) e
  · rw [dc_no q, if_neg (by decide), show (63 : Int32) = nI 63 from rfl, stL_at (by omega) (by omega), if_pos rfl, nm_eq, nm_eq, nI_1, l0, nI_add]
    have hHd : Hd N L f := by
      apply Classical.byContradiction
      intro z
      exact q (fun x hx e => z ⟨x, hx, e⟩)
    refine ⟨N, L, _, rfl, ⟨h1, h2, fun x hx => ?_, h4, h5.tr (Fr.sL rfl)⟩, Nat.le_refl _, fun _ _ => rfl, hHd⟩
    rw [gL_sL, if_neg (by omega)]
    exact h3 x hx
theorem close_eq (F : Nat) (hF : 100 < F) {c : Nat} (hc : c ≤ 6) {zi : Nat → Nat} (hz : ∀ i, i < c → zi i < 48) {σ : zST} (h0 : gI σ 48 0 = nI c) (hgen : ∀ i, i < c → gI σ 48 (i + 1) = nI (zi i)) : ∃ N L τ, m_L_close F 47 48 σ = some (nI N, τ) ∧ N ≤ 48 ∧ GLs c (fun i => td (zi i)) N L ∧ (∀ k, k < N → gL τ 47 k = lN (en (L k)) ∧ IsP (L k)) ∧ Fr (fun q _ => q = 47) σ τ := by
  generalize hg : (fun i => td (zi i)) = g
  have hgi : ∀ i, g i = td (zi i) := fun i => by rw [← hg]
  -- one row
  have row : ∀ (m N at_ : Nat) (L : Nat → Nat → Nat) (s : zST), CI c g σ N L s → at_ < N → ∃ N' L' s', m_L_close_18 F (m_L_close_10 F m) F 47 48 (nI N) (nI at_) 1 s = m_L_close_10 F m 47 48 (nI N') (nI (at_ + 1)) s' ∧ CI c g σ N' L' s' ∧ N ≤ N' ∧ (∀ x, x < N → L' x = L x) ∧ ∀ i, i < c → Hd N' L' (fun j => g i (L at_ j)) := fun m N at_ L s hCI hat => by
    refine up_inv (fun q (k : Int32) (st : Int32 × zST) => m_L_close_18 F (m_L_close_10 F m) q 47 48 st.1 (nI at_) k st.2) (c + 1) (fun k st => 1 ≤ k ∧ ∃ N' L', st.1 = nI N' ∧ CI c g σ N' L' st.2 ∧ N ≤ N' ∧ (∀ x, x < N → L' x = L x) ∧ ∀ i, i + 1 < k → Hd N' L' (fun j => g i (L at_ j))) (fun o => ∃ N' L' s', o = m_L_close_10 F m 47 48 (nI N') (nI (at_ + 1)) s' ∧ CI c g σ N' L' s' ∧ N ≤ N' ∧ (∀ x, x < N → L' x = L x) ∧ ∀ i, i < c → Hd N' L' (fun j => g i (L at_ j))) (fun q k st hk hI => ?_) (fun q st hI => ?_) c 1 F (nI N, s) (by omega) (by omega) ⟨by omega, N, L, rfl, hCI, Nat.le_refl _, fun _ _ => rfl, fun i hi => absurd hi (by omega)⟩
    · obtain ⟨a, s1⟩ := st
      obtain ⟨hk1, N1, L1, i0, i1, i2, i3, i4⟩ := hI
      dsimp only at i0 i1
      subst i0
      show ∃ st', _ ∧ m_L_close_18 F (m_L_close_10 F m) (q + 1) 47 48 (nI N1) (nI at_) (nI k) s1 = _
      have hN1 := i1.le
      have hfr := i1.2.2.2.2
      have hc0 : gI s1 48 0 = nI c := by rw [(hfr 48 0 (by omega)).1, h0]
      rw [m_L_close_18]; dsimp only
      obtain ⟨k', rfl⟩ : ∃ k', k = k' + 1 := ⟨k - 1, by omega⟩
      · have hck : gI s1 48 (k' + 1) = nI (zi k') := by rw [(hfr 48 _ (by omega)).1, hgen k' (by omega)]
        have hzk := hz k' (by omega)
        have hLa : L1 at_ = L at_ := i3 at_ hat
        rw [show (0 : Int32) = nI 0 from rfl, ldI_at (by omega) (by omega), hc0, if_neg (nI_nlt (by omega) (by omega)), ldL_at (by omega) (by omega), ldI_at (by omega) (by omega), hck, told_eq F (by omega) (by omega), bd_some, (i1.2.2.1 at_ (by omega)).2.1, behind_eq F (by omega) (i1.isP (by omega)) (td_P _), bd_some]
        obtain ⟨z1, _, ez⟩ := (i1.2.2.1 at_ (by omega)).1
        obtain ⟨N2, L2, s2, e2, j1, j2, j3, j4⟩ := c47 F (by omega) i1 (m_L_close_10 F m) (m_L_close_18 F (m_L_close_10 F m) q) (nI at_) (k' + 1) (f := fun i => td (zi k') (L1 at_ i)) (by rw [ez]; obtain ⟨z2, h1, h2⟩ := td_mul (a := z1) (b := zi k'); exact ⟨z2, h1, h2.symm⟩) (by
          have := (i1.2.2.1 at_ (by omega)).2.2.step (i := k') (by omega)
          rw [hgi] at this
          exact this)
        refine ⟨(nI N2, s2), ⟨by omega, N2, L2, rfl, j1, by omega, fun x hx => by rw [j3 x (by omega), i3 x hx], fun i hi => ?_⟩, e2⟩
        by_cases e : i = k'
        · rw [e, hgi, ← hLa]; exact j4
        · obtain ⟨x, hx, ex⟩ := i4 i (by omega)
          exact ⟨x, by omega, by rw [j3 x hx, ex]⟩
    · obtain ⟨a, s1⟩ := st
      obtain ⟨hk1, N1, L1, i0, i1, i2, i3, i4⟩ := hI
      dsimp only at i0 i1
      subst i0
      have hfr := i1.2.2.2.2
      have hc0 : gI s1 48 0 = nI c := by rw [(hfr 48 0 (by omega)).1, h0]
      refine ⟨N1, L1, s1, ?_, i1, i2, i3, fun i hi => i4 i (by omega)⟩
      show m_L_close_18 F (m_L_close_10 F m) (q + 1) 47 48 (nI N1) (nI at_) (nI (c + 1)) s1 = _
      rw [m_L_close_18]; dsimp only
      rw [show (0 : Int32) = nI 0 from rfl, ldI_at (by omega) (by omega), hc0, if_pos (nI_lt (by omega) (by omega)), nm_eq, nI_1]
  have go : ∀ (d at_ m N : Nat) (L : Nat → Nat → Nat) (s : zST), at_ + d = 49 → d < m → CI c g σ N L s → at_ ≤ N → (∀ a, a < at_ → ∀ i, i < c → Hd N L (fun j => g i (L a j))) → ∃ N' L' τ, m_L_close_10 F m 47 48 (nI N) (nI at_) s = some (nI N', τ) ∧ CI c g σ N' L' τ ∧ ∀ a, a < N' → ∀ i, i < c → Hd N' L' (fun j => g i (L' a j)) := by
    intro d
    induction d with
    | zero =>
      intro at_ m N L s had hm hCI hle hdone
      have := hCI.le
      omega
    | succ d ih =>
      intro at_ m N L s had hm hCI hle hdone
      have hN := hCI.le
      obtain ⟨m', rfl⟩ : ∃ m', m = m' + 1 := ⟨m - 1, by omega⟩
      rw [m_L_close_10]; dsimp only
      by_cases q : at_ = N
      · subst q
        rw [if_pos (nI_le (Nat.le_refl _) (by omega))]
        exact ⟨at_, L, s, rfl, hCI, hdone⟩
      · rw [if_neg (nI_ge (show at_ < N by omega) (by omega))]
        obtain ⟨N', L', s', e1, j1, j2, j3, j4⟩ := row m' N at_ L s hCI (by omega)
        rw [e1]
        refine ih (at_ + 1) m' N' L' s' (by omega) (by omega) j1 (by omega) (fun a ha i hi => ?_)
        by_cases e : a = at_
        · rw [e, j3 at_ (by omega)]; exact j4 i hi
        · obtain ⟨x, hx, ex⟩ := hdone a (by omega) i hi
          exact ⟨x, by omega, by rw [j3 x hx, ex, j3 a (by omega)]⟩
  have hid : en (fun j => j) = 1985229328 := by decide +kernel
  have hCI0 : CI c g σ 1 (fun _ j => j) (sL σ 47 0 1985229328) := by
    refine ⟨by omega, rfl, fun k hk => ?_, fun i j hi hj _ => by omega, Fr.sL rfl⟩
    obtain rfl : k = 0 := by omega
    exact ⟨⟨0, by omega, td_id.symm⟩, by rw [gL_same, hid]; rfl, Gp.id c g⟩
  obtain ⟨N, L, τ, e1, hCI, hdone⟩ := go 49 0 F 1 (fun _ j => j) (sL σ 47 0 1985229328) (by omega) (by omega) hCI0 (by omega) (fun a ha => absurd ha (by omega))
  refine ⟨N, L, τ, ?_, hCI.le, ⟨by have := hCI.le; omega, hCI.2.2.2.1, fun f => ⟨fun hf => ?_, fun hf => ?_⟩⟩, fun k hk => ⟨(hCI.2.2.1 k hk).2.1, hCI.isP hk⟩, hCI.2.2.2.2⟩
  · unfold m_L_close
    rw [show (0 : Int32) = nI 0 from rfl, stL_at (by omega) (by omega)]
    exact e1
  · refine Gp.least (S := Hd N L) ⟨0, hCI.1, hCI.2.1⟩ (fun i hi f hf => ?_) hf
    obtain ⟨x, hx, ex⟩ := hf
    rw [← ex]
    exact hdone x hx i hi
  · obtain ⟨x, hx, ex⟩ := hf
    rw [← ex]
    exact (hCI.2.2.1 x hx).2.2
end
