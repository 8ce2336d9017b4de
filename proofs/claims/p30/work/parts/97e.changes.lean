/-! THE CLASS'S ANSWERS, by themselves: calls that change a graph; the code goes along -/
section
def SP (k q _j : Nat) : Prop := 2 + 3 * k ≤ q ∧ q ≤ 4 + 3 * k
theorem x_begin (F : Nat) (hF : 8 < F) {k n m : Nat} (hk : k < 4) (h1 : 1 ≤ m) (h8 : m ≤ 8) {M C : Nat → Nat} {σ : zST} (hA : At (2 + 3 * k) n M C σ) : ∃ τ, m_X7_begin F 0 (nI k) (nI m) σ = some (.inr (nI n), τ) ∧ At (2 + 3 * k) m (fun _ => 0) (fun _ => 0) τ ∧ Fr (SP k) σ τ := by
  refine ⟨wI (wI (sI σ (2 + 3 * k) 0 (nI m)) (2 + 3 * k + 1) 8 (fun _ => 0)) (2 + 3 * k + 2) 8 (fun _ => 0), ?_, ?_, ?_⟩
  · unfold m_X7_begin
    rw [graphAt_ok F hk, bx_inr, l1, if_neg (nI_nlt h1 (by omega)), l8, if_pos (nI_le h8 (by omega)), nm_eq, clear_eq F _ hF, bv_some, hA.1]
  · refine ⟨?_, fun v hv => ⟨?_, ?_⟩⟩
    · rw [gI_wI, if_neg (by omega), gI_wI, if_neg (by omega), gI_same]
    · rw [gI_wI, if_neg (by omega), gI_wI, if_pos ⟨rfl, hv⟩]; rfl
    · rw [gI_wI, if_pos ⟨rfl, hv⟩]; rfl
  · exact ((Fr.sI (by unfold SP; omega)).tr (Fr.wI (fun j _ => by unfold SP; omega))).tr (Fr.wI (fun j _ => by unfold SP; omega))
theorem x_setColour (F : Nat) {k n v c : Nat} (hk : k < 4) (hc : c < 8) {M C : Nat → Nat} {σ : zST} (hG : Gr n M C) (hA : At (2 + 3 * k) n M C σ) (hv : v < n) : ∃ τ, m_X7_setColour F 0 (nI k) (nI v) (nI c) σ = some (.inr (nI (C v)), τ) ∧ Gr n M (upN C v c) ∧ At (2 + 3 * k) n M (upN C v c) τ ∧ Fr (SP k) σ τ := by
  have h8 := hG.1.2
  refine ⟨sI σ (2 + 3 * k + 2) v (nI c), ?_, ?_, ?_, Fr.sI (by unfold SP; omega)⟩
  · unfold m_X7_setColour
    rw [graphAt_ok F hk, bx_inr, checkV_ok F hv (by omega) hA.1, bx_inr, if_neg (nI_pos (by omega)), l8, if_pos (nI_lt hc (by omega)), ldI_at (by omega) (by omega), stI_at (by omega) (by omega), (hA.2 v (by omega)).2]
  · refine ⟨hG.1, fun u hu => ?_⟩
    obtain ⟨a, b⟩ := hG.2 u hu
    exact ⟨upN_8 (fun i hi => (hG.2 i hi).1) hc u hu, b⟩
  · refine ⟨by rw [gI_sI, if_neg (by omega), hA.1], fun u hu => ⟨?_, ?_⟩⟩
    · rw [gI_sI, if_neg (by omega), (hA.2 u hu).1]
    · unfold upN
      rw [gI_sI]
      by_cases e : u = v
      · rw [if_pos ⟨rfl, e⟩, if_pos e]
      · rw [if_neg (fun z => e z.2), if_neg e, (hA.2 u hu).2]
theorem x_swap (F : Nat) (hF : 8 < F) {k n a b : Nat} (hk : k < 4) {M C : Nat → Nat} {σ : zST} (hG : Gr n M C) (hA : At (2 + 3 * k) n M C σ) (ha : a < n) (hb : b < n) : ∃ τ, m_X7_swap F 0 (nI k) (nI a) (nI b) σ = some (.inr (), τ) ∧ At (2 + 3 * k) n (swM M a b) (swC C a b) τ ∧ Fr (SP k) σ τ := by
  have h8 := hG.1.2
  obtain ⟨τ, e1, e2, e3⟩ := swap_cl F hF (p := 2 + 3 * k) hG hA ha hb
  refine ⟨τ, ?_, e2, e3.mono (fun q j z => by unfold SP; omega)⟩
  unfold m_X7_swap
  rw [graphAt_ok F hk, bx_inr, checkV_ok F ha (by omega) hA.1, bx_inr, checkV_ok F hb (by omega) hA.1, bx_inr, e1, bv_some]
theorem x_copy (F : Nat) (hF : 8 < F) {k l n : Nat} (hk : k < 4) (hl : l < 4) {M C : Nat → Nat} {σ : zST} (hA : At (2 + 3 * k) n M C σ) : ∃ τ, m_X7_copy F 0 (nI k) (nI l) σ = some (.inr (), τ) ∧ At (2 + 3 * l) n M C τ ∧ Fr (SP l) σ τ := by
  refine ⟨wI (wI (sI σ (2 + 3 * l) 0 (nI n)) (2 + 3 * l + 1) 8 (fun v => nI (M v))) (2 + 3 * l + 2) 8 (fun v => nI (C v)), ?_, ?_, ?_⟩
  · unfold m_X7_copy
    rw [graphAt_ok F hk, bx_inr, graphAt_ok F hl, bx_inr, become_eq F hF (by omega) hA, bv_some]
  · refine ⟨?_, fun v hv => ⟨?_, ?_⟩⟩
    · rw [gI_wI, if_neg (by omega), gI_wI, if_neg (by omega), gI_same]
    · rw [gI_wI, if_neg (by omega), gI_wI, if_pos ⟨rfl, hv⟩]
    · rw [gI_wI, if_pos ⟨rfl, hv⟩]
  · exact ((Fr.sI (by unfold SP; omega)).tr (Fr.wI (fun j _ => by unfold SP; omega))).tr (Fr.wI (fun j _ => by unfold SP; omega))
theorem x_complement (F : Nat) (hF : 8 < F) {k n : Nat} (hk : k < 4) {M C : Nat → Nat} {σ : zST} (hG : Gr n M C) (hA : At (2 + 3 * k) n M C σ) : ∃ τ, m_X7_complement F 0 (nI k) σ = some (.inr (nI (edg (coM n M))), τ) ∧ At (2 + 3 * k) n (coM n M) C τ ∧ Fr (SP k) σ τ := by
  refine ⟨_, ?_, co_At hA, Fr.wI (fun j _ => by unfold SP; omega)⟩
  unfold m_X7_complement
  rw [graphAt_ok F hk, bx_inr, co_cl F hF hG hA, bv_some, countE_cl F hF (co_Gr hG) (co_At hA), bd_some]
theorem x_toggle (F : Nat) {k n a b : Nat} (hk : k < 4) {M C : Nat → Nat} {σ : zST} (hG : Gr n M C) (hA : At (2 + 3 * k) n M C σ) (ha : a < n) (hb : b < n) (hab : a ≠ b) : ∃ τ, m_X7_toggle F 0 (nI k) (nI a) (nI b) σ = some (.inr (bI ((flipM M a b a).testBit b)), τ) ∧ At (2 + 3 * k) n (flipM M a b) C τ ∧ Fr (SP k) σ τ := by
  have h8 := hG.1.2
  have hne : ¬ nI a = nI b := fun z => hab ((nI_eq (by omega) (by omega)).mp z)
  have hA' := flip_At (b := b) hA hab
  have hG' := flip_Gr hG ha hb hab
  have hlt : flipM M a b a < 2 ^ 31 := Nat.lt_of_lt_of_le (hG'.lt (v := a) (by omega)) (by omega)
  refine ⟨_, ?_, hA', (Fr.sI (by unfold SP; omega)).tr (Fr.sI (by unfold SP; omega))⟩
  unfold m_X7_toggle
  rw [graphAt_ok F hk, bx_inr, checkV_ok F ha (by omega) hA.1, bx_inr, checkV_ok F hb (by omega) hA.1, bx_inr, if_neg hne, flip_cl F hG hA ha hb hab, bv_some, hasE_cl F (by omega) (by omega) (hA'.2 a (by omega)).1 hlt, bd_some, gd_yes (bI_01 _)]
-- the codes
theorem id8 {n : Nat} (hn : n ≤ 8) : ∀ i, i < n → (fun i => i) i < 8 := fun i hi => by show i < 8; omega
def idN (i : Nat) : Nat := i
theorem cde_kc {n : Nat} {M C : Nat → Nat} (hG : Gr n M C) : cde n M C (fun i => i) = kc n (gC n C (fun i => i)) (gA n M (fun i => i)) := (kc_cod hG.1.2 M C _).symm
theorem cde_0 {m : Nat} : cde m (fun _ => 0) (fun _ => 0) (fun i => i) = m * 2 ^ 52 := by
  unfold cde cod
  have h1 : cw m (fun _ => 0) (fun i => i) = 0 := by
    unfold cw rv
    have : qk (rvd m (fun i => (fun _ => 0) ((fun i => i) i))) 8 = qk (fun _ => 0) 8 := qk_cong (fun k _ => by unfold rvd; split <;> rfl)
    rw [this]
    decide +kernel
  have h2 : ec m (fun _ => 0) (fun i => i) = 0 := by
    unfold ec
    have : eb m (fun i j => ((fun _ => 0 : Nat → Nat) ((fun i => i) i)).testBit ((fun i => i) j)) = eb m (fun _ _ => false) := eb_cong (fun i j _ _ => Nat.zero_testBit _)
    rw [this]
    unfold eb
    have : ∀ b, ebd m (fun _ _ => false) b = false := fun b => by unfold ebd; rw [Bool.and_false]
    have e : ebd m (fun _ _ => false) = fun _ => false := funext this
    rw [e]
    decide +kernel
  rw [h1, h2]
  omega
theorem cde_up {n v c : Nat} {M C : Nat → Nat} (hG : Gr n M C) (hv : v < n) (F : Nat) (hc : c < 8) (σ : zST) : m_L_coloured F (lN (cde n M C (fun i => i))) (nI v) (nI c) σ = some (lN (cde n M (upN C v c) (fun i => i)), σ) := by
  have h8 := hG.1.2
  rw [cde_kc hG, coloured_eq F (gC_8 hG (id8 h8)) _ (by omega) hc]
  congr 2
  congr 1
  rw [show cde n M (upN C v c) (fun i => i) = kc n (gC n (upN C v c) (fun i => i)) (gA n M (fun i => i)) from (kc_cod h8 _ _ _).symm]
  refine kc_cong (fun i hi => ?_) (fun _ _ _ _ => rfl)
  show (if i = v then c else if i < n then C i else 0) = (if i < n then (if i = v then c else C i) else 0)
  by_cases e : i = v
  · rw [if_pos e, if_pos (by omega), if_pos e]
  · rw [if_neg e, if_neg e]
theorem cde_flip {n a b : Nat} {M C : Nat → Nat} (hG : Gr n M C) (ha : a < n) (hb : b < n) (hab : a ≠ b) : lN (cde n M C (fun i => i)) ^^^ jlshl 1 (nI (pbs a b)) = lN (cde n (flipM M a b) C (fun i => i)) := by
  have h8 := hG.1.2
  rw [cde_kc hG, kc_xor (gC_8 hG (id8 h8)) (gA_sym hG (id8 h8)) (by omega) (by omega) hab, cde_kc (flip_Gr hG ha hb hab)]
  congr 1
  refine kc_cong (fun _ _ => rfl) (fun x y hxy hy => ?_)
  unfold upA gA
  by_cases c : (x = a ∧ y = b) ∨ (x = b ∧ y = a)
  · rw [if_pos c, decide_eq_true (show a < n ∧ b < n from ⟨ha, hb⟩), decide_eq_true (show x < n ∧ y < n by omega), Bool.true_and, Bool.true_and]
    show (!(M a).testBit b) = (flipM M a b x).testBit y
    rw [flipM_bit, decide_eq_true (by omega)]
    rcases c with ⟨rfl, rfl⟩ | ⟨rfl, rfl⟩
    · cases (M x).testBit y <;> rfl
    · rw [hG.sy (u := y) (v := x) (by omega) (by omega)]
      cases (M x).testBit y <;> rfl
  · rw [if_neg c]
    congr 1
    show (M x).testBit y = (flipM M a b x).testBit y
    rw [flipM_bit, decide_eq_false (by omega)]
    cases (M x).testBit y <;> rfl
end
