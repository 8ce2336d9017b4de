/-! MATHEMATICS, 6: begin, copy -/
section
/-- the cells o + j, j < n, of p become f j -/
def wO (σ : zST) (p o n : Nat) (f : Nat → Int32) : zST := (fun q j => if q = p ∧ o ≤ j ∧ j < o + n then f (j - o) else gI σ q j, σ.2)
theorem gI_wO (σ : zST) (p o n : Nat) (f : Nat → Int32) (q i : Nat) : gI (wO σ p o n f) q i = if q = p ∧ o ≤ i ∧ i < o + n then f (i - o) else gI σ q i := rfl
theorem gL_wO (σ : zST) (p o n : Nat) (f : Nat → Int32) (q i : Nat) : gL (wO σ p o n f) q i = gL σ q i := rfl
theorem wO_0 (σ : zST) (p o : Nat) (f : Nat → Int32) : wO σ p o 0 f = σ := zST_ext (fun q i => by
  rw [gI_wO, if_neg (by omega)]) (fun q i => rfl)
theorem wO_at (σ : zST) (p o n : Nat) (f : Nat → Int32) {i : Nat} (h : i < n) : gI (wO σ p o n f) p (o + i) = f i := by
  rw [gI_wO, if_pos (by omega), Nat.add_sub_cancel_left]
theorem wO_off (σ : zST) (p o n : Nat) (f : Nat → Int32) {q i : Nat} (h : ¬ (q = p ∧ o ≤ i ∧ i < o + n)) : gI (wO σ p o n f) q i = gI σ q i := if_neg h
theorem wO_s2 (σ : zST) {p q : Nat} (hpq : p ≠ q) (o n : Nat) (f g : Nat → Int32) : sI (sI (wO (wO σ p o n f) q o n g) p (o + n) (f n)) q (o + n) (g n) = wO (wO σ p o (n + 1) f) q o (n + 1) g := zST_ext (fun r i => by
  rw [gI_sI, gI_sI, gI_wO, gI_wO, gI_wO, gI_wO]
  repeat' split
  all_goals first | rfl | (exfalso; omega) | (congr 1; omega)) (fun r i => rfl)
theorem Fr.wO {S : Nat → Nat → Prop} {σ : zST} {p o n : Nat} {f : Nat → Int32} (h : ∀ j, o ≤ j → j < o + n → S p j) : Fr S σ (wO σ p o n f) := fun q i hq => ⟨by
  rw [gI_wO, if_neg (fun z => hq (by rw [z.1]; exact h _ z.2.1 z.2.2))], rfl⟩
theorem clear_eq (F p : Nat) (hF : 8 < F) (x : Int32) (σ : zST) : m_X2_clear F p x σ = some (wI (wI (sI σ p 0 x) (p + 1) 8 (fun _ => 0)) (p + 2) 8 (fun _ => 0)) := by
  unfold m_X2_clear
  rw [nm_eq, fillI F (p + 1) hF, bv_some, fillI F (p + 2) hF, bv_some]
theorem Gr0 {n : Nat} (h1 : 1 ≤ n) (h8 : n ≤ 8) : Gr n (fun _ => 0) (fun _ => 0) := ⟨⟨h1, h8⟩, fun v hv => ⟨Nat.zero_lt_succ 7, Nat.two_pow_pos n, fun _ => rfl, Nat.zero_testBit v, fun u hu => (Nat.zero_testBit v).trans (Nat.zero_testBit u).symm⟩⟩
end

