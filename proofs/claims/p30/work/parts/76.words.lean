/-! MATHEMATICS, 24: the group of c generators: words; inverses are words -/
section
def Wd (c : Nat) (g : Nat → Nat → Nat) : Nat → (Nat → Nat) → Prop
  | 0, f => f = fun j => j
  | n + 1, f => ∃ i, i < c ∧ ∃ h, Wd c g n h ∧ f = fun j => g i (h j)
def Gp (c : Nat) (g : Nat → Nat → Nat) (f : Nat → Nat) : Prop := ∃ n, Wd c g n f
theorem Gp.id (c : Nat) (g : Nat → Nat → Nat) : Gp c g (fun j => j) := ⟨0, rfl⟩
theorem Gp.step {c : Nat} {g : Nat → Nat → Nat} {f : Nat → Nat} (h : Gp c g f) {i : Nat} (hi : i < c) : Gp c g (fun j => g i (f j)) := by
  obtain ⟨n, h⟩ := h
  exact ⟨n + 1, i, hi, f, h, rfl⟩
theorem Gp.gen {c : Nat} {g : Nat → Nat → Nat} {i : Nat} (hi : i < c) : Gp c g (g i) := (Gp.id c g).step hi
theorem Wd.mul {c : Nat} {g : Nat → Nat → Nat} {h : Nat → Nat} (hh : Gp c g h) : ∀ n f, Wd c g n f → Gp c g (fun j => f (h j))
  | 0, f, e => by
    have e : f = fun j => j := e
    subst e
    exact hh
  | n + 1, f, e => by
    obtain ⟨i, hi, k, hk, rfl⟩ := e
    exact (Wd.mul hh n k hk).step hi
theorem Gp.mul {c : Nat} {g : Nat → Nat → Nat} {f h : Nat → Nat} (hf : Gp c g f) (hh : Gp c g h) : Gp c g (fun j => f (h j)) := by
  obtain ⟨n, hn⟩ := hf
  exact Wd.mul hh n f hn
theorem Wd.isP {c : Nat} {g : Nat → Nat → Nat} (hg : ∀ i, i < c → IsP (g i)) : ∀ n f, Wd c g n f → IsP f
  | 0, f, e => by
    have e : f = fun j => j := e
    subst e
    exact IsP.id
  | n + 1, f, e => by
    obtain ⟨i, hi, k, hk, rfl⟩ := e
    exact (Wd.isP hg n k hk).comp (hg i hi)
theorem Gp.isP {c : Nat} {g : Nat → Nat → Nat} (hg : ∀ i, i < c → IsP (g i)) {f : Nat → Nat} (h : Gp c g f) : IsP f := by
  obtain ⟨n, h⟩ := h
  exact Wd.isP hg n f h
/-- powers -/
def pw (f : Nat → Nat) : Nat → Nat → Nat
  | 0, x => x
  | n + 1, x => f (pw f n x)
theorem pw_add (f : Nat → Nat) (m x : Nat) : ∀ n, pw f (n + m) x = pw f n (pw f m x)
  | 0 => by rw [Nat.zero_add, pw]
  | n + 1 => by rw [Nat.succ_add, pw, pw, pw_add f m x n]
theorem pw_lt {f : Nat → Nat} (hf : IsP f) {x : Nat} (hx : x < 8) : ∀ n, pw f n x < 8
  | 0 => hx
  | n + 1 => hf.2.1 _ (pw_lt hf hx n)
theorem pw_inj {f : Nat → Nat} (hf : IsP f) {x y : Nat} : ∀ n, pw f n x = pw f n y → x = y
  | 0, h => h
  | n + 1, h => by
    rw [pw, pw] at h
    have := congrArg (iv f) h
    rw [iv_l hf, iv_l hf] at this
    exact pw_inj hf n this
theorem pw_mul {f : Nat → Nat} {k x : Nat} (h : pw f k x = x) : ∀ m, pw f (m * k) x = x
  | 0 => by rw [Nat.zero_mul, pw]
  | m + 1 => by rw [Nat.succ_mul, pw_add, h, pw_mul h m]
theorem pw_back {f : Nat → Nat} (hf : IsP f) {x : Nat} (hx : x < 8) : ∃ k, 1 ≤ k ∧ k ≤ 8 ∧ pw f k x = x := by
  apply Classical.byContradiction
  intro z
  have h : ∀ i j, i < 9 → j < 9 → i < j → pw f i x = pw f j x → False := by
    intro i j hi hj hij e
    have : pw f (i + (j - i)) x = pw f i x := by rw [show i + (j - i) = j from by omega, e]
    rw [pw_add] at this
    exact z ⟨j - i, by omega, by omega, pw_inj hf i this⟩
  have := pig 8 9 (fun i => pw f i x) (fun i _ => pw_lt hf hx i) (fun i j hi hj e => by
    rcases Nat.lt_trichotomy i j with q | q | q
    · exact absurd (h i j hi hj q e) (fun z => z)
    · exact q
    · exact absurd (h j i hj hi q e.symm) (fun z => z))
  omega
theorem pw_840 {f : Nat → Nat} (hf : IsP f) {x : Nat} (hx : x < 8) : pw f 840 x = x := by
  obtain ⟨k, h1, h8, e⟩ := pw_back hf hx
  have : 840 / k * k = 840 := by
    have : k = 1 ∨ k = 2 ∨ k = 3 ∨ k = 4 ∨ k = 5 ∨ k = 6 ∨ k = 7 ∨ k = 8 := by omega
    rcases this with rfl | rfl | rfl | rfl | rfl | rfl | rfl | rfl <;> rfl
  rw [← this]
  exact pw_mul e _
theorem pw_out {f : Nat → Nat} (hf : IsP f) {x : Nat} (hx : 8 ≤ x) : ∀ n, pw f n x = x
  | 0 => rfl
  | n + 1 => by rw [pw, pw_out hf hx n, hf.1 x hx]
theorem iv_pw {f : Nat → Nat} (hf : IsP f) : iv f = pw f 839 := by
  funext x
  have : f (pw f 839 x) = x := by
    show pw f 840 x = x
    by_cases hx : x < 8
    · exact pw_840 hf hx
    · exact pw_out hf (by omega) 840
  have h := congrArg (iv f) this
  rw [iv_l hf] at h
  exact h.symm
theorem Gp.pw {c : Nat} {g : Nat → Nat → Nat} {f : Nat → Nat} (hf : Gp c g f) : ∀ n, Gp c g (pw f n)
  | 0 => Gp.id c g
  | n + 1 => hf.mul (Gp.pw hf n)
theorem Gp.iv {c : Nat} {g : Nat → Nat → Nat} {f : Nat → Nat} (hp : IsP f) (hf : Gp c g f) : Gp c g (iv f) := by
  rw [iv_pw hp]
  exact hf.pw 839
/-- more generators, more words -/
theorem Gp.mono {c d : Nat} {g : Nat → Nat → Nat} (hcd : c ≤ d) {f : Nat → Nat} (h : Gp c g f) : Gp d g f := by
  obtain ⟨n, h⟩ := h
  have : ∀ n f, Wd c g n f → Wd d g n f := by
    intro n
    induction n with
    | zero => intro f e; exact e
    | succ n ih =>
      rintro f ⟨i, hi, k, hk, e⟩
      exact ⟨i, by omega, k, ih k hk, e⟩
  exact ⟨n, this n f h⟩
/-- words lie in every set that holds the generators and is closed -/
theorem Gp.least {c : Nat} {g : Nat → Nat → Nat} {S : (Nat → Nat) → Prop} (h1 : S (fun j => j)) (h2 : ∀ i, i < c → ∀ f, S f → S (fun j => g i (f j))) {f : Nat → Nat} (h : Gp c g f) : S f := by
  obtain ⟨n, h⟩ := h
  have : ∀ n f, Wd c g n f → S f := by
    intro n
    induction n with
    | zero =>
      intro f e
      have e : f = fun j => j := e
      subst e
      exact h1
    | succ n ih =>
      rintro f ⟨i, hi, k, hk, rfl⟩
      exact h2 i hi k (ih k hk)
  exact this n f h
end

