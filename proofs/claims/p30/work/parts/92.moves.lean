/-! MATHEMATICS, 40: moves -/
section
/-- the images of the points in r -/
def img (p : Nat → Nat) (r : Nat) : Nat → Nat
  | 0 => 0
  | i + 1 => if r.testBit i then img p r i ||| 2 ^ p i else img p r i
theorem img_bit (p : Nat → Nat) (r y : Nat) : ∀ n, (img p r n).testBit y = true ↔ ∃ x, x < n ∧ r.testBit x = true ∧ p x = y
  | 0 => by
    rw [img, Nat.zero_testBit]
    constructor
    · intro h; exact absurd h (by decide)
    · rintro ⟨x, h, _⟩; omega
  | n + 1 => by
    rw [img]
    split
    · rename_i h
      rw [Nat.testBit_or, Bool.or_eq_true, img_bit p r y n, Nat.testBit_two_pow, decide_eq_true_iff]
      constructor
      · rintro (⟨x, h1, h2, h3⟩ | e)
        · exact ⟨x, by omega, h2, h3⟩
        · exact ⟨n, by omega, h, e⟩
      · rintro ⟨x, h1, h2, h3⟩
        by_cases z : x = n
        · subst z; exact Or.inr h3
        · exact Or.inl ⟨x, by omega, h2, h3⟩
    · rename_i h
      rw [img_bit p r y n]
      constructor
      · rintro ⟨x, h1, h2, h3⟩; exact ⟨x, by omega, h2, h3⟩
      · rintro ⟨x, h1, h2, h3⟩
        by_cases z : x = n
        · subst z; exact absurd h2 h
        · exact ⟨x, by omega, h2, h3⟩
theorem lt256 {a : Nat} (h : ∀ y, a.testBit y = true → y < 8) : a < 256 := by
  refine Nat.lt_pow_two_of_testBit (n := 8) a (fun i hi => ?_)
  cases e : a.testBit i
  · rfl
  · have := h i e; omega
theorem bit_lt {a y : Nat} (h : a < 256) (hb : a.testBit y = true) : y < 8 := by
  apply Classical.byContradiction
  intro z
  have : a < 2 ^ y := Nat.lt_of_lt_of_le h (Nat.pow_le_pow_right (n := 2) (i := 8) (by omega) (by omega))
  rw [Nat.testBit_lt_two_pow this] at hb
  exact absurd hb (by decide)
theorem img_lt {p : Nat → Nat} (hp : IsP p) (r n : Nat) (hn : n ≤ 8) : img p r n < 256 := lt256 (fun y h => by
  obtain ⟨x, h1, _, h3⟩ := (img_bit p r y n).mp h
  rw [← h3]; exact hp.2.1 x (by omega))
theorem or_lt {a b : Nat} (ha : a < 256) (hb : b < 256) : a ||| b < 256 := Nat.or_lt_two_pow (n := 8) ha hb
theorem imagesOf_eq (F : Nat) (hF : 8 < F) {p : Nat → Nat} (hp : IsP p) {r : Nat} (hr : r < 256) (σ : zST) : m_X3_imagesOf F (lN (en p)) (nI r) σ = some (nI (img p r 8), σ) := by
  unfold m_X3_imagesOf
  refine up_loop0 (fun n (i : Int32) (s : Int32) => m_X3_imagesOf_5 F n (lN (en p)) (nI r) s i σ) 8 (fun i => nI (img p r i)) (some (nI (img p r 8), σ)) (fun n i hi => ?_) (fun n => ?_) hF
  · show m_X3_imagesOf_5 F (n + 1) (lN (en p)) (nI r) (nI (img p r i)) (nI i) σ = m_X3_imagesOf_5 F n (lN (en p)) (nI r) (nI (img p r (i + 1))) (nI (i + 1)) σ
    have hx := hp.2.1 i hi
    rw [m_X3_imagesOf_5]; dsimp only
    unfold m_X3_imagesOf_32
    rw [l8, if_neg (nI_ge hi (by omega)), isIn_eq F (by omega) (by omega), bd_some, img]
    by_cases z : r.testBit i = true
    · rw [if_pos z, if_pos z, if_neg n10, imageOf_eq F hp.2.1 hi, bd_some, shl1 (by omega), b_or, nm_eq, nm_eq, nI_1]
    · rw [if_neg z, if_neg z, if_pos rfl, nm_eq, nI_1]
  · show m_X3_imagesOf_5 F (n + 1) (lN (en p)) (nI r) (nI (img p r 8)) (nI 8) σ = _
    rw [m_X3_imagesOf_5]; dsimp only
    rw [l8, if_pos (nI_le (by omega) (by omega))]
/-- a pass over the first i generators; passes -/
def psT (g : Nat → Nat → Nat) (r : Nat) : Nat → Nat
  | 0 => r
  | i + 1 => psT g r i ||| img (g i) (psT g r i) 8
def rch (c : Nat) (g : Nat → Nat → Nat) (x : Nat) : Nat → Nat
  | 0 => 2 ^ x
  | t + 1 => psT g (rch c g x t) c
theorem psT_lt {c : Nat} {g : Nat → Nat → Nat} (hg : ∀ i, i < c → IsP (g i)) {r : Nat} (hr : r < 256) : ∀ i, i ≤ c → psT g r i < 256
  | 0, _ => hr
  | i + 1, h => or_lt (psT_lt hg hr i (by omega)) (img_lt (hg i (by omega)) _ 8 (Nat.le_refl _))
theorem rch_lt {c : Nat} {g : Nat → Nat → Nat} (hg : ∀ i, i < c → IsP (g i)) {x : Nat} (hx : x < 8) : ∀ t, rch c g x t < 256
  | 0 => Nat.pow_lt_pow_right (n := 8) (by omega) hx
  | t + 1 => psT_lt hg (rch_lt hg hx t) c (Nat.le_refl _)
theorem psT_sub (g : Nat → Nat → Nat) (r y : Nat) (h : r.testBit y = true) : ∀ i, (psT g r i).testBit y = true
  | 0 => h
  | i + 1 => by rw [psT, Nat.testBit_or, psT_sub g r y h i]; rfl
theorem psT_mono (g : Nat → Nat → Nat) (r y : Nat) {i : Nat} (h : (psT g r i).testBit y = true) : ∀ d, (psT g r (i + d)).testBit y = true
  | 0 => h
  | d + 1 => by rw [Nat.add_succ, psT, Nat.testBit_or, psT_mono g r y h d]; rfl
/-- the generators map r into the pass -/
theorem psT_img {c : Nat} {g : Nat → Nat → Nat} {r : Nat} (hr : r < 256) {i y : Nat} (hi : i < c) (h : r.testBit y = true) : (psT g r c).testBit (g i y) = true := by
  have h1 : (psT g r (i + 1)).testBit (g i y) = true := by
    rw [psT, Nat.testBit_or, Bool.or_eq_true]
    right
    exact (img_bit _ _ _ 8).mpr ⟨y, bit_lt hr h, psT_sub g r y h i, rfl⟩
  have := psT_mono g r (g i y) h1 (c - (i + 1))
  rwa [show i + 1 + (c - (i + 1)) = c from by omega] at this
theorem psT_Gp {c : Nat} {g : Nat → Nat → Nat} {x r : Nat} (h : ∀ y, r.testBit y = true → ∃ f, Gp c g f ∧ f x = y) : ∀ i, i ≤ c → ∀ y, (psT g r i).testBit y = true → ∃ f, Gp c g f ∧ f x = y
  | 0, _, y, hy => h y hy
  | i + 1, hi, y, hy => by
    rw [psT, Nat.testBit_or, Bool.or_eq_true] at hy
    rcases hy with hy | hy
    · exact psT_Gp h i (by omega) y hy
    · obtain ⟨z, _, hz, e⟩ := (img_bit _ _ _ 8).mp hy
      obtain ⟨f, hf, ef⟩ := psT_Gp h i (by omega) z hz
      exact ⟨fun j => g i (f j), hf.step (by omega), by show g i (f x) = y; rw [ef, e]⟩
theorem rch_Gp {c : Nat} {g : Nat → Nat → Nat} {x : Nat} : ∀ t y, (rch c g x t).testBit y = true → ∃ f, Gp c g f ∧ f x = y
  | 0, y, hy => by
    rw [rch, Nat.testBit_two_pow, decide_eq_true_iff] at hy
    exact ⟨fun j => j, Gp.id c g, hy⟩
  | t + 1, y, hy => psT_Gp (rch_Gp t) c (Nat.le_refl _) y hy
theorem pop_less {a b y : Nat} (h : ∀ i, i < 8 → a.testBit i = true → b.testBit i = true) (hy : y < 8) (h1 : b.testBit y = true) (h0 : a.testBit y = false) : pop a < pop b := by
  have := cnt_mono (P := fun i => a.testBit i || decide (i = y)) (Q := fun i => b.testBit i) (n := 8) (fun i hi z => by
    rw [Bool.or_eq_true, decide_eq_true_iff] at z
    rcases z with z | z
    · exact h i hi z
    · rw [z]; exact h1)
  rw [cnt_or (fun i _ z => by
    rw [decide_eq_true_iff] at z
    rw [z.2, h0] at z
    exact absurd z.1 (by decide)), cnt_one (j := y) hy (decide_eq_true rfl) (fun i _ hne => decide_eq_false hne)] at this
  rw [pop_cnt, pop_cnt]
  have e : cnt a.testBit 8 = cnt (fun i => a.testBit i) 8 := rfl
  omega
def Shut (c : Nat) (g : Nat → Nat → Nat) (r : Nat) : Prop := ∀ i y, i < c → r.testBit y = true → r.testBit (g i y) = true
theorem Shut.pass {c : Nat} {g : Nat → Nat → Nat} {r : Nat} (h : Shut c g r) : ∀ i, i ≤ c → psT g r i = r
  | 0, _ => rfl
  | i + 1, hi => by
    rw [psT, h.pass i (by omega)]
    apply Nat.eq_of_testBit_eq
    intro y
    rw [Nat.testBit_or]
    cases e : (img (g i) r 8).testBit y
    · rw [Bool.or_false]
    · obtain ⟨x, _, hx, ex⟩ := (img_bit _ _ _ 8).mp e
      rw [← ex, h i x (by omega) hx]; rfl
theorem rch_shut {c : Nat} {g : Nat → Nat → Nat} (hg : ∀ i, i < c → IsP (g i)) {x : Nat} (hx : x < 8) : ∀ t, Shut c g (rch c g x t) ∨ t + 1 ≤ pop (rch c g x t)
  | 0 => by
    right
    rw [rch, pop_cnt]
    have : cnt (fun i => (2 ^ x).testBit i) 8 = 1 := cnt_one (j := x) hx (by rw [Nat.testBit_two_pow]; exact decide_eq_true rfl) (fun i _ hne => by
      rw [Nat.testBit_two_pow]; exact decide_eq_false (fun z => hne z.symm))
    omega
  | t + 1 => by
    have hr := rch_lt hg hx t
    rcases rch_shut hg hx t with h | h
    · left
      rw [rch, h.pass c (Nat.le_refl _)]
      exact h
    · by_cases e : Shut c g (rch c g x t)
      · left
        rw [rch, e.pass c (Nat.le_refl _)]
        exact e
      · right
        have : ∃ i y, i < c ∧ (rch c g x t).testBit y = true ∧ (rch c g x t).testBit (g i y) = false := by
          apply Classical.byContradiction
          intro z
          refine e (fun i y hi hy => ?_)
          cases e2 : (rch c g x t).testBit (g i y)
          · exact absurd ⟨i, y, hi, hy, e2⟩ z
          · rfl
        obtain ⟨i, y, hi, hy, hn⟩ := this
        have hy8 := bit_lt hr hy
        have := pop_less (a := rch c g x t) (b := rch c g x (t + 1)) (y := g i y) (fun j _ hj => psT_sub g _ j hj c) ((hg i hi).2.1 y hy8) (psT_img hr hi hy) hn
        omega
theorem shut7 {c : Nat} {g : Nat → Nat → Nat} (hg : ∀ i, i < c → IsP (g i)) {x : Nat} (hx : x < 8) : Shut c g (rch c g x 7) := by
  rcases rch_shut hg hx 7 with h | h
  · exact h
  · have hr := rch_lt hg hx 7
    intro i y hi hy
    have h8 := (hg i hi).2.1 y (bit_lt hr hy)
    cases e : (rch c g x 7).testBit (g i y)
    · have := pop_less (a := rch c g x 7) (b := 255) (y := g i y) (fun j hj _ => by
        have : ∀ j, j < 8 → (255 : Nat).testBit j = true := by decide
        exact this j hj) h8 (by
        have : ∀ j, j < 8 → (255 : Nat).testBit j = true := by decide
        exact this _ h8) e
      have h255 : pop 255 = 8 := by decide
      omega
    · rfl
theorem rch_all {c : Nat} {g : Nat → Nat → Nat} (hg : ∀ i, i < c → IsP (g i)) {x : Nat} (hx : x < 8) {f : Nat → Nat} (hf : Gp c g f) : (rch c g x 7).testBit (f x) = true := by
  refine Gp.least (S := fun f => (rch c g x 7).testBit (f x) = true) ?_ (fun i hi f hf => ?_) hf
  · have : ∀ t, (rch c g x t).testBit x = true := by
      intro t
      induction t with
      | zero => rw [rch, Nat.testBit_two_pow]; exact decide_eq_true rfl
      | succ t ih => exact psT_sub g _ x ih c
    exact this 7
  · exact shut7 hg hx i _ hi hf
theorem reach_eq (F : Nat) (hF : 8 < F) {c : Nat} (hc : c ≤ 6) {g : Nat → Nat → Nat} (hg : ∀ i, i < c → IsP (g i)) {x : Nat} (hx : x < 8) {σ : zST} (h : CGe c g σ) : m_X3_reach F 36 (nI x) σ = some (nI (rch c g x 7), σ) := by
  have inner : ∀ (k6 : Nat → Int32 → Int32 → zST → Option (Int32 × zST)) (r t : Nat), r < 256 → m_X3_reach_15 F k6 F 36 (nI r) (nI t) 0 σ = k6 36 (nI (psT g r c)) (nI (t + 1)) σ := by
    intro k6 r t hr
    refine up_loop0 (fun n (i : Int32) (s : Int32) => m_X3_reach_15 F k6 n 36 s (nI t) i σ) c (fun i => nI (psT g r i)) _ (fun n i hi => ?_) (fun n => ?_) (show c < F by omega)
    · show m_X3_reach_15 F k6 (n + 1) 36 (nI (psT g r i)) (nI t) (nI i) σ = m_X3_reach_15 F k6 n 36 (nI (psT g r (i + 1))) (nI t) (nI (i + 1)) σ
      rw [m_X3_reach_15]; dsimp only
      rw [h.1, if_neg (nI_ge hi (by omega)), ldL_at (by omega) (by omega), h.2 i hi, imagesOf_eq F hF (hg i hi) (psT_lt hg hr i (by omega)), bd_some, b_or, nm_eq, nm_eq, nI_1]
      rfl
    · show m_X3_reach_15 F k6 (n + 1) 36 (nI (psT g r c)) (nI t) (nI c) σ = _
      rw [m_X3_reach_15]; dsimp only
      rw [h.1, if_pos (nI_le (by omega) (by omega)), nm_eq, nI_1]
  have outer : ∀ d t n, t + d = 7 → d < n → m_X3_reach_6 F n 36 (nI (rch c g x t)) (nI (t + 1)) σ = some (nI (rch c g x 7), σ) := by
    intro d
    induction d with
    | zero =>
      intro t n h1 h2
      obtain ⟨n, rfl⟩ : ∃ k, n = k + 1 := ⟨n - 1, by omega⟩
      have : t = 7 := by omega
      subst this
      rw [m_X3_reach_6]; dsimp only
      rw [l8, if_pos (nI_le (by omega) (by omega))]
    | succ d ih =>
      intro t n h1 h2
      obtain ⟨n, rfl⟩ : ∃ k, n = k + 1 := ⟨n - 1, by omega⟩
      rw [m_X3_reach_6]; dsimp only
      rw [l8, if_neg (nI_ge (show t + 1 < 8 by omega) (by omega)), inner _ _ _ (rch_lt hg hx t)]
      exact ih (t + 1) n (by omega) (by omega)
  unfold m_X3_reach
  rw [shl1 (by omega), nm_eq]
  exact outer 7 0 F (by omega) (by omega)
/-- what the reference gathers -/
def mvs (L : Nat → Nat → Nat) (x : Nat) : Nat → Nat
  | 0 => 0
  | k + 1 => mvs L x k ||| 2 ^ L k x
theorem mvs_bit (L : Nat → Nat → Nat) (x y : Nat) : ∀ n, (mvs L x n).testBit y = true ↔ ∃ k, k < n ∧ L k x = y
  | 0 => by
    rw [mvs, Nat.zero_testBit]
    constructor
    · intro h; exact absurd h (by decide)
    · rintro ⟨k, h, _⟩; omega
  | n + 1 => by
    rw [mvs, Nat.testBit_or, Bool.or_eq_true, mvs_bit L x y n, Nat.testBit_two_pow, decide_eq_true_iff]
    constructor
    · rintro (⟨k, h1, h2⟩ | e)
      · exact ⟨k, by omega, h2⟩
      · exact ⟨n, by omega, e⟩
    · rintro ⟨k, h1, h2⟩
      by_cases z : k = n
      · subst z; exact Or.inr h2
      · exact Or.inl ⟨k, by omega, h2⟩
end

