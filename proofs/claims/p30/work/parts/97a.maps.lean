/-! THE LAW'S MAPS: all arrangements of up to five points, by their numbers -/
section
def fac : Nat → Nat
  | 0 => 1
  | n + 1 => (n + 1) * fac n
theorem fac_5 : ∀ n, n < 6 → 0 < fac n ∧ fac n ≤ 120 := by decide +kernel
theorem maps_in (F : Nat) {k : Nat} (hk : k < 6) (σ : zST) : ∀ (d i m : Nat), i + d = k → 1 ≤ i → d < m → m_L_maps_4 F m (nI k) (nI (fac i)) (nI (i + 1)) σ = some (nI (fac k), σ) := by
  intro d
  induction d with
  | zero =>
    intro i m hi h1 hm
    obtain ⟨m', rfl⟩ : ∃ m', m = m' + 1 := ⟨m - 1, by omega⟩
    rw [m_L_maps_4]; dsimp only
    rw [if_pos (nI_lt (by omega) (by omega)), show i = k from by omega]
  | succ d ih =>
    intro i m hi h1 hm
    obtain ⟨m', rfl⟩ : ∃ m', m = m' + 1 := ⟨m - 1, by omega⟩
    rw [m_L_maps_4]; dsimp only
    rw [if_neg (nI_nlt (by omega) (by omega)), pk_mul, nm_eq, nm_eq, nI_1, Nat.mul_comm, show (i + 1) * fac i = fac (i + 1) from rfl]
    exact ih (i + 1) m' (by omega) (by omega) (by omega)
theorem maps_eq (F : Nat) (hF : 8 < F) {k : Nat} (hk : k < 6) (σ : zST) : m_L_maps F (nI k) σ = some (nI (fac k), σ) := by
  unfold m_L_maps
  by_cases h : k = 0
  · subst h
    obtain ⟨m', rfl⟩ : ∃ m', F = m' + 1 := ⟨F - 1, by omega⟩
    rw [m_L_maps_4]; dsimp only
    rw [if_pos (by decide +kernel)]
    rfl
  · exact maps_in F hk σ (k - 1) 1 F (by omega) (by omega) (by omega)
/-- the s-th place that a set leaves free -/
def sel : Nat → Nat → Nat → Nat → Option Nat
  | 0, _, _, _ => none
  | d + 1, u, s, i => if 0 < s ∨ u.testBit i = true then sel d u (s - (if u.testBit i = true then 0 else 1)) (i + 1) else some i
theorem sel_lt : ∀ (d u s i r : Nat), sel d u s i = some r → r < i + d := by
  intro d
  induction d with
  | zero => intro u s i r h; cases h
  | succ d ih =>
    intro u s i r h
    rw [sel] at h
    by_cases c : 0 < s ∨ u.testBit i = true
    · rw [if_pos c] at h
      have := ih _ _ _ _ h
      omega
    · rw [if_neg c] at h
      cases h
      omega
theorem sel_eq (F : Nat) (k11 : Int32 → Int32 → Int32 → Int32 → Int32 → Int32 → zST → Option (Int32 × zST)) (a0 a2 a4 a6 : Int32) (σ : zST) : ∀ (d u s i r : Nat), u < 2 ^ 31 → s < 2 ^ 31 → i + d < 32 → sel d u s i = some r → ∀ g, d ≤ g → m_L_image_45 F k11 g a0 a2 (nI u) a4 (nI i) a6 (nI s) σ = k11 a0 a2 (nI (u ||| 2 ^ r)) a4 (nI r) (a6 + 1) σ := by
  intro d
  induction d with
  | zero => intro u s i r _ _ _ h; cases h
  | succ d ih =>
    intro u s i r hu hs hi h g hg
    obtain ⟨g', rfl⟩ : ∃ g', g = g' + 1 := ⟨g - 1, by omega⟩
    rw [sel] at h
    have hgo : 0 < s ∨ u.testBit i = true → m_L_image_60 F k11 (m_L_image_45 F k11 g') a0 a2 (nI u) a4 (nI i) a6 (nI s) σ = k11 a0 a2 (nI (u ||| 2 ^ r)) a4 (nI r) (a6 + 1) σ := by
      intro c
      rw [if_pos c] at h
      unfold m_L_image_60 m_L_image_76
      rw [shr_and1 hu (by omega)]
      by_cases e : u.testBit i = true
      · rw [e, if_neg (by decide), nm_eq, nm_eq, l0, b_sub (Nat.zero_le _), nI_1]
        rw [if_pos e] at h
        exact ih u (s - 0) (i + 1) r hu (show s - 0 < 2 ^ 31 by omega) (by omega) h g' (by omega)
      · have h0 : 0 < s := c.resolve_right e
        rw [if_pos (by rw [Bool.eq_false_iff.mpr e]; rfl), nm_eq, nm_eq, l1, b_sub (show 1 ≤ s by omega), nI_add]
        rw [if_neg e] at h
        exact ih u (s - 1) (i + 1) r hu (by omega) (by omega) h g' (by omega)
    rw [m_L_image_45]; dsimp only
    by_cases c : 0 < s
    · rw [if_pos (show (0 : Int32) < nI s from nI_lt (a := 0) (b := s) c hs)]
      exact hgo (Or.inl c)
    · rw [if_neg (show ¬ (0 : Int32) < nI s from nI_nlt (a := 0) (b := s) (by omega) (by omega)), shr_and1 hu (by omega)]
      by_cases e : u.testBit i = true
      · rw [if_pos (by rw [e]; rfl)]
        exact hgo (Or.inr e)
      · rw [if_neg (by rw [Bool.eq_false_iff.mpr e]; decide)]
        rw [if_neg (fun z => z.elim c e)] at h
        cases h
        rw [shl1 (by omega), b_or, nm_eq, nm_eq]
def imo : Nat → Nat → Nat → Nat → Nat → Nat → Option Nat
  | 0, _, _, _, _, i => some i
  | c + 1, n, k, u, l, _ => (sel 9 u (l / fac (n - 1 - k)) 0).bind fun r => imo c n (k + 1) (u ||| 2 ^ r) (l % fac (n - 1 - k)) r
theorem imo_eq (F : Nat) (hF : 9 < F) {n pt : Nat} (hn : n < 6) (hpt : pt < n) (σ : zST) : ∀ (c k u l i r : Nat), u < 2 ^ 16 → l < 2 ^ 31 → k + c = pt + 1 → imo c n k u l i = some r → ∀ m, c < m → m_L_image_11 F m (nI n) (nI pt) (nI u) (nI l) (nI i) (nI k) σ = some (nI r, σ) := by
  intro c
  induction c with
  | zero =>
    intro k u l i r hu hl hk h m hm
    obtain ⟨m', rfl⟩ : ∃ m', m = m' + 1 := ⟨m - 1, by omega⟩
    rw [m_L_image_11]; dsimp only
    rw [if_pos (nI_lt (by omega) (by omega))]
    cases h
    rfl
  | succ c ih =>
    intro k u l i r hu hl hk h m hm
    obtain ⟨m', rfl⟩ : ∃ m', m = m' + 1 := ⟨m - 1, by omega⟩
    rw [imo] at h
    obtain ⟨q, h1, h2⟩ := Option.bind_eq_some_iff.mp h
    have hq := sel_lt _ _ _ _ _ h1
    obtain ⟨f1, f2⟩ := fac_5 (n - 1 - k) (by omega)
    have hdl : l / fac (n - 1 - k) ≤ l := Nat.div_le_self _ _
    have hml : l % fac (n - 1 - k) ≤ l := Nat.mod_le _ _
    rw [m_L_image_11]; dsimp only
    rw [if_neg (nI_nlt (by omega) (by omega)), l1, b_sub (by omega), b_sub (by omega), maps_eq F (by omega) (by omega), bd_some, gd_yes (nI_ne0 f1 (by omega)), nm_eq, gd_yes (nI_ne0 f1 (by omega)), nm_eq, pk_rem hl f1 (by omega), pk_div hl f1 (by omega)]
    rw [show (0 : Int32) = nI 0 from rfl, sel_eq F _ _ _ _ _ _ 9 u _ 0 q (by omega) (by omega) (by omega) h1 F (by omega), nI_1]
    exact ih (k + 1) _ _ q r (Nat.or_lt_two_pow hu (Nat.pow_lt_pow_right (by omega) (by omega))) (by omega) (by omega) h2 m' (by omega)
/-- the image of a point by the map with a number -/
def gim (n num pt : Nat) : Nat := (imo (pt + 1) n 0 0 num 0).getD 9
theorem img_ok : ∀ n, n < 6 → ∀ num, num < fac n → ∀ pt, pt < n → (imo (pt + 1) n 0 0 num 0).isSome = true ∧ gim n num pt < n := by decide +kernel
theorem image_eq (F : Nat) (hF : 9 < F) {n num pt : Nat} (hn : n < 6) (hnum : num < fac n) (hpt : pt < n) (σ : zST) : m_L_image F (nI n) (nI num) (nI pt) σ = some (nI (gim n num pt), σ) := by
  have hf := (fac_5 n hn).2
  obtain ⟨r, hr⟩ := Option.isSome_iff_exists.mp (img_ok n hn num hnum pt hpt).1
  unfold m_L_image
  have e : gim n num pt = r := by unfold gim; rw [hr]; rfl
  rw [e]
  exact imo_eq F hF hn hpt σ (pt + 1) 0 0 num 0 r (by omega) (by omega) (by omega) hr F (by omega)
def pmn (n num i : Nat) : Nat := if i < n then gim n num i else i
theorem pmn_in {n num i : Nat} (h : i < n) : pmn n num i = gim n num i := if_pos h
theorem img_inj : ∀ n, n < 6 → ∀ num, num < fac n → ∀ i, i < n → ∀ j, j < n → gim n num i = gim n num j → i = j := by decide +kernel
theorem pmn_N {n num : Nat} (hn : n < 6) (h : num < fac n) : IsN n (pmn n num) := by
  refine IsN.mk (by omega) (fun i hi => ?_) (fun i j hi hj e => ?_) (fun i hi => if_neg (by omega))
  · rw [pmn_in hi]; exact (img_ok n hn num h i hi).2
  · rw [pmn_in hi, pmn_in hj] at e
    exact img_inj n hn num h i hi j hj e
theorem img_up : ∀ n, n < 6 → ∀ num, num < fac n → num + 1 < fac n → rv n (fun i => gim n num i) < rv n (fun i => gim n (num + 1) i) := by decide +kernel
theorem pmn_rv (n num : Nat) : rv n (pmn n num) = rv n (fun i => gim n num i) := rv_cong (fun i hi => pmn_in hi)
theorem pmn_up {n : Nat} (hn : n < 6) : ∀ {a b : Nat}, a < b → b < fac n → rv n (pmn n a) < rv n (pmn n b) := by
  intro a b hab
  induction b with
  | zero => omega
  | succ b ih =>
    intro hb
    have h1 : rv n (pmn n b) < rv n (pmn n (b + 1)) := by
      rw [pmn_rv, pmn_rv]; exact img_up n hn b (by omega) hb
    by_cases e : a = b
    · rw [e]; exact h1
    · have := ih (by omega) (by omega)
      omega
theorem pmn_le {n : Nat} (hn : n < 6) {a b : Nat} (ha : a < fac n) (hb : b < fac n) : rv n (pmn n a) ≤ rv n (pmn n b) ↔ a ≤ b := by
  constructor
  · intro h
    rcases Nat.lt_or_ge b a with z | z
    · have := pmn_up hn z ha; omega
    · exact z
  · intro h
    rcases Nat.lt_or_eq_of_le h with z | z
    · exact Nat.le_of_lt (pmn_up hn z hb)
    · rw [z]; exact Nat.le_refl _
theorem pmn_inj {n : Nat} (hn : n < 6) {a b : Nat} (ha : a < fac n) (hb : b < fac n) (h : pmn n a = pmn n b) : a = b := by
  rcases Nat.lt_trichotomy a b with z | z | z
  · have := pmn_up hn z hb; rw [h] at this; omega
  · exact z
  · have := pmn_up hn z ha; rw [h] at this; omega
/-- the number of an arrangement -/
def lx (n : Nat) (f : Nat → Nat) : Nat := (List.range n).foldl (fun a i => a + ((List.range n).countP (fun j => decide (i < j) && decide (f j < f i))) * fac (n - 1 - i)) 0
def t5 (a b c d e : Nat) (i : Nat) : Nat := if i = 0 then a else if i = 1 then b else if i = 2 then c else if i = 3 then d else e
def okn (n : Nat) (f : Nat → Nat) : Bool := !((List.range n).all fun i => (List.range i).all fun j => f i != f j) || (decide (lx n f < fac n) && (List.range n).all fun i => gim n (lx n f) i == f i)
theorem okn_use {n : Nat} {f : Nat → Nat} (h : okn n f = true) (hf : ∀ i j, i < n → j < i → f i ≠ f j) : ∃ num, num < fac n ∧ ∀ i, i < n → gim n num i = f i := by
  have h1 : ((List.range n).all fun i => (List.range i).all fun j => f i != f j) = true := by
    refine List.all_eq_true.mpr fun i hi => List.all_eq_true.mpr fun j hj => ?_
    exact bne_iff_ne.mpr (hf i j (List.mem_range.mp hi) (List.mem_range.mp hj))
  unfold okn at h
  rw [h1, Bool.not_true, Bool.false_or, Bool.and_eq_true] at h
  exact ⟨_, of_decide_eq_true h.1, fun i hi => eq_of_beq (List.all_eq_true.mp h.2 i (List.mem_range.mpr hi))⟩
theorem onto1 : ∀ a, a < 1 → okn 1 (t5 a 0 0 0 0) = true := by decide +kernel
theorem onto2 : ∀ a, a < 2 → ∀ b, b < 2 → okn 2 (t5 a b 0 0 0) = true := by decide +kernel
theorem onto3 : ∀ a, a < 3 → ∀ b, b < 3 → ∀ c, c < 3 → okn 3 (t5 a b c 0 0) = true := by decide +kernel
theorem onto4 : ∀ a, a < 4 → ∀ b, b < 4 → ∀ c, c < 4 → ∀ d, d < 4 → okn 4 (t5 a b c d 0) = true := by decide +kernel
theorem onto5 : ∀ a, a < 5 → ∀ b, b < 5 → ∀ c, c < 5 → ∀ d, d < 5 → ∀ e, e < 5 → okn 5 (t5 a b c d e) = true := by decide +kernel
theorem pmn_onto {n : Nat} (h1 : 1 ≤ n) (hn : n < 6) {p : Nat → Nat} (hp : IsN n p) : ∃ num, num < fac n ∧ pmn n num = p := by
  have hl : ∀ i, i < n → p i < n := fun i hi => hp.lt (by omega) hi
  have use : ∀ f : Nat → Nat, okn n f = true → (∀ i, i < n → f i = p i) → ∃ num, num < fac n ∧ ∀ i, i < n → gim n num i = p i := fun f h e => by
    obtain ⟨num, g1, g2⟩ := okn_use h (fun i j hi hj z => by
      rw [e i hi, e j (by omega)] at z
      have := hp.inj z
      omega)
    exact ⟨num, g1, fun i hi => by rw [g2 i hi, e i hi]⟩
  have key : ∃ num, num < fac n ∧ ∀ i, i < n → gim n num i = p i := by
    rcases (show n = 1 ∨ n = 2 ∨ n = 3 ∨ n = 4 ∨ n = 5 by omega) with rfl | rfl | rfl | rfl | rfl
    · exact use _ (onto1 _ (hl 0 (by omega))) (fun i hi => by rcases (show i = 0 by omega) with rfl <;> rfl)
    · exact use _ (onto2 _ (hl 0 (by omega)) _ (hl 1 (by omega))) (fun i hi => by rcases (show i = 0 ∨ i = 1 by omega) with rfl | rfl <;> rfl)
    · exact use _ (onto3 _ (hl 0 (by omega)) _ (hl 1 (by omega)) _ (hl 2 (by omega))) (fun i hi => by rcases (show i = 0 ∨ i = 1 ∨ i = 2 by omega) with rfl | rfl | rfl <;> rfl)
    · exact use _ (onto4 _ (hl 0 (by omega)) _ (hl 1 (by omega)) _ (hl 2 (by omega)) _ (hl 3 (by omega))) (fun i hi => by rcases (show i = 0 ∨ i = 1 ∨ i = 2 ∨ i = 3 by omega) with rfl | rfl | rfl | rfl <;> rfl)
    · exact use _ (onto5 _ (hl 0 (by omega)) _ (hl 1 (by omega)) _ (hl 2 (by omega)) _ (hl 3 (by omega)) _ (hl 4 (by omega))) (fun i hi => by rcases (show i = 0 ∨ i = 1 ∨ i = 2 ∨ i = 3 ∨ i = 4 by omega) with rfl | rfl | rfl | rfl | rfl <;> rfl)
  obtain ⟨num, h2, h3⟩ := key
  exact ⟨num, h2, (pmn_N hn h2).ext hp (fun i hi => by rw [pmn_in hi, h3 i hi])⟩
end
