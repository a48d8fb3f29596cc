theorem G_t {α : Type} {b : Bool} {x : Option α} (h : b = true) : G b x = x := by unfold G; rw [if_pos h]
theorem inb_nI {a n : Nat} (h : a < n) (hn : n < 2 ^ 31) : inb (nI a) n = true := by
  unfold inb
  rw [nI_clamp (by omega)]
  simp only [Bool.and_eq_true, decide_eq_true_eq]
  exact ⟨nI_pos (by omega), h⟩
theorem G_in {α : Type} {x : Option α} {a n : Nat} (h : a < n) (hn : n < 2 ^ 31) : G (inb (nI a) n) x = x := G_t (inb_nI h hn)
theorem cal_s {α β : Type} (r : α) (S : ST) (k : α → ST → Option β) : cal (some (r, S)) k = k r S := rfl
theorem calV_s {β : Type} (S : ST) (k : ST → Option β) : calV (some S) k = k S := rfl
theorem cal0_s {α β : Type} (r : α) (k : α → Option β) : cal0 (some r) k = k r := rfl
def rng (x : Int32) (n : Nat) : Prop := ∃ j, j < n ∧ x = nI j
theorem rng_or (x : Int32) {n : Nat} (hn : n < 2 ^ 31) : (x < 0 ∨ nI n ≤ x) ∨ rng x n := by
  rcases pk_ix x hn with h | h | h
  · exact Or.inl (Or.inl h)
  · exact Or.inl (Or.inr h)
  · exact Or.inr h
theorem not_rng {x : Int32} {n : Nat} (hn : n < 2 ^ 31) (h : ¬ rng x n) : x < 0 ∨ nI n ≤ x := (rng_or x hn).resolve_right h
theorem below_y {j n : Nat} (h : j < n) (hn : n < 2 ^ 31) : x11_isBelow (nI j) (nI n) = some 1 := by
  unfold x11_isBelow
  rw [if_neg (nI_pos (by omega)), if_neg (nI_ge h hn)]
theorem below_n {x : Int32} {n : Nat} (hn : n < 2 ^ 31) (h : ¬ rng x n) : x11_isBelow x (nI n) = some 0 := by
  unfold x11_isBelow
  rcases not_rng hn h with q | q
  · rw [if_pos q]
  · by_cases c : x < 0
    · rw [if_pos c]
    · rw [if_neg c, if_pos q]
theorem in_y {j a b : Nat} (h1 : a ≤ j) (h2 : j ≤ b) (hb : b < 2 ^ 31) : m_in (nI j) (nI a) (nI b) = some 1 := by
  unfold m_in
  rw [if_neg (nI_nlt h1 (by omega)), if_neg (nI_nlt h2 hb)]
theorem lt_of_nI {x : Int32} {n : Nat} (hn : n + 1 < 2 ^ 31) (h : nI (n + 1) ≤ x) : nI n < x := by
  rw [Int32.le_iff_toInt_le, nI_toInt hn] at h
  rw [Int32.lt_iff_toInt_lt, nI_toInt (by omega)]
  omega
theorem in_n {x : Int32} {n : Nat} (hn : n + 1 < 2 ^ 31) (h : ¬ rng x (n + 1)) : m_in x (nI 0) (nI n) = some 0 := by
  unfold m_in
  rcases not_rng hn h with q | q
  · rw [if_pos (show x < nI 0 from q)]
  · by_cases c : x < nI 0
    · rw [if_pos c]
    · rw [if_neg c, if_pos (lt_of_nI hn q)]
/-- a number of 1 .. n -/
def rn1 (x : Int32) (n : Nat) : Prop := ∃ j, 1 ≤ j ∧ j ≤ n ∧ x = nI j
theorem rn1_no {x : Int32} {n : Nat} (hn : n + 1 < 2 ^ 31) (h : ¬ rn1 x n) : x < nI 1 ∨ nI n < x := by
  rcases pk_ix x hn with q | q | ⟨j, hj, rfl⟩
  · left
    rw [Int32.lt_iff_toInt_lt] at q ⊢
    rw [nI_toInt (by decide)]
    have : (0 : Int32).toInt = 0 := by decide
    omega
  · right; exact lt_of_nI hn q
  · by_cases c : 1 ≤ j
    · exact absurd ⟨j, c, by omega, rfl⟩ h
    · left; rw [show j = 0 by omega]; exact nI_lt (by decide) (by decide)
theorem in1_n {x : Int32} {n : Nat} (hn : n + 1 < 2 ^ 31) (h : ¬ rn1 x n) : m_in x (nI 1) (nI n) = some 0 := by
  unfold m_in
  rcases rn1_no hn h with q | q
  · rw [if_pos q]
  · by_cases c : x < nI 1
    · rw [if_pos c]
    · rw [if_neg c, if_pos q]
theorem word_y {j : Nat} (h1 : 1 ≤ j) (h2 : j ≤ 999) : x11_isWord (nI j) = some 1 := by
  unfold x11_isWord
  rw [if_neg (show ¬ nI j < 1 from nI_nlt h1 (by omega)), if_neg (show ¬ (1000 : Int32) ≤ nI j from nI_ge (b := 1000) (by omega) (by decide))]
theorem word_n {x : Int32} (h : ¬ rn1 x 999) : x11_isWord x = some 0 := by
  unfold x11_isWord
  rcases rn1_no (by decide) h with q | q
  · rw [if_pos (show x < 1 from q)]
  · by_cases c : x < 1
    · rw [if_pos c]
    · rw [if_neg c, if_pos]
      have q : nI 999 < x := q
      show nI 1000 ≤ x
      rw [Int32.lt_iff_toInt_lt, nI_toInt (by decide)] at q
      rw [Int32.le_iff_toInt_le, nI_toInt (by decide)]
      omega
/-! the relation between the two states -/
def FK (kx km : Int32) : Prop := (kx = 4 ∧ km = 0) ∨ (kx = 5 ∧ km = 1) ∨ (kx = 6 ∧ km = 2) ∨ (kx = 7 ∧ km = 3) ∨ (kx = 0 ∧ km = 4) ∨ (kx = 1 ∧ km = 5) ∨ (kx = 2 ∧ km = 6) ∨ (kx = 3 ∧ km = 7) ∨ (kx = 8 ∧ km = 8) ∨ (kx = 9 ∧ km = 9)
def lineOf (Sm : ST) (f : Nat) (x : Int32) : Prop := ∃ g, g < f ∧ x = nI g ∧ Sm.2.1 24 g = 0
def factR (Sx Sm : ST) (f : Nat) : Prop := FK (Sx.2.1 13 f) (Sm.2.1 24 f)
  ∧ (Sm.2.1 24 f = 0 → Sx.2.1 14 f = Sm.2.1 25 f ∧ rng (Sm.2.1 25 f) 100 ∧ Sx.2.1 15 f = Sm.2.1 26 f ∧ Sx.2.1 22 f = Sm.2.1 27 f ∧ Sx.2.1 16 f = Sm.2.1 28 f ∧ Sx.2.1 17 f = Sm.2.1 29 f ∧ rng (Sm.2.1 29 f) 1000 ∧ (Sm.2.1 27 f = 1 → Sx.2.1 18 f = Sm.2.1 30 f ∧ Sx.2.1 19 f = Sm.2.1 31 f))
  ∧ (Sm.2.1 24 f = 1 → Sx.2.1 14 f = Sm.2.1 25 f ∧ Sx.2.1 20 f = Sm.2.1 26 f ∧ rng (Sm.2.1 26 f) 8 ∧ Sx.2.1 16 f = Sm.2.1 27 f)
  ∧ (Sm.2.1 24 f = 2 → Sx.2.1 20 f = Sm.2.1 26 f ∧ Sx.2.1 22 f = Sm.2.1 27 f ∧ rng (Sm.2.1 26 f) 8)
  ∧ (Sm.2.1 24 f = 3 → Sx.2.1 18 f = Sm.2.1 26 f ∧ Sx.2.1 19 f = Sm.2.1 27 f ∧ Sx.2.1 17 f = Sm.2.1 28 f)
  ∧ (Sm.2.1 24 f = 4 → Sx.2.1 21 f = Sm.2.1 26 f ∧ lineOf Sm f (Sm.2.1 26 f) ∧ Sx.2.1 14 f = Sm.2.1 25 f ∧ rng (Sm.2.1 25 f) 100 ∧ Sx.2.1 17 f = Sm.2.1 27 f ∧ rng (Sm.2.1 27 f) 1000)
  ∧ (Sm.2.1 24 f = 5 → Sx.2.1 21 f = Sm.2.1 26 f ∧ lineOf Sm f (Sm.2.1 26 f) ∧ Sx.2.1 17 f = Sm.2.1 27 f)
  ∧ (Sm.2.1 24 f = 6 → Sx.2.1 21 f = Sm.2.1 26 f ∧ Sx.2.1 14 f = Sm.2.1 25 f)
  ∧ (Sm.2.1 24 f = 7 → Sx.2.1 21 f = Sm.2.1 26 f ∧ lineOf Sm f (Sm.2.1 26 f) ∧ Sx.2.1 14 f = Sm.2.1 25 f ∧ rng (Sm.2.1 25 f) 100)
  ∧ (Sm.2.1 24 f = 8 → Sx.2.1 17 f = Sm.2.1 26 f ∧ rn1 (Sm.2.1 26 f) 999 ∧ Sx.2.1 22 f = Sm.2.1 27 f ∧ rn1 (Sm.2.1 27 f) 999 ∧ Sx.2.1 14 f = Sm.2.1 25 f)
  ∧ (Sm.2.1 24 f = 9 → Sx.2.1 21 f = Sm.2.1 26 f ∧ Sx.2.1 20 f = Sm.2.1 27 f ∧ rng (Sm.2.1 27 f) 8 ∧ Sx.2.1 22 f = Sm.2.1 28 f ∧ (Sm.2.1 28 f = 0 ∨ Sm.2.1 28 f = 1))
def RT (Sx Sm : ST) : Prop := ∃ t, t ≤ 2000 ∧ Sx.1 1 = nI t ∧ Sm.1 1 = nI t ∧ ∀ j, j < t → Sx.2.1 0 j = Sm.2.1 0 j
def RP (Sx Sm : ST) : Prop := Sx.1 0 = Sm.1 10
def RF (Sx Sm : ST) : Prop := ∃ n, n ≤ 180 ∧ Sx.1 11 = nI n ∧ Sm.1 18 = nI n ∧ ∀ f, f < n → factR Sx Sm f
def RK (Sx Sm : ST) : Prop := ∀ w, w < 3 → ∃ c, c ≤ 12 ∧ Sx.2.1 27 w = nI c ∧ Sm.2.1 34 w = nI c ∧ ∀ i, i < c → Sx.2.1 26 (12 * w + i) = Sm.2.1 33 (12 * w + i)
def RW (Sx Sm : ST) : Prop := (∀ k, k < 4 → Sx.2.1 29 k = Sm.2.1 36 k ∧ rn1 (Sm.2.1 36 k) 6 ∧ Sx.2.1 30 k = Sm.2.1 37 k ∧ rng (Sm.2.1 37 k) 256) ∧ ∃ q, q ≤ 8 ∧ Sx.1 24 = nI q ∧ Sm.1 26 = nI q ∧ ∀ i, i < q → Sx.2.1 33 i = Sm.2.1 39 i
