def rb (x : Int32) (n : Nat) : Bool := decide (0 ≤ x.toInt ∧ x.toInt < n)
def wb (x : Int32) : Bool := decide (1 ≤ x.toInt ∧ x.toInt ≤ 999)
def bit (b : Bool) : Int32 := if b = true then 1 else 0
theorem rb_rng {x : Int32} {n : Nat} (hn : n < 2 ^ 31) (h : rb x n = true) : rng x n := by
  unfold rb at h
  rw [decide_eq_true_eq] at h
  exact vp_in_of (vp_in_iff.mpr h) hn
theorem rng_rb {x : Int32} {n : Nat} (hn : n < 2 ^ 31) (h : rng x n) : rb x n = true := by
  obtain ⟨j, hj, rfl⟩ := h
  unfold rb
  rw [decide_eq_true_eq, nI_toInt (by omega)]
  omega
theorem rb_f {x : Int32} {n : Nat} (hn : n < 2 ^ 31) (h : rb x n = false) : ¬ rng x n := fun q => by rw [rng_rb hn q] at h; cases h
theorem wb_rn {x : Int32} (h : wb x = true) : rn1 x 999 := by
  unfold wb at h
  rw [decide_eq_true_eq] at h
  obtain ⟨j, hj, rfl⟩ := vp_in_of (x := x) (n := 1000) (vp_in_iff.mpr (by omega)) (by decide)
  rw [nI_toInt (by omega)] at h
  exact ⟨j, by omega, by omega, rfl⟩
theorem rn_wb {x : Int32} (h : rn1 x 999) : wb x = true := by
  obtain ⟨j, h1, h2, rfl⟩ := h
  unfold wb
  rw [decide_eq_true_eq, nI_toInt (by omega)]
  omega
theorem wb_f {x : Int32} (h : wb x = false) : ¬ rn1 x 999 := fun q => by rw [rn_wb q] at h; cases h
theorem below_b (x : Int32) (n : Nat) (hn : n < 2 ^ 31) : x11_isBelow x (nI n) = some (bit (rb x n)) := by
  cases h : rb x n
  · exact below_n hn (rb_f hn h)
  · obtain ⟨j, hj, rfl⟩ := rb_rng hn h
    exact below_y hj hn
theorem in_b (x : Int32) (n : Nat) (hn : n + 1 < 2 ^ 31) : m_in x (nI 0) (nI n) = some (bit (rb x (n + 1))) := by
  cases h : rb x (n + 1)
  · exact in_n hn (rb_f hn h)
  · obtain ⟨j, hj, rfl⟩ := rb_rng hn h
    exact in_y (Nat.zero_le j) (by omega) (by omega)
theorem bW (x : Int32) : x11_isWord x = some (bit (wb x)) := by
  cases h : wb x
  · exact word_n (wb_f h)
  · obtain ⟨j, h1, h2, rfl⟩ := wb_rn h
    exact word_y h1 h2
theorem isB_bit (b : Bool) : isB (bit b) = true := by cases b <;> decide
theorem mW (x : Int32) : m_isWord x = some (bit (wb x)) := by
  unfold m_isWord
  have e : m_in x 1 999 = some (bit (wb x)) := by
    cases h : wb x
    · exact in1_n (by decide) (wb_f h)
    · obtain ⟨j, h1, h2, rfl⟩ := wb_rn h
      exact in_y h1 h2 (by decide)
  rw [e, cal0_s, G_t (isB_bit _)]
theorem b2 (x : Int32) : x11_isBelow x 2 = some (bit (rb x 2)) := below_b x 2 (by decide)
theorem b3 (x : Int32) : x11_isBelow x 3 = some (bit (rb x 3)) := below_b x 3 (by decide)
theorem b4 (x : Int32) : x11_isBelow x 4 = some (bit (rb x 4)) := below_b x 4 (by decide)
theorem b6 (x : Int32) : x11_isBelow x 6 = some (bit (rb x 6)) := below_b x 6 (by decide)
theorem b8 (x : Int32) : x11_isBelow x 8 = some (bit (rb x 8)) := below_b x 8 (by decide)
theorem b10 (x : Int32) : x11_isBelow x 10 = some (bit (rb x 10)) := below_b x 10 (by decide)
theorem b100 (x : Int32) : x11_isBelow x 100 = some (bit (rb x 100)) := below_b x 100 (by decide)
theorem b240 (x : Int32) : x11_isBelow x 240 = some (bit (rb x 240)) := below_b x 240 (by decide)
theorem b1000 (x : Int32) : x11_isBelow x 1000 = some (bit (rb x 1000)) := below_b x 1000 (by decide)
theorem n1 (x : Int32) : m_in x 0 1 = some (bit (rb x 2)) := in_b x 1 (by decide)
theorem n2 (x : Int32) : m_in x 0 2 = some (bit (rb x 3)) := in_b x 2 (by decide)
theorem n3 (x : Int32) : m_in x 0 3 = some (bit (rb x 4)) := in_b x 3 (by decide)
theorem n5 (x : Int32) : m_in x 0 5 = some (bit (rb x 6)) := in_b x 5 (by decide)
theorem n9 (x : Int32) : m_in x 0 9 = some (bit (rb x 10)) := in_b x 9 (by decide)
theorem n999 (x : Int32) : m_in x 0 999 = some (bit (rb x 1000)) := in_b x 999 (by decide)
theorem mDay (x : Int32) : m_isDay x = some (bit (rb x 100)) := by unfold m_isDay; rw [show m_in x 0 99 = some (bit (rb x 100)) from in_b x 99 (by decide), cal0_s, G_t (isB_bit _)]
theorem mMin (x : Int32) : m_isMinute x = some (bit (rb x 240)) := by unfold m_isMinute; rw [show m_in x 0 239 = some (bit (rb x 240)) from in_b x 239 (by decide), cal0_s, G_t (isB_bit _)]
theorem mSeat (x : Int32) : m_isSeat x = some (bit (rb x 10)) := by unfold m_isSeat; rw [n9, cal0_s, G_t (isB_bit _)]
theorem mMem (x : Int32) : m_isMember x = some (bit (rb x 8)) := by unfold m_isMember; rw [show m_in x 0 7 = some (bit (rb x 8)) from in_b x 7 (by decide), cal0_s, G_t (isB_bit _)]
/-- a check: on with B, or out with A -/
theorem chk {α : Type} (b : Bool) (A : Option α) (B : Int32 → Option α) : (cal0 (some (bit b)) fun r => if r = 0 then A else B r) = if b = true then B 1 else A := by cases b <;> rfl
def tellX (S : ST) (n : Nat) (k d w : Int32) : ST := sI (sA (sA (sA S 13 (upd (S.2.1 13) n k)) 14 (upd (S.2.1 14) n d)) 17 (upd (S.2.1 17) n w)) 11 (nI (n + 1))
theorem tell_y {S : ST} {n : Nat} (hn : n < 180) (e : S.1 11 = nI n) (k d w : Int32) : x0_tell S k d w = some (nI n, tellX S n k d w) := by
  unfold x0_tell
  simp only [show ∀ f, (sA S 13 f).1 11 = S.1 11 from fun _ => rfl, show ∀ f g, (sA (sA S 13 f) 14 g).1 11 = S.1 11 from fun _ _ => rfl, show ∀ f g h, (sA (sA (sA S 13 f) 14 g) 17 h).1 11 = S.1 11 from fun _ _ _ => rfl, e, show nI n < 180 from nI_lt hn (by decide), if_true, G_in hn (by decide : 180 < 2 ^ 31), nI_clamp (show n < 2 ^ 31 by omega), nI_1]
  show some (nI (n + 1) - 1, _) = _
  rw [show nI (n + 1) - 1 = nI n from nI_pred n]
  rfl
theorem tell_n {S : ST} (e : S.1 11 = nI 180) (k d w : Int32) : x0_tell S k d w = some (-1, S) := by
  unfold x0_tell
  rw [e, if_neg (by decide)]
def tellM (S : ST) (n : Nat) (s d a b c dd e f : Int32) : ST := sI (sA (sA (sA (sA (sA (sA (sA (sA S 24 (upd (S.2.1 24) n s)) 25 (upd (S.2.1 25) n d)) 26 (upd (S.2.1 26) n a)) 27 (upd (S.2.1 27) n b)) 28 (upd (S.2.1 28) n c)) 29 (upd (S.2.1 29) n dd)) 30 (upd (S.2.1 30) n e)) 31 (upd (S.2.1 31) n f)) 18 (nI (n + 1))
theorem tells_y {S : ST} {n : Nat} (hn : n < 180) (h : S.1 18 = nI n) (s d a b c dd e f : Int32) : m_tells S s d a b c dd e f = some (nI n, tellM S n s d a b c dd e f) := by
  unfold m_tells
  simp only [show ∀ (T : ST) k g, (sA T k g).1 18 = T.1 18 from fun _ _ _ => rfl, h, G_in hn (by decide : 180 < 2 ^ 31), nI_clamp (show n < 2 ^ 31 by omega), nI_1]
  show some (nI (n + 1) - 1, _) = _
  rw [show nI (n + 1) - 1 = nI n from nI_pred n]
  rfl
theorem nI180 {n : Nat} (hn : n ≤ 180) (h : ¬ n = 180) : ¬ nI n = 180 := fun e => h ((nI_eq (by omega) (by decide)).mp (show nI n = nI 180 from e))
theorem nI_m1 {n : Nat} (hn : n < 2 ^ 31) : ¬ nI n = -1 := fun e => by
  have h1 := nI_pos hn
  rw [e] at h1
  exact h1 (by decide)
theorem lineOf_c {Sm Sm' : ST} {n f : Nat} {x : Int32} (hf : f ≤ n) (hm : ∀ g, g < n → Sm'.2.1 24 g = Sm.2.1 24 g) (h : lineOf Sm f x) : lineOf Sm' f x := by
  obtain ⟨g, h1, h2, h3⟩ := h
  exact ⟨g, h1, h2, by rw [hm g (by omega)]; exact h3⟩
theorem RF_add {Sx Sm Sx' Sm' : ST} {n : Nat} (hn : n < 180) (h : ∀ f, f < n → factR Sx Sm f) (hx : ∀ k, 13 ≤ k → k ≤ 22 → ∀ f, f < n → Sx'.2.1 k f = Sx.2.1 k f) (hm : ∀ k, 24 ≤ k → k ≤ 31 → ∀ f, f < n → Sm'.2.1 k f = Sm.2.1 k f) (ex : Sx'.1 11 = nI (n + 1)) (em : Sm'.1 18 = nI (n + 1)) (hnew : factR Sx' Sm' n) : RF Sx' Sm' := by
  refine ⟨n + 1, by omega, ex, em, fun f hf => ?_⟩
  by_cases c : f = n
  · subst c; exact hnew
  · have hf : f < n := by omega
    obtain ⟨h0, h1, h2, h3, h4, h5, h6, h7, h8, h9, h10⟩ := h f hf
    unfold factR
    rw [hx 13 (by decide) (by decide) f hf, hx 14 (by decide) (by decide) f hf, hx 15 (by decide) (by decide) f hf, hx 16 (by decide) (by decide) f hf, hx 17 (by decide) (by decide) f hf, hx 18 (by decide) (by decide) f hf, hx 19 (by decide) (by decide) f hf, hx 20 (by decide) (by decide) f hf, hx 21 (by decide) (by decide) f hf, hx 22 (by decide) (by decide) f hf, hm 24 (by decide) (by decide) f hf, hm 25 (by decide) (by decide) f hf, hm 26 (by decide) (by decide) f hf, hm 27 (by decide) (by decide) f hf, hm 28 (by decide) (by decide) f hf, hm 29 (by decide) (by decide) f hf, hm 30 (by decide) (by decide) f hf, hm 31 (by decide) (by decide) f hf]
    have hl := fun x => lineOf_c (x := x) (show f ≤ n by omega) (fun g hg => hm 24 (by decide) (by decide) g hg)
    refine ⟨h0, h1, h2, h3, h4, fun c => ?_, fun c => ?_, h7, fun c => ?_, h9, h10⟩
    · obtain ⟨q1, q2, q3⟩ := h5 c; exact ⟨q1, hl _ q2, q3⟩
    · obtain ⟨q1, q2, q3⟩ := h6 c; exact ⟨q1, hl _ q2, q3⟩
    · obtain ⟨q1, q2, q3⟩ := h8 c; exact ⟨q1, hl _ q2, q3⟩
