def lat (D : Nat → Int32) (P : Nat → Bool) (day : Int32) : Nat → Int32
  | 0 => -1
  | f + 1 => if P f = true then (if D f ≤ day then (if lat D P day f = -1 then nI f else if D f < D (lat D P day f).toNatClampNeg then lat D P day f else nI f) else lat D P day f) else lat D P day f
theorem lat_or (D : Nat → Int32) (P : Nat → Bool) (day : Int32) : ∀ n, lat D P day n = -1 ∨ ∃ g, g < n ∧ lat D P day n = nI g ∧ P g = true := by
  intro n
  induction n with
  | zero => exact Or.inl rfl
  | succ n ih =>
    have keep : lat D P day n = -1 ∨ ∃ g, g < n + 1 ∧ lat D P day n = nI g ∧ P g = true := by
      rcases ih with h | ⟨g, h1, h2, h3⟩
      · exact Or.inl h
      · exact Or.inr ⟨g, by omega, h2, h3⟩
    rw [lat]
    by_cases c1 : P n = true
    · rw [if_pos c1]
      by_cases c2 : D n ≤ day
      · rw [if_pos c2]
        by_cases c3 : lat D P day n = -1
        · rw [if_pos c3]; exact Or.inr ⟨n, by omega, rfl, c1⟩
        · rw [if_neg c3]
          by_cases c4 : D n < D (lat D P day n).toNatClampNeg
          · rw [if_pos c4]; exact keep
          · rw [if_neg c4]; exact Or.inr ⟨n, by omega, rfl, c1⟩
      · rw [if_neg c2]; exact keep
    · rw [if_neg c1]; exact keep
theorem lat_congr {D D' : Nat → Int32} {P P' : Nat → Bool} {day : Int32} : ∀ {n : Nat}, n ≤ 180 → (∀ f, f < n → P f = P' f) → (∀ f, f < n → P f = true → D f = D' f) → lat D P day n = lat D' P' day n := by
  intro n
  induction n with
  | zero => intro _ _ _; rfl
  | succ n ih =>
    intro hn h1 h2
    have e := ih (by omega) (fun f hf => h1 f (by omega)) (fun f hf => h2 f (by omega))
    rw [lat, lat, ← h1 n (by omega), ← e]
    by_cases c1 : P n = true
    · rw [if_pos c1, if_pos c1, ← h2 n (by omega) c1]
      rcases lat_or D P day n with c | ⟨g, hg, eg, pg⟩
      · rw [if_pos c, if_pos c]
      · rw [eg, nI_clamp (by omega), ← h2 g (by omega) pg]
    · rw [if_neg c1, if_neg c1]
theorem laterOf_eq {S : ST} {f n : Nat} (hf : f < 180) (b day : Int32) (hb : b = -1 ∨ ∃ g, g < 180 ∧ b = nI g) : x0_laterOf S b (nI f) day = some (if S.2.1 14 f ≤ day then (if b = -1 then nI f else if S.2.1 14 f < S.2.1 14 b.toNatClampNeg then b else nI f) else b, S) := by
  unfold x0_laterOf
  rw [G_in hf (by decide), nI_clamp (by omega)]
  by_cases c1 : S.2.1 14 f ≤ day
  · rw [if_pos c1, if_pos c1]
    by_cases c2 : b = -1
    · rw [if_pos c2, if_pos c2]
    · rw [if_neg c2, if_neg c2]
      obtain ⟨g, hg, rfl⟩ := hb.resolve_left c2
      rw [G_in hf (by decide), G_in hg (by decide)]
      by_cases c3 : S.2.1 14 f < S.2.1 14 (nI g).toNatClampNeg
      · rw [if_pos c3, if_pos c3]
      · rw [if_neg c3, if_neg c3]
  · rw [if_neg c1, if_neg c1]
theorem lat_b {D : Nat → Int32} {P : Nat → Bool} {day : Int32} {n : Nat} (hn : n ≤ 180) : lat D P day n = -1 ∨ ∃ g, g < 180 ∧ lat D P day n = nI g := by
  rcases lat_or D P day n with c | ⟨g, hg, eg, -⟩
  · exact Or.inl c
  · exact Or.inr ⟨g, by omega, eg⟩
/-- the latest SITS by seat, by member: the class's loops -/
theorem sit_h6 (K : ST → Int32 → Int32 → Int32 → Int32 → Option (Int32 × ST)) (S : ST) (seat day : Int32) {n : Nat} (hn : n ≤ 180) (e : Nat) : ∀ j f, f + j = n → x0_sitter_h6 K (j + 1 + e) S seat day (nI n) (lat (S.2.1 14) (fun f => decide (S.2.1 13 f = 5) && decide (S.2.1 16 f = seat)) day f) (nI f) = K S seat day (nI n) (lat (S.2.1 14) (fun f => decide (S.2.1 13 f = 5) && decide (S.2.1 16 f = seat)) day n) := by
  intro j
  induction j with
  | zero =>
    intro f hf
    rw [show 0 + 1 + e = e + 1 by omega, x0_sitter_h6, if_pos (nI_le (by omega) (by omega)), show f = n by omega]
  | succ j ih =>
    intro f hf
    rw [show j + 1 + 1 + e = (j + 1 + e) + 1 by omega, x0_sitter_h6, if_neg (nI_ge (by omega) (by omega)), G_in (by omega) (by decide), nI_clamp (by omega)]
    rw [← ih (f + 1) (by omega)]
    have hb := lat_b (D := S.2.1 14) (P := fun f => decide (S.2.1 13 f = 5) && decide (S.2.1 16 f = seat)) (day := day) (show f ≤ 180 by omega)
    unfold x0_sitter_j45
    by_cases c1 : S.2.1 13 f = 5
    · rw [if_pos c1, G_in (by omega) (by decide)]
      by_cases c2 : S.2.1 16 f = seat
      · rw [if_pos c2, laterOf_eq (n := n) (by omega) _ _ hb, cal_s]
        simp only [lat, c1, c2, decide_true, Bool.and_self, if_true, nI_1]
      · rw [if_neg c2]
        simp only [lat, c1, c2, decide_true, decide_false, Bool.and_false, Bool.false_eq_true, if_false, nI_1]
    · rw [if_neg c1]
      simp only [lat, c1, decide_false, Bool.false_and, Bool.false_eq_true, if_false, nI_1]
theorem sit_h75 (K : ST → Int32 → Int32 → Int32 → Option (Int32 × ST)) (S : ST) (seat day mem : Int32) {n : Nat} (hn : n ≤ 180) (e : Nat) : ∀ j f, f + j = n → x0_sitter_h75 K (j + 1 + e) S seat day (nI n) mem (lat (S.2.1 14) (fun f => decide (S.2.1 13 f = 5) && decide (S.2.1 20 f = mem)) day f) (nI f) = K S seat mem (lat (S.2.1 14) (fun f => decide (S.2.1 13 f = 5) && decide (S.2.1 20 f = mem)) day n) := by
  intro j
  induction j with
  | zero =>
    intro f hf
    rw [show 0 + 1 + e = e + 1 by omega, x0_sitter_h75, if_pos (nI_le (by omega) (by omega)), show f = n by omega]
  | succ j ih =>
    intro f hf
    rw [show j + 1 + 1 + e = (j + 1 + e) + 1 by omega, x0_sitter_h75, if_neg (nI_ge (by omega) (by omega)), G_in (by omega) (by decide), nI_clamp (by omega)]
    rw [← ih (f + 1) (by omega)]
    have hb := lat_b (D := S.2.1 14) (P := fun f => decide (S.2.1 13 f = 5) && decide (S.2.1 20 f = mem)) (day := day) (show f ≤ 180 by omega)
    unfold x0_sitter_j115
    by_cases c1 : S.2.1 13 f = 5
    · rw [if_pos c1, G_in (by omega) (by decide)]
      by_cases c2 : S.2.1 20 f = mem
      · rw [if_pos c2, laterOf_eq (n := n) (by omega) _ _ hb, cal_s]
        simp only [lat, c1, c2, decide_true, Bool.and_self, if_true, nI_1]
      · rw [if_neg c2]
        simp only [lat, c1, c2, decide_true, decide_false, Bool.and_false, Bool.false_eq_true, if_false, nI_1]
    · rw [if_neg c1]
      simp only [lat, c1, decide_false, Bool.false_and, Bool.false_eq_true, if_false, nI_1]
/-- the reference's loop -/
theorem latest_h6 (S : ST) (by_ : Int32) (which day : Int32) {n : Nat} (hn : n ≤ 180) (e : Nat) : ∀ j f, f + j = n → m_latest_h6 (j + 1 + e) S by_ which day (nI n) (lat (S.2.1 25) (fun f => decide (S.2.1 24 f = 1) && decide ((if by_ = 0 then S.2.1 26 f else S.2.1 27 f) = which)) day f) (nI f) = some (lat (S.2.1 25) (fun f => decide (S.2.1 24 f = 1) && decide ((if by_ = 0 then S.2.1 26 f else S.2.1 27 f) = which)) day n, S) := by
  intro j
  induction j with
  | zero =>
    intro f hf
    rw [show 0 + 1 + e = e + 1 by omega, m_latest_h6, if_pos (nI_le (by omega) (by omega)), show f = n by omega]
  | succ j ih =>
    intro f hf
    rw [show j + 1 + 1 + e = (j + 1 + e) + 1 by omega, m_latest_h6, if_neg (nI_ge (by omega) (by omega)), G_in (by omega) (by decide), nI_clamp (by omega)]
    rw [← ih (f + 1) (by omega)]
    have hb := lat_b (D := S.2.1 25) (P := fun f => decide (S.2.1 24 f = 1) && decide ((if by_ = 0 then S.2.1 26 f else S.2.1 27 f) = which)) (day := day) (show f ≤ 180 by omega)
    unfold m_latest_j56 m_latest_j86 m_latest_j90
    simp only [G_in (show f < 180 by omega) (by decide : 180 < 2 ^ 31), nI_clamp (show f < 2 ^ 31 by omega), nI_1]
    by_cases c1 : S.2.1 24 f = 1
    · rw [if_pos c1]
      by_cases c2 : day < S.2.1 25 f
      · have c2' : ¬ S.2.1 25 f ≤ day := by rw [Int32.lt_iff_toInt_lt] at c2; rw [Int32.le_iff_toInt_le]; omega
        simp only [lat, c2, c2', if_true, if_false, ite_self]
      · have c2' : S.2.1 25 f ≤ day := by rw [Int32.lt_iff_toInt_lt] at c2; rw [Int32.le_iff_toInt_le]; omega
        rw [if_neg c2]
        have key : ∀ x : Int32, (if by_ = 0 then S.2.1 26 f else S.2.1 27 f) = x → (if x = which then (if lat (S.2.1 25) (fun f => decide (S.2.1 24 f = 1) && decide ((if by_ = 0 then S.2.1 26 f else S.2.1 27 f) = which)) day f = -1 then m_latest_h6 (j + 1 + e) S by_ which day (nI n) (nI f) (nI (f + 1)) else G (inb (lat (S.2.1 25) (fun f => decide (S.2.1 24 f = 1) && decide ((if by_ = 0 then S.2.1 26 f else S.2.1 27 f) = which)) day f) 180) (if S.2.1 25 f < S.2.1 25 (lat (S.2.1 25) (fun f => decide (S.2.1 24 f = 1) && decide ((if by_ = 0 then S.2.1 26 f else S.2.1 27 f) = which)) day f).toNatClampNeg then m_latest_h6 (j + 1 + e) S by_ which day (nI n) (lat (S.2.1 25) (fun f => decide (S.2.1 24 f = 1) && decide ((if by_ = 0 then S.2.1 26 f else S.2.1 27 f) = which)) day f) (nI (f + 1)) else m_latest_h6 (j + 1 + e) S by_ which day (nI n) (nI f) (nI (f + 1)))) else m_latest_h6 (j + 1 + e) S by_ which day (nI n) (lat (S.2.1 25) (fun f => decide (S.2.1 24 f = 1) && decide ((if by_ = 0 then S.2.1 26 f else S.2.1 27 f) = which)) day f) (nI (f + 1))) = m_latest_h6 (j + 1 + e) S by_ which day (nI n) (lat (S.2.1 25) (fun f => decide (S.2.1 24 f = 1) && decide ((if by_ = 0 then S.2.1 26 f else S.2.1 27 f) = which)) day (f + 1)) (nI (f + 1)) := by
          intro x hx
          by_cases c3 : x = which
          · rw [if_pos c3]
            by_cases c4 : lat (S.2.1 25) (fun f => decide (S.2.1 24 f = 1) && decide ((if by_ = 0 then S.2.1 26 f else S.2.1 27 f) = which)) day f = -1
            · rw [if_pos c4]
              simp only [lat, c1, hx, c3, c2', c4, decide_true, Bool.and_self, if_true]
            · rw [if_neg c4]
              obtain ⟨g, hg, eg⟩ := hb.resolve_left c4
              rw [lat]
              simp only [c1, hx, c3, c2', decide_true, Bool.and_self, if_true, c4, if_false]
              rw [eg, G_in hg (by decide)]
              by_cases c5 : S.2.1 25 f < S.2.1 25 (nI g).toNatClampNeg
              · rw [if_pos c5, if_pos c5]
              · rw [if_neg c5, if_neg c5]
          · rw [if_neg c3]
            simp only [lat, c1, hx, c3, decide_true, decide_false, Bool.and_false, Bool.false_eq_true, if_false]
        by_cases c3 : by_ = 0
        · rw [if_pos c3]; exact key _ (by rw [if_pos c3])
        · rw [if_neg c3]; exact key _ (by rw [if_neg c3])
    · rw [if_neg c1]
      simp only [lat, c1, decide_false, Bool.false_and, Bool.false_eq_true, if_false]
