theorem lat_ne {D : Nat → Int32} {P : Nat → Bool} {day : Int32} {g : Nat} (hp : P g = true) (hd : D g ≤ day) : ∀ {n : Nat}, n ≤ 180 → g < n → ¬ lat D P day n = -1 := by
  intro n
  induction n with
  | zero => intro _ h; exact absurd h (Nat.not_lt_zero g)
  | succ n ih =>
    intro hn hg e
    rw [lat] at e
    by_cases c : g = n
    · subst c
      rw [if_pos hp, if_pos hd] at e
      by_cases c3 : lat D P day g = -1
      · rw [if_pos c3] at e; exact nI_m1 (by omega) e
      · rw [if_neg c3] at e
        by_cases c4 : D g < D (lat D P day g).toNatClampNeg
        · rw [if_pos c4] at e; exact c3 e
        · rw [if_neg c4] at e; exact nI_m1 (by omega) e
    · have h0 := ih (by omega) (by omega)
      by_cases c1 : P n = true
      · rw [if_pos c1] at e
        by_cases c2 : D n ≤ day
        · rw [if_pos c2, if_neg h0] at e
          by_cases c4 : D n < D (lat D P day n).toNatClampNeg
          · rw [if_pos c4] at e; exact h0 e
          · rw [if_neg c4] at e; exact nI_m1 (by omega) e
        · rw [if_neg c2] at e; exact h0 e
      · rw [if_neg c1] at e; exact h0 e
theorem lat_day {D : Nat → Int32} {P : Nat → Bool} {day : Int32} : ∀ {n : Nat} {g : Nat}, n ≤ 180 → g < n → lat D P day n = nI g → D g ≤ day := by
  intro n
  induction n with
  | zero => intro g _ h; exact absurd h (Nat.not_lt_zero g)
  | succ n ih =>
    intro g hn hg e
    have keep : lat D P day n = nI g → D g ≤ day := by
      intro e2
      rcases lat_or D P day n with c | ⟨g2, h1, h2, -⟩
      · rw [c] at e2; exact absurd e2.symm (nI_m1 (by omega))
      · have : g2 = g := (nI_eq (by omega) (by omega)).mp (h2.symm.trans e2)
        subst this
        exact ih (by omega) h1 h2
    have new : D n ≤ day → nI n = nI g → D g ≤ day := fun h e => by rw [← (nI_eq (by omega) (by omega)).mp e]; exact h
    rw [lat] at e
    by_cases c1 : P n = true
    · rw [if_pos c1] at e
      by_cases c2 : D n ≤ day
      · rw [if_pos c2] at e
        by_cases c3 : lat D P day n = -1
        · rw [if_pos c3] at e; exact new c2 e
        · rw [if_neg c3] at e
          by_cases c4 : D n < D (lat D P day n).toNatClampNeg
          · rw [if_pos c4] at e; exact keep e
          · rw [if_neg c4] at e; exact new c2 e
      · rw [if_neg c2] at e; exact keep e
    · rw [if_neg c1] at e; exact keep e
def s2 (r : Int32) : Int32 := if r = -1 then -2 else r
theorem who_rel {Sx Sm : ST} {n m : Nat} (hn : n ≤ 180) (hm : m ≤ n) (hf : ∀ f, f < n → factR Sx Sm f) (seat day : Int32) : ∃ r, x0_sitter Sx seat day (nI m) = some (s2 r, Sx) ∧ m_whoIn Sm seat day (nI m) = some (r, Sm) ∧ (r = -1 ∨ rng r 8) := by
  obtain ⟨e, he⟩ := FU_s (m + 1) (by omega)
  have h1 := sit_h6 x0_sitter_j51 Sx seat day (n := m) (by omega) e m 0 (by omega)
  have h2 := latest_h6 Sm 1 seat day (n := m) (by omega) e m 0 (by omega)
  unfold x0_sitter m_whoIn m_latest
  rw [he]
  rw [show x0_sitter_h6 x0_sitter_j51 (m + 1 + e) Sx seat day (nI m) (-1) 0 = _ from h1, show m_latest_h6 (m + 1 + e) Sm 1 seat day (nI m) (-1) 0 = _ from h2, cal_s]
  have hd : ∀ f, f < m → decide (Sm.2.1 24 f = 1) = true → Sx.2.1 14 f = Sm.2.1 25 f ∧ Sx.2.1 20 f = Sm.2.1 26 f ∧ rng (Sm.2.1 26 f) 8 ∧ Sx.2.1 16 f = Sm.2.1 27 f := fun f h c => (hf f (by omega)).2.2.1 (of_decide_eq_true c)
  have eS : lat (Sx.2.1 14) (fun f => decide (Sx.2.1 13 f = 5) && decide (Sx.2.1 16 f = seat)) day m = lat (Sm.2.1 25) (fun f => decide (Sm.2.1 24 f = 1) && decide ((if (1 : Int32) = 0 then Sm.2.1 26 f else Sm.2.1 27 f) = seat)) day m := by
    refine lat_congr (by omega) (fun f h => ?_) (fun f h c => ?_)
    · show (decide (Sx.2.1 13 f = 5) && decide (Sx.2.1 16 f = seat)) = (decide (Sm.2.1 24 f = 1) && decide (Sm.2.1 27 f = seat))
      rw [FK_5 (hf f (by omega)).1]
      cases c : decide (Sm.2.1 24 f = 1)
      · rfl
      · rw [(hd f h c).2.2.2]
    · rw [Bool.and_eq_true, FK_5 (hf f (by omega)).1] at c
      exact (hd f h c.1).1
  rw [eS]
  generalize hL : lat (Sm.2.1 25) (fun f => decide (Sm.2.1 24 f = 1) && decide ((if (1 : Int32) = 0 then Sm.2.1 26 f else Sm.2.1 27 f) = seat)) day m = b
  unfold x0_sitter_j51
  rcases lat_or (Sm.2.1 25) (fun f => decide (Sm.2.1 24 f = 1) && decide ((if (1 : Int32) = 0 then Sm.2.1 26 f else Sm.2.1 27 f) = seat)) day m with c | ⟨g, hg, eg, pg⟩
  · rw [hL] at c
    rw [if_pos c, if_pos c]
    exact ⟨-1, rfl, rfl, Or.inl rfl⟩
  · rw [hL] at eg
    subst eg
    have hdg := lat_day (by omega) hg hL
    rw [Bool.and_eq_true] at pg
    have hg1 := hd g hg pg.1
    rw [if_neg (nI_m1 (by omega)), if_neg (nI_m1 (by omega)), G_in (by omega) (by decide), G_in (by omega) (by decide), nI_clamp (by omega)]
    have h3 := sit_h75 x0_sitter_j121 Sx seat day (Sx.2.1 20 g) (n := m) (by omega) e m 0 (by omega)
    have h4 := latest_h6 Sm 0 (Sm.2.1 26 g) day (n := m) (by omega) e m 0 (by omega)
    rw [he]
    simp only []
    rw [show x0_sitter_h75 x0_sitter_j121 (m + 1 + e) Sx seat day (nI m) (Sx.2.1 20 g) (-1) 0 = _ from h3, show m_latest_h6 (m + 1 + e) Sm 0 (Sm.2.1 26 g) day (nI m) (-1) 0 = _ from h4, cal_s]
    have eM : lat (Sx.2.1 14) (fun f => decide (Sx.2.1 13 f = 5) && decide (Sx.2.1 20 f = Sx.2.1 20 g)) day m = lat (Sm.2.1 25) (fun f => decide (Sm.2.1 24 f = 1) && decide ((if (0 : Int32) = 0 then Sm.2.1 26 f else Sm.2.1 27 f) = Sm.2.1 26 g)) day m := by
      refine lat_congr (by omega) (fun f h => ?_) (fun f h c => ?_)
      · show (decide (Sx.2.1 13 f = 5) && decide (Sx.2.1 20 f = Sx.2.1 20 g)) = (decide (Sm.2.1 24 f = 1) && decide (Sm.2.1 26 f = Sm.2.1 26 g))
        rw [FK_5 (hf f (by omega)).1]
        cases c : decide (Sm.2.1 24 f = 1)
        · rfl
        · rw [(hd f h c).2.1, hg1.2.1]
      · rw [Bool.and_eq_true, FK_5 (hf f (by omega)).1] at c
        exact (hd f h c.1).1
    rw [eM]
    have hne := lat_ne (D := Sm.2.1 25) (P := fun f => decide (Sm.2.1 24 f = 1) && decide ((if (0 : Int32) = 0 then Sm.2.1 26 f else Sm.2.1 27 f) = Sm.2.1 26 g)) (g := g) (by show (decide (Sm.2.1 24 g = 1) && decide (Sm.2.1 26 g = Sm.2.1 26 g)) = true; rw [pg.1]; simp) hdg (show m ≤ 180 by omega) hg
    obtain ⟨o, ho, eo, po⟩ := (lat_or (Sm.2.1 25) (fun f => decide (Sm.2.1 24 f = 1) && decide ((if (0 : Int32) = 0 then Sm.2.1 26 f else Sm.2.1 27 f) = Sm.2.1 26 g)) day m).resolve_left hne
    rw [Bool.and_eq_true] at po
    have ho1 := hd o ho po.1
    rw [eo]
    unfold x0_sitter_j121
    rw [if_neg (nI_m1 (by omega)), G_in (by omega) (by decide), G_in (by omega) (by decide), nI_clamp (by omega), ho1.2.2.2]
    obtain ⟨q, hq, eq⟩ := hg1.2.2.1
    by_cases c5 : Sm.2.1 27 o = seat
    · rw [if_pos c5, if_pos c5, G_in (by omega) (by decide), hg1.2.1, eq]
      exact ⟨nI q, by rw [s2, if_neg (nI_m1 (by omega))], rfl, Or.inr ⟨q, hq, rfl⟩⟩
    · rw [if_neg c5, if_neg c5]
      exact ⟨-1, rfl, rfl, Or.inl rfl⟩
theorem known_x {S : ST} {n : Nat} (hn : n ≤ 180) (e : S.1 11 = nI n) (x : Int32) : x11_isKnown S x = some (bit (rb x (n + 1)), S) := by
  unfold x11_isKnown
  rw [e]
  cases c : rb x (n + 1)
  · rcases not_rng (by omega) (rb_f (by omega) c) with q | q
    · rw [if_pos q]; rfl
    · by_cases q0 : x < 0
      · rw [if_pos q0]; rfl
      · rw [if_neg q0, if_pos (lt_of_nI (by omega) q)]; rfl
  · obtain ⟨j, hj, rfl⟩ := rb_rng (by omega) c
    rw [if_neg (nI_pos (by omega)), if_neg (nI_nlt (by omega) (by omega))]; rfl
theorem known_m {S : ST} {n : Nat} (hn : n ≤ 180) (e : S.1 18 = nI n) (x : Int32) : m_isKnown S x = some (bit (rb x (n + 1)), S) := by
  unfold m_isKnown
  rw [e]
  cases c : rb x (n + 1)
  · rcases not_rng (by omega) (rb_f (by omega) c) with q | q
    · rw [if_pos q]; rfl
    · by_cases q0 : x < 0
      · rw [if_pos q0]; rfl
      · rw [if_neg q0, if_pos (lt_of_nI (by omega) q)]; rfl
  · obtain ⟨j, hj, rfl⟩ := rb_rng (by omega) c
    rw [if_neg (nI_pos (by omega)), if_neg (nI_nlt (by omega) (by omega))]; rfl
theorem calR (x : Option (Int32 × ST)) : (cal x fun r S => some (r, S)) = x := by cases x <;> rfl
theorem sim_who {Sx Sm : ST} (h : RR Sx Sm) (a0 a1 a2 : Int32) : ∃ r Sx' Sm', x11_who Sx a0 a1 a2 = some (r, Sx') ∧ m_who Sm a0 a1 a2 = some (r, Sm') ∧ RR Sx' Sm' := by
  obtain ⟨hT, hP, ⟨n, hn, f1, f2, hf⟩, hK, hW, hB⟩ := id h
  unfold x11_who m_who
  simp only [b10, b100, mSeat, mDay, known_x hn f1, known_m hn f2, chk, chkS, calR]
  cases rb a0 10
  · exact ⟨_, _, _, rfl, rfl, h⟩
  cases rb a1 100
  · exact ⟨_, _, _, rfl, rfl, h⟩
  cases c : rb a2 (n + 1)
  · exact ⟨_, _, _, rfl, rfl, h⟩
  obtain ⟨m, hm, rfl⟩ := rb_rng (by omega) c
  obtain ⟨r, e1, e2, -⟩ := who_rel hn (show m ≤ n by omega) hf a0 a1
  simp only [if_true, e1, e2, cal_s]
  refine ⟨s2 r, Sx, Sm, rfl, ?_, h⟩
  unfold s2
  by_cases q : r = -1
  · rw [if_pos q, if_pos q]
  · rw [if_neg q, if_neg q]
/-! feed -/
def stp (S : ST) (t : Nat) (b : Int32) : ST := sI (sA S 0 (upd (S.2.1 0) t b)) 1 (nI (t + 1))
def RRt (Sx Sm : ST) (t : Nat) : Prop := (Sx.1 1 = nI t ∧ Sm.1 1 = nI t ∧ ∀ j, j < t → Sx.2.1 0 j = Sm.2.1 0 j) ∧ RP Sx Sm ∧ RF Sx Sm ∧ RK Sx Sm ∧ RW Sx Sm ∧ RBp (bX Sx) (bM Sm) (fM Sm)
theorem stp_rel {Sx Sm : ST} {t : Nat} (h : RRt Sx Sm t) (b : Int32) : RRt (stp Sx t b) (stp Sm t b) (t + 1) := by
  obtain ⟨⟨e1, e2, hb⟩, hP, hF, hK, hW, hB⟩ := h
  refine ⟨⟨rfl, rfl, fun j hj => ?_⟩, hP, hF, hK, hW, hB⟩
  show upd (Sx.2.1 0) t b j = upd (Sm.2.1 0) t b j
  by_cases c : j = t
  · rw [c, pk_us, pk_us]
  · rw [pk_un c, pk_un c]; exact hb j (by omega)
def by4 (w : Int32) (k : Int32) : Int32 := vp_nar .byte (Int8.toInt32 (Int32.toInt8 (w >>> (k &&& 31))))
def stp4 (S : ST) (t : Nat) (w : Int32) : ST := stp (stp (stp (stp S t (by4 w 24)) (t + 1) (by4 w 16)) (t + 2) (by4 w 8)) (t + 3) (by4 w 0)
theorem put_h3 {S : ST} {t : Nat} (ht : t < 2000) (e : S.1 1 = nI t) (n : Nat) (w k : Int32) (hk : ¬ k < 0) : m_put_h3 (n + 1) S w k = m_put_h3 n (stp S t (by4 w k)) w (k + -8) := by
  rw [m_put_h3, if_neg hk, e, G_in ht (by decide), nI_clamp (by omega)]
  simp only [show ∀ f, (sA S 0 f).1 1 = nI t from fun _ => e, nI_1]
  rfl
theorem put_eq {S : ST} {t : Nat} (ht : t + 4 ≤ 2000) (e : S.1 1 = nI t) (w : Int32) : m_put S w = some (stp4 S t w) := by
  obtain ⟨z, hz⟩ := FU_s 5 (by decide)
  unfold m_put
  rw [hz, show 5 + z = z + 1 + 1 + 1 + 1 + 1 by omega, put_h3 (t := t) (by omega) e _ _ _ (by decide), put_h3 (t := t + 1) (by omega) rfl _ _ _ (by decide), put_h3 (t := t + 2) (by omega) rfl _ _ _ (by decide), put_h3 (t := t + 3) (by omega) rfl _ _ _ (by decide)]
  rfl
