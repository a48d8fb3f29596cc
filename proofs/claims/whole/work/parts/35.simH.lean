/-- the line as the class tells it -/
def lineX (S : ST) (n : Nat) (d mi so se w : Int32) : ST := sA (sA (sA (tellX S n 4 d w) 15 (upd (S.2.1 15) n mi)) 22 (upd (S.2.1 22) n so)) 16 (upd (S.2.1 16) n se)
theorem tellLine_eq {S : ST} {n : Nat} (hn : n ≤ 180) (e : S.1 11 = nI n) (d mi so se w : Int32) : x11_tellLine S d mi so se w = if (rb d 100 && (rb mi 240 && (rb se 10 && decide (n < 180)))) = true then some (nI n, lineX S n d mi so se w) else some (-1, S) := by
  unfold x11_tellLine
  simp only [b100, b240, b10, chk]
  cases c1 : rb d 100
  · simp only [if_false, Bool.false_eq_true, Bool.false_and]
  cases c2 : rb mi 240
  · simp only [if_true, if_false, Bool.false_eq_true, Bool.false_and, Bool.and_false]
  cases c3 : rb se 10
  · simp only [if_true, if_false, Bool.false_eq_true, Bool.false_and, Bool.and_false]
  by_cases c4 : n < 180
  · simp only [if_true, c4, decide_true, Bool.and_self, tell_y c4 e, cal_s, nI_m1 (show n < 2 ^ 31 by omega), if_false, G_in c4 (by decide : 180 < 2 ^ 31), nI_clamp (show n < 2 ^ 31 by omega)]
    rfl
  · have hn : n = 180 := by omega
    subst hn
    simp only [if_true, tell_n e, cal_s, c4, decide_false, Bool.and_false, if_false, Bool.false_eq_true]
theorem line_rel {Sx Sm : ST} {n : Nat} {so : Int32} {d mi se w pa pl : Int32} (h : RR Sx Sm) (hn : n < 180) (f1 : Sx.1 11 = nI n) (f2 : Sm.1 18 = nI n) (hf : ∀ f, f < n → factR Sx Sm f) (c1 : rb d 100 = true) (hw : rng w 1000) (Sx' : ST) (hx : Sx' = lineX Sx n d mi so se w ∧ ¬ so = 1 ∨ Sx' = sA (sA (lineX Sx n d mi so se w) 18 (upd (Sx.2.1 18) n pa)) 19 (upd (Sx.2.1 19) n pl)) : RR Sx' (tellM Sm n 0 d mi so se w pa pl) := by
  obtain ⟨hT, hP, -, hK, hW, hB⟩ := h
  have hday : rng (upd (Sm.2.1 25) n d n) 100 := by rw [pk_us]; exact rb_rng (by decide) c1
  have hwo : rng (upd (Sm.2.1 29) n w n) 1000 := by rw [pk_us]; exact hw
  rcases hx with ⟨rfl, hso⟩ | rfl
  · refine ⟨hT, hP, RF_add hn hf (fun k h1 h2 f hf => by rcases (show k = 13 ∨ k = 14 ∨ k = 15 ∨ k = 16 ∨ k = 17 ∨ k = 18 ∨ k = 19 ∨ k = 20 ∨ k = 21 ∨ k = 22 by omega) with rfl | rfl | rfl | rfl | rfl | rfl | rfl | rfl | rfl | rfl <;> first | rfl | exact pk_un (Nat.ne_of_lt hf)) (fun k h1 h2 f hf => by rcases (show k = 24 ∨ k = 25 ∨ k = 26 ∨ k = 27 ∨ k = 28 ∨ k = 29 ∨ k = 30 ∨ k = 31 by omega) with rfl | rfl | rfl | rfl | rfl | rfl | rfl | rfl <;> first | rfl | exact pk_un (Nat.ne_of_lt hf)) rfl rfl (mk_f0 pk_us pk_us ⟨pk_us.trans pk_us.symm, hday, pk_us.trans pk_us.symm, pk_us.trans pk_us.symm, pk_us.trans pk_us.symm, pk_us.trans pk_us.symm, hwo, fun c => absurd (pk_us.symm.trans c) hso⟩), hK, hW, hB⟩
  · refine ⟨hT, hP, RF_add hn hf (fun k h1 h2 f hf => by rcases (show k = 13 ∨ k = 14 ∨ k = 15 ∨ k = 16 ∨ k = 17 ∨ k = 18 ∨ k = 19 ∨ k = 20 ∨ k = 21 ∨ k = 22 by omega) with rfl | rfl | rfl | rfl | rfl | rfl | rfl | rfl | rfl | rfl <;> first | rfl | exact pk_un (Nat.ne_of_lt hf)) (fun k h1 h2 f hf => by rcases (show k = 24 ∨ k = 25 ∨ k = 26 ∨ k = 27 ∨ k = 28 ∨ k = 29 ∨ k = 30 ∨ k = 31 by omega) with rfl | rfl | rfl | rfl | rfl | rfl | rfl | rfl <;> first | rfl | exact pk_un (Nat.ne_of_lt hf)) rfl rfl (mk_f0 pk_us pk_us ⟨pk_us.trans pk_us.symm, hday, pk_us.trans pk_us.symm, pk_us.trans pk_us.symm, pk_us.trans pk_us.symm, pk_us.trans pk_us.symm, hwo, fun c => ⟨pk_us.trans pk_us.symm, pk_us.trans pk_us.symm⟩⟩), hK, hW, hB⟩
theorem rn_rng {x : Int32} (h : rn1 x 999) : rng x 1000 := by obtain ⟨j, h1, h2, h3⟩ := h; exact ⟨j, by omega, h3⟩
theorem sim_reads {Sx Sm : ST} (h : RR Sx Sm) (a0 a1 a2 a3 a4 a5 : Int32) : ∃ r Sx' Sm', x11_reads Sx a0 a1 a2 a3 a4 a5 = some (r, Sx') ∧ m_reads Sm a0 a1 a2 a3 a4 a5 = some (r, Sm') ∧ RR Sx' Sm' := by
  obtain ⟨hT, hP, ⟨n, hn, f1, f2, hf⟩, hK, hW, hB⟩ := id h
  unfold x11_reads m_reads
  simp only [bW, b4, b10, tellLine_eq hn f1, mDay, mMin, mSeat, mW, n3, n9, chk, f2]
  by_cases hfull : n = 180
  · subst hfull
    simp only [show (nI 180 = (180 : Int32)) = True from eq_true rfl, if_true, show decide (180 < 180) = false from rfl, Bool.and_false, Bool.false_eq_true, if_false, cal_s]
    refine ⟨-1, Sx, Sm, ?_, rfl, h⟩
    cases wb a3 <;> cases rb a4 4 <;> cases rb a5 10 <;> simp only [if_true, if_false, Bool.false_eq_true]
  simp only [nI180 hn hfull, if_false, show decide (n < 180) = true from decide_eq_true (by omega), Bool.and_true]
  have hn : n < 180 := by omega
  by_cases hall : (wb a3 && (rb a4 4 && (rb a5 10 && (rb a0 100 && (rb a1 240 && rb a2 10))))) = true
  · simp only [Bool.and_eq_true] at hall
    obtain ⟨e3, e4, e5, e0, e1, e2⟩ := hall
    simp only [e3, e4, e5, e0, e1, e2, if_true, Bool.and_self, cal_s, nI_m1 (show n < 2 ^ 31 by omega), if_false, tells_y hn f2, setP_y (S := lineX Sx n a0 a1 1 a2 a3) hn rfl, calV_s]
    exact ⟨nI n, _, _, rfl, rfl, line_rel h hn f1 f2 hf e0 (rn_rng (wb_rn e3)) _ (Or.inr rfl)⟩
  · refine ⟨-1, Sx, Sm, ?_, ?_, h⟩
    · revert hall
      cases wb a3 <;> cases rb a4 4 <;> cases rb a5 10 <;> cases rb a0 100 <;> cases rb a1 240 <;> cases rb a2 10 <;> intro hall <;> first | exact absurd rfl hall | rfl
    · revert hall
      cases wb a3 <;> cases rb a4 4 <;> cases rb a5 10 <;> cases rb a0 100 <;> cases rb a1 240 <;> cases rb a2 10 <;> intro hall <;> first | exact absurd rfl hall | rfl
def lineOK (so w : Int32) : Bool := (decide (so = 0) || decide (so = 2)) && wb w || decide (so = 3) && decide (w = 0)
theorem x_line_eq (S : ST) (a0 a1 a2 a3 a4 : Int32) : x11_line S a0 a1 a2 a3 a4 = if lineOK a2 a4 = true then x11_tellLine S a0 a1 a2 a3 a4 else some (-1, S) := by
  have hj : ∀ x : Option (Int32 × ST), (cal x fun r S => some (r, S)) = x := fun x => by cases x <;> rfl
  unfold x11_line x11_line_j9 x11_line_j21 x11_line_j22 x11_line_j38 x11_line_j39 x11_line_j53 lineOK
  simp only [bW, hj]
  by_cases q0 : a2 = 0
  · subst q0
    cases wb a4 <;> simp [bit, cal0, i10]
  by_cases q2 : a2 = 2
  · subst q2
    cases wb a4 <;> simp [bit, cal0, i10]
  by_cases q3 : a2 = 3
  · subst q3
    by_cases q4 : a4 = 0 <;> simp [q4, i10]
  simp [q0, q2, q3]
theorem m_line_eq (S : ST) (a0 a1 a2 a3 a4 : Int32) : m_line S a0 a1 a2 a3 a4 = if S.1 18 = 180 then some (-1, S) else if (rb a0 100 && (rb a1 240 && (rb a3 10 && lineOK a2 a4))) = true then m_tells S 0 a0 a1 a2 a3 a4 (-1) (-1) else some (-1, S) := by
  have hj : ∀ x : Option (Int32 × ST), (cal x fun r S => some (r, S)) = x := fun x => by cases x <;> rfl
  unfold m_line m_line_j48 m_line_j71 lineOK
  simp only [mDay, mMin, mSeat, mW, chk, hj]
  by_cases f : S.1 18 = 180
  · simp [f]
  cases rb a0 100
  · simp [f]
  cases rb a1 240
  · simp [f]
  cases rb a3 10
  · simp [f]
  by_cases q0 : a2 = 0
  · subst q0
    cases wb a4 <;> simp [f]
  by_cases q2 : a2 = 2
  · subst q2
    cases wb a4 <;> simp [f]
  by_cases q3 : a2 = 3
  · subst q3
    by_cases q4 : a4 = 0 <;> simp [q4, f]
  simp [q0, q2, q3, f]
theorem lineOK_w {so w : Int32} (h : lineOK so w = true) : rng w 1000 ∧ ¬ so = 1 := by
  unfold lineOK at h
  rw [Bool.or_eq_true, Bool.and_eq_true, Bool.and_eq_true, Bool.or_eq_true, decide_eq_true_eq, decide_eq_true_eq, decide_eq_true_eq, decide_eq_true_eq] at h
  rcases h with ⟨hs, h⟩ | ⟨hs, rfl⟩
  · exact ⟨rn_rng (wb_rn h), by rcases hs with rfl | rfl <;> decide⟩
  · exact ⟨⟨0, by decide, rfl⟩, by rw [hs]; decide⟩
theorem sim_line {Sx Sm : ST} (h : RR Sx Sm) (a0 a1 a2 a3 a4 : Int32) : ∃ r Sx' Sm', x11_line Sx a0 a1 a2 a3 a4 = some (r, Sx') ∧ m_line Sm a0 a1 a2 a3 a4 = some (r, Sm') ∧ RR Sx' Sm' := by
  obtain ⟨hT, hP, ⟨n, hn, f1, f2, hf⟩, hK, hW, hB⟩ := id h
  rw [x_line_eq, m_line_eq, tellLine_eq hn f1, f2]
  by_cases hfull : n = 180
  · subst hfull
    refine ⟨-1, Sx, Sm, ?_, rfl, h⟩
    cases lineOK a2 a4 <;> cases rb a0 100 <;> cases rb a1 240 <;> cases rb a3 10 <;> rfl
  rw [if_neg (nI180 hn hfull)]
  have hn : n < 180 := by omega
  cases c5 : lineOK a2 a4
  · refine ⟨-1, Sx, Sm, rfl, ?_, h⟩
    cases rb a0 100 <;> cases rb a1 240 <;> cases rb a3 10 <;> rfl
  obtain ⟨hw, hso⟩ := lineOK_w c5
  cases c1 : rb a0 100
  · exact ⟨-1, Sx, Sm, rfl, rfl, h⟩
  cases c2 : rb a1 240
  · exact ⟨-1, Sx, Sm, rfl, rfl, h⟩
  cases c3 : rb a3 10
  · exact ⟨-1, Sx, Sm, rfl, rfl, h⟩
  simp only [Bool.and_self, if_true, hn, decide_true, tells_y hn f2]
  exact ⟨nI n, _, _, rfl, rfl, line_rel h hn f1 f2 hf c1 hw _ (Or.inl ⟨rfl, hso⟩)⟩
