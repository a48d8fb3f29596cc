theorem rng2 {x : Int32} (h : rng x 2) : x = 0 ∨ x = 1 := by
  obtain ⟨j, hj, rfl⟩ := h
  rcases (show j = 0 ∨ j = 1 by omega) with rfl | rfl
  · exact Or.inl rfl
  · exact Or.inr rfl
theorem mk_f0 {Sx Sm : ST} {f : Nat} (k1 : Sx.2.1 13 f = 4) (k2 : Sm.2.1 24 f = 0) (h : Sx.2.1 14 f = Sm.2.1 25 f ∧ rng (Sm.2.1 25 f) 100 ∧ Sx.2.1 15 f = Sm.2.1 26 f ∧ Sx.2.1 22 f = Sm.2.1 27 f ∧ Sx.2.1 16 f = Sm.2.1 28 f ∧ Sx.2.1 17 f = Sm.2.1 29 f ∧ rng (Sm.2.1 29 f) 1000 ∧ (Sm.2.1 27 f = 1 → Sx.2.1 18 f = Sm.2.1 30 f ∧ Sx.2.1 19 f = Sm.2.1 31 f)) : factR Sx Sm f := ⟨Or.inl ⟨k1, k2⟩, fun _ => h, fun c => absurd (k2.symm.trans c) (by decide), fun c => absurd (k2.symm.trans c) (by decide), fun c => absurd (k2.symm.trans c) (by decide), fun c => absurd (k2.symm.trans c) (by decide), fun c => absurd (k2.symm.trans c) (by decide), fun c => absurd (k2.symm.trans c) (by decide), fun c => absurd (k2.symm.trans c) (by decide), fun c => absurd (k2.symm.trans c) (by decide), fun c => absurd (k2.symm.trans c) (by decide)⟩
theorem mk_f1 {Sx Sm : ST} {f : Nat} (k1 : Sx.2.1 13 f = 5) (k2 : Sm.2.1 24 f = 1) (h : Sx.2.1 14 f = Sm.2.1 25 f ∧ Sx.2.1 20 f = Sm.2.1 26 f ∧ rng (Sm.2.1 26 f) 8 ∧ Sx.2.1 16 f = Sm.2.1 27 f) : factR Sx Sm f := ⟨Or.inr (Or.inl ⟨k1, k2⟩), fun c => absurd (k2.symm.trans c) (by decide), fun _ => h, fun c => absurd (k2.symm.trans c) (by decide), fun c => absurd (k2.symm.trans c) (by decide), fun c => absurd (k2.symm.trans c) (by decide), fun c => absurd (k2.symm.trans c) (by decide), fun c => absurd (k2.symm.trans c) (by decide), fun c => absurd (k2.symm.trans c) (by decide), fun c => absurd (k2.symm.trans c) (by decide), fun c => absurd (k2.symm.trans c) (by decide)⟩
theorem mk_f2 {Sx Sm : ST} {f : Nat} (k1 : Sx.2.1 13 f = 6) (k2 : Sm.2.1 24 f = 2) (h : Sx.2.1 20 f = Sm.2.1 26 f ∧ Sx.2.1 22 f = Sm.2.1 27 f ∧ rng (Sm.2.1 26 f) 8) : factR Sx Sm f := ⟨Or.inr (Or.inr (Or.inl ⟨k1, k2⟩)), fun c => absurd (k2.symm.trans c) (by decide), fun c => absurd (k2.symm.trans c) (by decide), fun _ => h, fun c => absurd (k2.symm.trans c) (by decide), fun c => absurd (k2.symm.trans c) (by decide), fun c => absurd (k2.symm.trans c) (by decide), fun c => absurd (k2.symm.trans c) (by decide), fun c => absurd (k2.symm.trans c) (by decide), fun c => absurd (k2.symm.trans c) (by decide), fun c => absurd (k2.symm.trans c) (by decide)⟩
theorem mk_f3 {Sx Sm : ST} {f : Nat} (k1 : Sx.2.1 13 f = 7) (k2 : Sm.2.1 24 f = 3) (h : Sx.2.1 18 f = Sm.2.1 26 f ∧ Sx.2.1 19 f = Sm.2.1 27 f ∧ Sx.2.1 17 f = Sm.2.1 28 f) : factR Sx Sm f := ⟨Or.inr (Or.inr (Or.inr (Or.inl ⟨k1, k2⟩))), fun c => absurd (k2.symm.trans c) (by decide), fun c => absurd (k2.symm.trans c) (by decide), fun c => absurd (k2.symm.trans c) (by decide), fun _ => h, fun c => absurd (k2.symm.trans c) (by decide), fun c => absurd (k2.symm.trans c) (by decide), fun c => absurd (k2.symm.trans c) (by decide), fun c => absurd (k2.symm.trans c) (by decide), fun c => absurd (k2.symm.trans c) (by decide), fun c => absurd (k2.symm.trans c) (by decide)⟩
theorem mk_f4 {Sx Sm : ST} {f : Nat} (k1 : Sx.2.1 13 f = 0) (k2 : Sm.2.1 24 f = 4) (h : Sx.2.1 21 f = Sm.2.1 26 f ∧ lineOf Sm f (Sm.2.1 26 f) ∧ Sx.2.1 14 f = Sm.2.1 25 f ∧ rng (Sm.2.1 25 f) 100 ∧ Sx.2.1 17 f = Sm.2.1 27 f ∧ rng (Sm.2.1 27 f) 1000) : factR Sx Sm f := ⟨Or.inr (Or.inr (Or.inr (Or.inr (Or.inl ⟨k1, k2⟩)))), fun c => absurd (k2.symm.trans c) (by decide), fun c => absurd (k2.symm.trans c) (by decide), fun c => absurd (k2.symm.trans c) (by decide), fun c => absurd (k2.symm.trans c) (by decide), fun _ => h, fun c => absurd (k2.symm.trans c) (by decide), fun c => absurd (k2.symm.trans c) (by decide), fun c => absurd (k2.symm.trans c) (by decide), fun c => absurd (k2.symm.trans c) (by decide), fun c => absurd (k2.symm.trans c) (by decide)⟩
theorem mk_f5 {Sx Sm : ST} {f : Nat} (k1 : Sx.2.1 13 f = 1) (k2 : Sm.2.1 24 f = 5) (h : Sx.2.1 21 f = Sm.2.1 26 f ∧ lineOf Sm f (Sm.2.1 26 f) ∧ Sx.2.1 17 f = Sm.2.1 27 f) : factR Sx Sm f := ⟨Or.inr (Or.inr (Or.inr (Or.inr (Or.inr (Or.inl ⟨k1, k2⟩))))), fun c => absurd (k2.symm.trans c) (by decide), fun c => absurd (k2.symm.trans c) (by decide), fun c => absurd (k2.symm.trans c) (by decide), fun c => absurd (k2.symm.trans c) (by decide), fun c => absurd (k2.symm.trans c) (by decide), fun _ => h, fun c => absurd (k2.symm.trans c) (by decide), fun c => absurd (k2.symm.trans c) (by decide), fun c => absurd (k2.symm.trans c) (by decide), fun c => absurd (k2.symm.trans c) (by decide)⟩
theorem mk_f6 {Sx Sm : ST} {f : Nat} (k1 : Sx.2.1 13 f = 2) (k2 : Sm.2.1 24 f = 6) (h : Sx.2.1 21 f = Sm.2.1 26 f ∧ Sx.2.1 14 f = Sm.2.1 25 f) : factR Sx Sm f := ⟨Or.inr (Or.inr (Or.inr (Or.inr (Or.inr (Or.inr (Or.inl ⟨k1, k2⟩)))))), fun c => absurd (k2.symm.trans c) (by decide), fun c => absurd (k2.symm.trans c) (by decide), fun c => absurd (k2.symm.trans c) (by decide), fun c => absurd (k2.symm.trans c) (by decide), fun c => absurd (k2.symm.trans c) (by decide), fun c => absurd (k2.symm.trans c) (by decide), fun _ => h, fun c => absurd (k2.symm.trans c) (by decide), fun c => absurd (k2.symm.trans c) (by decide), fun c => absurd (k2.symm.trans c) (by decide)⟩
theorem mk_f7 {Sx Sm : ST} {f : Nat} (k1 : Sx.2.1 13 f = 3) (k2 : Sm.2.1 24 f = 7) (h : Sx.2.1 21 f = Sm.2.1 26 f ∧ lineOf Sm f (Sm.2.1 26 f) ∧ Sx.2.1 14 f = Sm.2.1 25 f ∧ rng (Sm.2.1 25 f) 100) : factR Sx Sm f := ⟨Or.inr (Or.inr (Or.inr (Or.inr (Or.inr (Or.inr (Or.inr (Or.inl ⟨k1, k2⟩))))))), fun c => absurd (k2.symm.trans c) (by decide), fun c => absurd (k2.symm.trans c) (by decide), fun c => absurd (k2.symm.trans c) (by decide), fun c => absurd (k2.symm.trans c) (by decide), fun c => absurd (k2.symm.trans c) (by decide), fun c => absurd (k2.symm.trans c) (by decide), fun c => absurd (k2.symm.trans c) (by decide), fun _ => h, fun c => absurd (k2.symm.trans c) (by decide), fun c => absurd (k2.symm.trans c) (by decide)⟩
theorem mk_f8 {Sx Sm : ST} {f : Nat} (k1 : Sx.2.1 13 f = 8) (k2 : Sm.2.1 24 f = 8) (h : Sx.2.1 17 f = Sm.2.1 26 f ∧ rn1 (Sm.2.1 26 f) 999 ∧ Sx.2.1 22 f = Sm.2.1 27 f ∧ rn1 (Sm.2.1 27 f) 999 ∧ Sx.2.1 14 f = Sm.2.1 25 f) : factR Sx Sm f := ⟨Or.inr (Or.inr (Or.inr (Or.inr (Or.inr (Or.inr (Or.inr (Or.inr (Or.inl ⟨k1, k2⟩)))))))), fun c => absurd (k2.symm.trans c) (by decide), fun c => absurd (k2.symm.trans c) (by decide), fun c => absurd (k2.symm.trans c) (by decide), fun c => absurd (k2.symm.trans c) (by decide), fun c => absurd (k2.symm.trans c) (by decide), fun c => absurd (k2.symm.trans c) (by decide), fun c => absurd (k2.symm.trans c) (by decide), fun c => absurd (k2.symm.trans c) (by decide), fun _ => h, fun c => absurd (k2.symm.trans c) (by decide)⟩
theorem mk_f9 {Sx Sm : ST} {f : Nat} (k1 : Sx.2.1 13 f = 9) (k2 : Sm.2.1 24 f = 9) (h : Sx.2.1 21 f = Sm.2.1 26 f ∧ Sx.2.1 20 f = Sm.2.1 27 f ∧ rng (Sm.2.1 27 f) 8 ∧ Sx.2.1 22 f = Sm.2.1 28 f ∧ (Sm.2.1 28 f = 0 ∨ Sm.2.1 28 f = 1)) : factR Sx Sm f := ⟨Or.inr (Or.inr (Or.inr (Or.inr (Or.inr (Or.inr (Or.inr (Or.inr (Or.inr (⟨k1, k2⟩))))))))), fun c => absurd (k2.symm.trans c) (by decide), fun c => absurd (k2.symm.trans c) (by decide), fun c => absurd (k2.symm.trans c) (by decide), fun c => absurd (k2.symm.trans c) (by decide), fun c => absurd (k2.symm.trans c) (by decide), fun c => absurd (k2.symm.trans c) (by decide), fun c => absurd (k2.symm.trans c) (by decide), fun c => absurd (k2.symm.trans c) (by decide), fun c => absurd (k2.symm.trans c) (by decide), fun _ => h⟩
theorem setP_y {S : ST} {n : Nat} (hn : n < 180) (e : S.1 11 = nI (n + 1)) (a b : Int32) : x0_setPaper S (nI n) a b = some (sA (sA S 18 (upd (S.2.1 18) n a)) 19 (upd (S.2.1 19) n b)) := by
  unfold x0_setPaper
  simp only [show ¬ nI n < 0 from nI_pos (by omega), if_false, e, show ¬ nI (n + 1) ≤ nI n from nI_ge (by omega) (by omega), G_in hn (by decide : 180 < 2 ^ 31), nI_clamp (show n < 2 ^ 31 by omega)]
  rfl
theorem sim_sits {Sx Sm : ST} (h : RR Sx Sm) (a0 a1 a2 : Int32) : ∃ r Sx' Sm', x11_sits Sx a0 a1 a2 = some (r, Sx') ∧ m_sits Sm a0 a1 a2 = some (r, Sm') ∧ RR Sx' Sm' := by
  obtain ⟨hT, hP, ⟨n, hn, f1, f2, hf⟩, hK, hW, hB⟩ := id h
  unfold x11_sits m_sits
  simp only [b8, b10, b100, mMem, mSeat, mDay, chk, f2]
  by_cases hfull : n = 180
  · subst hfull
    simp only [show (nI 180 = (180 : Int32)) = True from eq_true rfl, if_true, tell_n f1, cal_s]
    refine ⟨-1, Sx, Sm, ?_, rfl, h⟩
    cases rb a0 8 <;> simp only [if_true, if_false, Bool.false_eq_true, ite_self]
  simp only [nI180 hn hfull, if_false]
  have hn : n < 180 := by omega
  cases c0 : rb a0 8
  · refine ⟨-1, Sx, Sm, ?_, ?_, h⟩
    · cases rb a1 10 <;> cases rb a2 100 <;> simp only [if_true, if_false, Bool.false_eq_true, ite_self]
    · cases rb a1 10 <;> cases rb a2 100 <;> simp only [if_true, if_false, Bool.false_eq_true, ite_self]
  cases c1 : rb a1 10
  · refine ⟨-1, Sx, Sm, ?_, ?_, h⟩
    · cases rb a2 100 <;> simp only [if_true, if_false, Bool.false_eq_true, ite_self]
    · cases rb a2 100 <;> simp only [if_true, if_false, Bool.false_eq_true, ite_self]
  cases c2 : rb a2 100
  · refine ⟨-1, Sx, Sm, ?_, ?_, h⟩
    · simp only [if_true, if_false, Bool.false_eq_true, ite_self]
    · simp only [if_true, if_false, Bool.false_eq_true, ite_self]
  simp only [if_true, tell_y hn f1, tells_y hn f2, cal_s, nI_m1 (show n < 2 ^ 31 by omega), if_false, G_in hn (by decide : 180 < 2 ^ 31), nI_clamp (show n < 2 ^ 31 by omega)]
  refine ⟨nI n, _, _, rfl, rfl, hT, hP, RF_add hn hf (fun k h1 h2 f hf => by rcases (show k = 13 ∨ k = 14 ∨ k = 15 ∨ k = 16 ∨ k = 17 ∨ k = 18 ∨ k = 19 ∨ k = 20 ∨ k = 21 ∨ k = 22 by omega) with rfl | rfl | rfl | rfl | rfl | rfl | rfl | rfl | rfl | rfl <;> first | rfl | exact pk_un (Nat.ne_of_lt hf)) (fun k h1 h2 f hf => by rcases (show k = 24 ∨ k = 25 ∨ k = 26 ∨ k = 27 ∨ k = 28 ∨ k = 29 ∨ k = 30 ∨ k = 31 by omega) with rfl | rfl | rfl | rfl | rfl | rfl | rfl | rfl <;> first | rfl | exact pk_un (Nat.ne_of_lt hf)) rfl rfl (mk_f1 pk_us pk_us ⟨pk_us.trans pk_us.symm, pk_us.trans pk_us.symm, by show rng (upd (Sm.2.1 26) n a0 n) 8; rw [pk_us]; exact rb_rng (by decide) c0, pk_us.trans pk_us.symm⟩), hK, hW, hB⟩
theorem sim_office {Sx Sm : ST} (h : RR Sx Sm) (a0 a1 : Int32) : ∃ r Sx' Sm', x11_office Sx a0 a1 = some (r, Sx') ∧ m_office Sm a0 a1 = some (r, Sm') ∧ RR Sx' Sm' := by
  obtain ⟨hT, hP, ⟨n, hn, f1, f2, hf⟩, hK, hW, hB⟩ := id h
  unfold x11_office m_office
  simp only [b8, b10, mMem, n9, chk, f2]
  by_cases hfull : n = 180
  · subst hfull
    simp only [show (nI 180 = (180 : Int32)) = True from eq_true rfl, if_true, tell_n f1, cal_s]
    refine ⟨-1, Sx, Sm, ?_, rfl, h⟩
    cases rb a0 8 <;> simp only [if_true, if_false, Bool.false_eq_true, ite_self]
  simp only [nI180 hn hfull, if_false]
  have hn : n < 180 := by omega
  cases c0 : rb a0 8
  · refine ⟨-1, Sx, Sm, ?_, ?_, h⟩
    · cases rb a1 10 <;> simp only [if_true, if_false, Bool.false_eq_true, ite_self]
    · cases rb a1 10 <;> simp only [if_true, if_false, Bool.false_eq_true, ite_self]
  cases c1 : rb a1 10
  · refine ⟨-1, Sx, Sm, ?_, ?_, h⟩
    · simp only [if_true, if_false, Bool.false_eq_true, ite_self]
    · simp only [if_true, if_false, Bool.false_eq_true, ite_self]
  simp only [if_true, tell_y hn f1, tells_y hn f2, cal_s, nI_m1 (show n < 2 ^ 31 by omega), if_false, G_in hn (by decide : 180 < 2 ^ 31), nI_clamp (show n < 2 ^ 31 by omega)]
  refine ⟨nI n, _, _, rfl, rfl, hT, hP, RF_add hn hf (fun k h1 h2 f hf => by rcases (show k = 13 ∨ k = 14 ∨ k = 15 ∨ k = 16 ∨ k = 17 ∨ k = 18 ∨ k = 19 ∨ k = 20 ∨ k = 21 ∨ k = 22 by omega) with rfl | rfl | rfl | rfl | rfl | rfl | rfl | rfl | rfl | rfl <;> first | rfl | exact pk_un (Nat.ne_of_lt hf)) (fun k h1 h2 f hf => by rcases (show k = 24 ∨ k = 25 ∨ k = 26 ∨ k = 27 ∨ k = 28 ∨ k = 29 ∨ k = 30 ∨ k = 31 by omega) with rfl | rfl | rfl | rfl | rfl | rfl | rfl | rfl <;> first | rfl | exact pk_un (Nat.ne_of_lt hf)) rfl rfl (mk_f2 pk_us pk_us ⟨pk_us.trans pk_us.symm, pk_us.trans pk_us.symm, by show rng (upd (Sm.2.1 26) n a0 n) 8; rw [pk_us]; exact rb_rng (by decide) c0⟩), hK, hW, hB⟩
theorem sim_vote {Sx Sm : ST} (h : RR Sx Sm) (a0 a1 a2 a3 : Int32) : ∃ r Sx' Sm', x11_vote Sx a0 a1 a2 a3 = some (r, Sx') ∧ m_vote Sm a0 a1 a2 a3 = some (r, Sm') ∧ RR Sx' Sm' := by
  obtain ⟨hT, hP, ⟨n, hn, f1, f2, hf⟩, hK, hW, hB⟩ := id h
  unfold x11_vote m_vote
  simp only [b4, b8, b2, mMem, n3, n1, chk, f2]
  by_cases hfull : n = 180
  · subst hfull
    simp only [show (nI 180 = (180 : Int32)) = True from eq_true rfl, if_true, tell_n f1, cal_s]
    refine ⟨-1, Sx, Sm, ?_, rfl, h⟩
    cases rb a0 4 <;> simp only [if_true, if_false, Bool.false_eq_true, ite_self]
  simp only [nI180 hn hfull, if_false]
  have hn : n < 180 := by omega
  cases c0 : rb a0 4
  · refine ⟨-1, Sx, Sm, ?_, ?_, h⟩
    · cases rb a1 8 <;> cases rb a2 2 <;> cases rb a3 2 <;> simp only [if_true, if_false, Bool.false_eq_true, ite_self]
    · cases rb a1 8 <;> cases rb a2 2 <;> cases rb a3 2 <;> simp only [if_true, if_false, Bool.false_eq_true, ite_self]
  cases c1 : rb a1 8
  · refine ⟨-1, Sx, Sm, ?_, ?_, h⟩
    · cases rb a2 2 <;> cases rb a3 2 <;> simp only [if_true, if_false, Bool.false_eq_true, ite_self]
    · cases rb a2 2 <;> cases rb a3 2 <;> simp only [if_true, if_false, Bool.false_eq_true, ite_self]
  cases c2 : rb a2 2
  · refine ⟨-1, Sx, Sm, ?_, ?_, h⟩
    · cases rb a3 2 <;> simp only [if_true, if_false, Bool.false_eq_true, ite_self]
    · cases rb a3 2 <;> simp only [if_true, if_false, Bool.false_eq_true, ite_self]
  cases c3 : rb a3 2
  · refine ⟨-1, Sx, Sm, ?_, ?_, h⟩
    · simp only [if_true, if_false, Bool.false_eq_true, ite_self]
    · simp only [if_true, if_false, Bool.false_eq_true, ite_self]
  simp only [if_true, tell_y hn f1, tells_y hn f2, cal_s, nI_m1 (show n < 2 ^ 31 by omega), if_false, G_in hn (by decide : 180 < 2 ^ 31), nI_clamp (show n < 2 ^ 31 by omega)]
  refine ⟨nI n, _, _, rfl, rfl, hT, hP, RF_add hn hf (fun k h1 h2 f hf => by rcases (show k = 13 ∨ k = 14 ∨ k = 15 ∨ k = 16 ∨ k = 17 ∨ k = 18 ∨ k = 19 ∨ k = 20 ∨ k = 21 ∨ k = 22 by omega) with rfl | rfl | rfl | rfl | rfl | rfl | rfl | rfl | rfl | rfl <;> first | rfl | exact pk_un (Nat.ne_of_lt hf)) (fun k h1 h2 f hf => by rcases (show k = 24 ∨ k = 25 ∨ k = 26 ∨ k = 27 ∨ k = 28 ∨ k = 29 ∨ k = 30 ∨ k = 31 by omega) with rfl | rfl | rfl | rfl | rfl | rfl | rfl | rfl <;> first | rfl | exact pk_un (Nat.ne_of_lt hf)) rfl rfl (mk_f9 pk_us pk_us ⟨pk_us.trans pk_us.symm, pk_us.trans pk_us.symm, by show rng (upd (Sm.2.1 27) n a1 n) 8; rw [pk_us]; exact rb_rng (by decide) c1, pk_us.trans pk_us.symm, by show upd (Sm.2.1 28) n a2 n = 0 ∨ upd (Sm.2.1 28) n a2 n = 1; rw [pk_us]; exact rng2 (rb_rng (by decide) c2)⟩), hK, hW, hB⟩
theorem sim_paper {Sx Sm : ST} (h : RR Sx Sm) (a0 a1 a2 : Int32) : ∃ r Sx' Sm', x11_paper Sx a0 a1 a2 = some (r, Sx') ∧ m_paper Sm a0 a1 a2 = some (r, Sm') ∧ RR Sx' Sm' := by
  obtain ⟨hT, hP, ⟨n, hn, f1, f2, hf⟩, hK, hW, hB⟩ := id h
  unfold x11_paper m_paper
  simp only [b4, b10, b1000, n3, n9, n999, chk, f2]
  by_cases hfull : n = 180
  · subst hfull
    simp only [show (nI 180 = (180 : Int32)) = True from eq_true rfl, if_true, tell_n f1, cal_s]
    refine ⟨-1, Sx, Sm, ?_, rfl, h⟩
    cases rb a0 4 <;> simp only [if_true, if_false, Bool.false_eq_true, ite_self]
  simp only [nI180 hn hfull, if_false]
  have hn : n < 180 := by omega
  cases c0 : rb a0 4
  · refine ⟨-1, Sx, Sm, ?_, ?_, h⟩
    · cases rb a1 10 <;> cases rb a2 1000 <;> simp only [if_true, if_false, Bool.false_eq_true, ite_self]
    · cases rb a1 10 <;> cases rb a2 1000 <;> simp only [if_true, if_false, Bool.false_eq_true, ite_self]
  cases c1 : rb a1 10
  · refine ⟨-1, Sx, Sm, ?_, ?_, h⟩
    · cases rb a2 1000 <;> simp only [if_true, if_false, Bool.false_eq_true, ite_self]
    · cases rb a2 1000 <;> simp only [if_true, if_false, Bool.false_eq_true, ite_self]
  cases c2 : rb a2 1000
  · refine ⟨-1, Sx, Sm, ?_, ?_, h⟩
    · simp only [if_true, if_false, Bool.false_eq_true, ite_self]
    · simp only [if_true, if_false, Bool.false_eq_true, ite_self]
  simp only [if_true, tell_y hn f1, tells_y hn f2, cal_s, nI_m1 (show n < 2 ^ 31 by omega), if_false, G_in hn (by decide : 180 < 2 ^ 31), nI_clamp (show n < 2 ^ 31 by omega), setP_y (S := tellX Sx n _ _ _) hn rfl, calV_s]
  refine ⟨nI n, _, _, rfl, rfl, hT, hP, RF_add hn hf (fun k h1 h2 f hf => by rcases (show k = 13 ∨ k = 14 ∨ k = 15 ∨ k = 16 ∨ k = 17 ∨ k = 18 ∨ k = 19 ∨ k = 20 ∨ k = 21 ∨ k = 22 by omega) with rfl | rfl | rfl | rfl | rfl | rfl | rfl | rfl | rfl | rfl <;> first | rfl | exact pk_un (Nat.ne_of_lt hf)) (fun k h1 h2 f hf => by rcases (show k = 24 ∨ k = 25 ∨ k = 26 ∨ k = 27 ∨ k = 28 ∨ k = 29 ∨ k = 30 ∨ k = 31 by omega) with rfl | rfl | rfl | rfl | rfl | rfl | rfl | rfl <;> first | rfl | exact pk_un (Nat.ne_of_lt hf)) rfl rfl (mk_f3 pk_us pk_us ⟨pk_us.trans pk_us.symm, pk_us.trans pk_us.symm, pk_us.trans pk_us.symm⟩), hK, hW, hB⟩
theorem sim_rename {Sx Sm : ST} (h : RR Sx Sm) (a0 a1 a2 : Int32) : ∃ r Sx' Sm', x11_rename Sx a0 a1 a2 = some (r, Sx') ∧ m_rename Sm a0 a1 a2 = some (r, Sm') ∧ RR Sx' Sm' := by
  obtain ⟨hT, hP, ⟨n, hn, f1, f2, hf⟩, hK, hW, hB⟩ := id h
  unfold x11_rename m_rename
  simp only [bW, mW, b100, mDay, chk, f2]
  by_cases hfull : n = 180
  · subst hfull
    simp only [show (nI 180 = (180 : Int32)) = True from eq_true rfl, if_true, tell_n f1, cal_s]
    refine ⟨-1, Sx, Sm, ?_, rfl, h⟩
    cases wb a0 <;> simp only [if_true, if_false, Bool.false_eq_true, ite_self]
  simp only [nI180 hn hfull, if_false]
  have hn : n < 180 := by omega
  cases c0 : wb a0
  · refine ⟨-1, Sx, Sm, ?_, ?_, h⟩
    · (first | rfl | (cases wb a1 <;> cases rb a2 100 <;> (repeat' split) <;> first | rfl | contradiction))
    · (first | rfl | (cases wb a1 <;> cases rb a2 100 <;> (repeat' split) <;> first | rfl | contradiction))
  cases c1 : wb a1
  · refine ⟨-1, Sx, Sm, ?_, ?_, h⟩
    · (first | rfl | (cases rb a2 100 <;> (repeat' split) <;> first | rfl | contradiction))
    · (first | rfl | (cases rb a2 100 <;> (repeat' split) <;> first | rfl | contradiction))
  cases c2 : rb a2 100
  · refine ⟨-1, Sx, Sm, ?_, ?_, h⟩
    · (first | rfl | (skip <;> (repeat' split) <;> first | rfl | contradiction))
    · (first | rfl | (skip <;> (repeat' split) <;> first | rfl | contradiction))
  by_cases cne : a0 = a1
  · simp only [if_true, if_false, Bool.false_eq_true, cne]
    exact ⟨_, _, _, rfl, rfl, h⟩
  simp only [cne, if_false]
  simp only [if_true, tell_y hn f1, tells_y hn f2, cal_s, nI_m1 (show n < 2 ^ 31 by omega), if_false, G_in hn (by decide : 180 < 2 ^ 31), nI_clamp (show n < 2 ^ 31 by omega)]
  refine ⟨nI n, _, _, rfl, rfl, hT, hP, RF_add hn hf (fun k h1 h2 f hf => by rcases (show k = 13 ∨ k = 14 ∨ k = 15 ∨ k = 16 ∨ k = 17 ∨ k = 18 ∨ k = 19 ∨ k = 20 ∨ k = 21 ∨ k = 22 by omega) with rfl | rfl | rfl | rfl | rfl | rfl | rfl | rfl | rfl | rfl <;> first | rfl | exact pk_un (Nat.ne_of_lt hf)) (fun k h1 h2 f hf => by rcases (show k = 24 ∨ k = 25 ∨ k = 26 ∨ k = 27 ∨ k = 28 ∨ k = 29 ∨ k = 30 ∨ k = 31 by omega) with rfl | rfl | rfl | rfl | rfl | rfl | rfl | rfl <;> first | rfl | exact pk_un (Nat.ne_of_lt hf)) rfl rfl (mk_f8 pk_us pk_us ⟨pk_us.trans pk_us.symm, by show rn1 (upd (Sm.2.1 26) n a0 n) 999; rw [pk_us]; exact wb_rn c0, pk_us.trans pk_us.symm, by show rn1 (upd (Sm.2.1 27) n a1 n) 999; rw [pk_us]; exact wb_rn c1, pk_us.trans pk_us.symm⟩), hK, hW, hB⟩
