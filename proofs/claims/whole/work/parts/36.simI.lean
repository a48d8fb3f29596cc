theorem FK_0 {kx km : Int32} (h : FK kx km) : decide (kx = 0) = decide (km = 4) := by rcases h with ⟨rfl, rfl⟩ | ⟨rfl, rfl⟩ | ⟨rfl, rfl⟩ | ⟨rfl, rfl⟩ | ⟨rfl, rfl⟩ | ⟨rfl, rfl⟩ | ⟨rfl, rfl⟩ | ⟨rfl, rfl⟩ | ⟨rfl, rfl⟩ | ⟨rfl, rfl⟩ <;> rfl
theorem FK_1 {kx km : Int32} (h : FK kx km) : decide (kx = 1) = decide (km = 5) := by rcases h with ⟨rfl, rfl⟩ | ⟨rfl, rfl⟩ | ⟨rfl, rfl⟩ | ⟨rfl, rfl⟩ | ⟨rfl, rfl⟩ | ⟨rfl, rfl⟩ | ⟨rfl, rfl⟩ | ⟨rfl, rfl⟩ | ⟨rfl, rfl⟩ | ⟨rfl, rfl⟩ <;> rfl
theorem FK_2 {kx km : Int32} (h : FK kx km) : decide (kx = 2) = decide (km = 6) := by rcases h with ⟨rfl, rfl⟩ | ⟨rfl, rfl⟩ | ⟨rfl, rfl⟩ | ⟨rfl, rfl⟩ | ⟨rfl, rfl⟩ | ⟨rfl, rfl⟩ | ⟨rfl, rfl⟩ | ⟨rfl, rfl⟩ | ⟨rfl, rfl⟩ | ⟨rfl, rfl⟩ <;> rfl
theorem FK_3 {kx km : Int32} (h : FK kx km) : decide (kx = 3) = decide (km = 7) := by rcases h with ⟨rfl, rfl⟩ | ⟨rfl, rfl⟩ | ⟨rfl, rfl⟩ | ⟨rfl, rfl⟩ | ⟨rfl, rfl⟩ | ⟨rfl, rfl⟩ | ⟨rfl, rfl⟩ | ⟨rfl, rfl⟩ | ⟨rfl, rfl⟩ | ⟨rfl, rfl⟩ <;> rfl
theorem FK_4 {kx km : Int32} (h : FK kx km) : decide (kx = 4) = decide (km = 0) := by rcases h with ⟨rfl, rfl⟩ | ⟨rfl, rfl⟩ | ⟨rfl, rfl⟩ | ⟨rfl, rfl⟩ | ⟨rfl, rfl⟩ | ⟨rfl, rfl⟩ | ⟨rfl, rfl⟩ | ⟨rfl, rfl⟩ | ⟨rfl, rfl⟩ | ⟨rfl, rfl⟩ <;> rfl
theorem FK_5 {kx km : Int32} (h : FK kx km) : decide (kx = 5) = decide (km = 1) := by rcases h with ⟨rfl, rfl⟩ | ⟨rfl, rfl⟩ | ⟨rfl, rfl⟩ | ⟨rfl, rfl⟩ | ⟨rfl, rfl⟩ | ⟨rfl, rfl⟩ | ⟨rfl, rfl⟩ | ⟨rfl, rfl⟩ | ⟨rfl, rfl⟩ | ⟨rfl, rfl⟩ <;> rfl
theorem FK_6 {kx km : Int32} (h : FK kx km) : decide (kx = 6) = decide (km = 2) := by rcases h with ⟨rfl, rfl⟩ | ⟨rfl, rfl⟩ | ⟨rfl, rfl⟩ | ⟨rfl, rfl⟩ | ⟨rfl, rfl⟩ | ⟨rfl, rfl⟩ | ⟨rfl, rfl⟩ | ⟨rfl, rfl⟩ | ⟨rfl, rfl⟩ | ⟨rfl, rfl⟩ <;> rfl
theorem FK_7 {kx km : Int32} (h : FK kx km) : decide (kx = 7) = decide (km = 3) := by rcases h with ⟨rfl, rfl⟩ | ⟨rfl, rfl⟩ | ⟨rfl, rfl⟩ | ⟨rfl, rfl⟩ | ⟨rfl, rfl⟩ | ⟨rfl, rfl⟩ | ⟨rfl, rfl⟩ | ⟨rfl, rfl⟩ | ⟨rfl, rfl⟩ | ⟨rfl, rfl⟩ <;> rfl
theorem FK_8 {kx km : Int32} (h : FK kx km) : decide (kx = 8) = decide (km = 8) := by rcases h with ⟨rfl, rfl⟩ | ⟨rfl, rfl⟩ | ⟨rfl, rfl⟩ | ⟨rfl, rfl⟩ | ⟨rfl, rfl⟩ | ⟨rfl, rfl⟩ | ⟨rfl, rfl⟩ | ⟨rfl, rfl⟩ | ⟨rfl, rfl⟩ | ⟨rfl, rfl⟩ <;> rfl
theorem FK_9 {kx km : Int32} (h : FK kx km) : decide (kx = 9) = decide (km = 9) := by rcases h with ⟨rfl, rfl⟩ | ⟨rfl, rfl⟩ | ⟨rfl, rfl⟩ | ⟨rfl, rfl⟩ | ⟨rfl, rfl⟩ | ⟨rfl, rfl⟩ | ⟨rfl, rfl⟩ | ⟨rfl, rfl⟩ | ⟨rfl, rfl⟩ | ⟨rfl, rfl⟩ <;> rfl
theorem bit_ite {S : ST} (c : Prop) [Decidable c] : (if c then some ((1 : Int32), S) else some (0, S)) = some (bit (decide c), S) := by
  by_cases h : c
  · rw [if_pos h, decide_eq_true h]; rfl
  · rw [if_neg h, decide_eq_false h]; rfl
theorem ofKind_b {S : ST} {m n : Nat} (hm : m ≤ n) (hn : n ≤ 180) (e : S.1 11 = nI n) (x k : Int32) : x0_isOfKind S x k (nI m) = some (bit (rb x m && decide (S.2.1 13 x.toNatClampNeg = k)), S) := by
  unfold x0_isOfKind
  rw [e]
  cases c : rb x m
  · rcases not_rng (by omega) (rb_f (by omega) c) with q | q
    · rw [if_pos q]; rfl
    · by_cases q0 : x < 0
      · rw [if_pos q0]; rfl
      · rw [if_neg q0, if_pos q]; rfl
  · obtain ⟨j, hj, rfl⟩ := rb_rng (by omega) c
    rw [if_neg (nI_pos (by omega)), if_neg (nI_ge hj (by omega)), if_neg (nI_ge (by omega) (by omega)), G_in (by omega) (by decide), nI_clamp (by omega), bit_ite, Bool.true_and]
theorem mLine_b {S : ST} {m : Nat} (hm : m ≤ 180) (x : Int32) : m_isLine S x (nI m) = some (bit (rb x m && decide (S.2.1 24 x.toNatClampNeg = 0)), S) := by
  unfold m_isLine
  cases c : rb x m
  · rcases not_rng (by omega) (rb_f (by omega) c) with q | q
    · rw [if_pos q]; rfl
    · by_cases q0 : x < 0
      · rw [if_pos q0]; rfl
      · rw [if_neg q0, if_pos q]; rfl
  · obtain ⟨j, hj, rfl⟩ := rb_rng (by omega) c
    rw [if_neg (nI_pos (by omega)), if_neg (nI_ge hj (by omega)), G_in (by omega) (by decide), nI_clamp (by omega), bit_ite, Bool.true_and]
theorem chkS {α : Type} (b : Bool) (S : ST) (A : ST → Option α) (B : Int32 → ST → Option α) : (cal (some (bit b, S)) fun r S => if r = 0 then A S else B r S) = if b = true then B 1 S else A S := by cases b <;> rfl
theorem fact_new {Sx Sm : ST} {n : Nat} (h : RR Sx Sm) (hn : n < 180) (hf : ∀ f, f < n → factR Sx Sm f) {k d w a s dm b : Int32} (hnew : factR (sA (tellX Sx n k d w) 21 (upd (Sx.2.1 21) n a)) (tellM Sm n s dm a b 0 0 0 0) n) : RR (sA (tellX Sx n k d w) 21 (upd (Sx.2.1 21) n a)) (tellM Sm n s dm a b 0 0 0 0) := by
  obtain ⟨hT, hP, -, hK, hW, hB⟩ := h
  exact ⟨hT, hP, RF_add hn hf (fun k h1 h2 f hf => by rcases (show k = 13 ∨ k = 14 ∨ k = 15 ∨ k = 16 ∨ k = 17 ∨ k = 18 ∨ k = 19 ∨ k = 20 ∨ k = 21 ∨ k = 22 by omega) with rfl | rfl | rfl | rfl | rfl | rfl | rfl | rfl | rfl | rfl <;> first | rfl | exact pk_un (Nat.ne_of_lt hf)) (fun k h1 h2 f hf => by rcases (show k = 24 ∨ k = 25 ∨ k = 26 ∨ k = 27 ∨ k = 28 ∨ k = 29 ∨ k = 30 ∨ k = 31 by omega) with rfl | rfl | rfl | rfl | rfl | rfl | rfl | rfl <;> first | rfl | exact pk_un (Nat.ne_of_lt hf)) rfl rfl hnew, hK, hW, hB⟩
theorem j108_eq {S : ST} {n : Nat} (hn : n < 180) (e : S.1 11 = nI n) (a0 a1 a2 a3 : Int32) : x11_fact_j108 S a0 a1 a2 a3 = some (nI n, sA (tellX S n a0 a3 a2) 21 (upd (S.2.1 21) n a1)) := by
  unfold x11_fact_j108
  simp only [tell_y hn e, cal_s, nI_m1 (show n < 2 ^ 31 by omega), if_false, G_in hn (by decide : 180 < 2 ^ 31), nI_clamp (show n < 2 ^ 31 by omega)]
  rfl
theorem sim_fact {Sx Sm : ST} (h : RR Sx Sm) (a0 a1 a2 a3 : Int32) : ∃ r Sx' Sm', x11_fact Sx a0 a1 a2 a3 = some (r, Sx') ∧ m_fact Sm a0 a1 a2 a3 = some (r, Sm') ∧ RR Sx' Sm' := by
  obtain ⟨hT, hP, ⟨n, hn, f1, f2, hf⟩, hK, hW, hB⟩ := id h
  have hj : ∀ x : Option (Int32 × ST), (cal x fun r S => some (r, S)) = x := fun x => by cases x <;> rfl
  unfold x11_fact m_fact
  simp only [f1, f2, ofKind_b (Nat.le_refl n) hn f1, mLine_b hn, n3, chk, chkS, mW, hj]
  by_cases hfull : n = 180
  · subst hfull
    simp only [show (nI 180 = (180 : Int32)) = True from eq_true rfl, if_true]
    refine ⟨-1, Sx, Sm, ?_, rfl, h⟩
    unfold x11_fact_j39 x11_fact_j44 x11_fact_j56 x11_fact_j70 x11_fact_j87 x11_fact_j108
    simp only [bW, b100, chk, tell_n f1, cal_s, if_true, ite_self]
    by_cases q0 : a0 < 0
    · simp only [q0, if_true]
    by_cases q1 : (3 : Int32) < a0
    · simp only [q0, q1, if_true, if_false]
    simp only [q0, q1, if_false]
    cases c : (rb a1 180 && decide (Sx.2.1 13 a1.toNatClampNeg = 4))
    · simp only [Bool.false_eq_true, if_false]
    · rw [Bool.and_eq_true] at c
      obtain ⟨g, hg, rfl⟩ := rb_rng (by decide) c.1
      simp only [G_in hg (by decide : 180 < 2 ^ 31), if_true, ite_self]
  simp only [nI180 hn hfull, if_false]
  have hn : n < 180 := by omega
  cases c0 : rb a0 4
  · refine ⟨-1, Sx, Sm, ?_, rfl, h⟩
    rcases not_rng (by decide) (rb_f (by decide) c0) with q | q
    · rw [if_pos q]
    · by_cases q0 : a0 < 0
      · rw [if_pos q0]
      · rw [if_neg q0, if_pos (show (3 : Int32) < a0 from lt_of_nI (n := 3) (by decide) q)]
  obtain ⟨k, hk, rfl⟩ := rb_rng (by decide) c0
  simp only [show ¬ nI k < 0 from nI_pos (by omega), show ¬ (3 : Int32) < nI k from nI_nlt (a := 3) (by omega) (by decide), if_false, if_true]
  cases c1 : rb a1 n
  · simp only [Bool.false_and, Bool.false_eq_true, if_false]; exact ⟨_, _, _, rfl, rfl, h⟩
  obtain ⟨g, hg, rfl⟩ := rb_rng (by omega) c1
  have hR := hf g hg
  simp only [Bool.true_and, nI_clamp (show g < 2 ^ 31 by omega), FK_4 hR.1]
  cases c2 : decide (Sm.2.1 24 g = 0)
  · simp only [Bool.false_eq_true, if_false]; exact ⟨_, _, _, rfl, rfl, h⟩
  have c2 := of_decide_eq_true c2
  have hday := (hR.2.1 c2).1
  simp only [if_true]
  unfold x11_fact_j39 x11_fact_j44 x11_fact_j56 x11_fact_j70 x11_fact_j87 m_fact_j45 m_fact_j58 m_fact_j76 m_fact_j91
  simp only [bW, b100, mDay, chk, j108_eq hn f1, hj, tells_y hn f2, G_in (show g < 180 by omega) (by decide : 180 < 2 ^ 31), nI_clamp (show g < 2 ^ 31 by omega), hday]
  rcases (show k = 0 ∨ k = 1 ∨ k = 2 ∨ k = 3 by omega) with rfl | rfl | rfl | rfl
  · simp only [show (nI 0 = (0 : Int32)) = True from eq_true rfl, show (nI 0 = (1 : Int32)) = False from eq_false (by decide), show (nI 0 = (3 : Int32)) = False from eq_false (by decide), show ((2 : Int32) ≤ nI 0) = False from eq_false (by decide), i10, if_true, if_false]
    cases c3 : wb a2
    · simp only [Bool.false_eq_true, if_false]; exact ⟨_, _, _, rfl, rfl, h⟩
    cases c4 : rb a3 100
    · simp only [Bool.false_eq_true, if_false, if_true]; exact ⟨_, _, _, rfl, rfl, h⟩
    simp only [if_true]
    refine ⟨_, _, _, rfl, rfl, fact_new h hn hf (mk_f4 pk_us pk_us ⟨pk_us.trans pk_us.symm, ?_, pk_us.trans pk_us.symm, ?_, pk_us.trans pk_us.symm, ?_⟩)⟩
    · show lineOf _ n (upd (Sm.2.1 26) n (nI g) n)
      rw [pk_us]
      exact ⟨g, hg, rfl, by show upd (Sm.2.1 24) n _ g = 0; rw [pk_un (Nat.ne_of_lt hg)]; exact c2⟩
    · show rng (upd (Sm.2.1 25) n a3 n) 100; rw [pk_us]; exact rb_rng (by decide) c4
    · show rng (upd (Sm.2.1 27) n a2 n) 1000; rw [pk_us]; exact rn_rng (wb_rn c3)
  · simp only [show (nI 1 = (0 : Int32)) = False from eq_false (by decide), show (nI 1 = (1 : Int32)) = True from eq_true rfl, show (nI 1 = (3 : Int32)) = False from eq_false (by decide), show ((2 : Int32) ≤ nI 1) = False from eq_false (by decide), i10, if_true, if_false]
    cases c3 : wb a2
    · simp only [Bool.false_eq_true, if_false]; exact ⟨_, _, _, rfl, rfl, h⟩
    simp only [if_true]
    refine ⟨_, _, _, rfl, rfl, fact_new h hn hf (mk_f5 pk_us pk_us ⟨pk_us.trans pk_us.symm, ?_, pk_us.trans pk_us.symm⟩)⟩
    show lineOf _ n (upd (Sm.2.1 26) n (nI g) n)
    rw [pk_us]
    exact ⟨g, hg, rfl, by show upd (Sm.2.1 24) n _ g = 0; rw [pk_un (Nat.ne_of_lt hg)]; exact c2⟩
  · simp only [show (nI 2 = (0 : Int32)) = False from eq_false (by decide), show (nI 2 = (1 : Int32)) = False from eq_false (by decide), show (nI 2 = (3 : Int32)) = False from eq_false (by decide), show ((2 : Int32) ≤ nI 2) = True from eq_true (by decide), i10, if_true, if_false]
    cases c4 : rb a3 100
    · simp only [Bool.false_eq_true, if_false, if_true]; exact ⟨_, _, _, rfl, rfl, h⟩
    simp only [if_true]
    exact ⟨_, _, _, rfl, rfl, fact_new h hn hf (mk_f6 pk_us pk_us ⟨pk_us.trans pk_us.symm, pk_us.trans pk_us.symm⟩)⟩
  · simp only [show (nI 3 = (0 : Int32)) = False from eq_false (by decide), show (nI 3 = (1 : Int32)) = False from eq_false (by decide), show (nI 3 = (3 : Int32)) = True from eq_true rfl, show ((2 : Int32) ≤ nI 3) = True from eq_true (by decide), i10, if_true, if_false]
    cases c4 : rb a3 100
    · simp only [Bool.false_eq_true, if_false, if_true]; exact ⟨_, _, _, rfl, rfl, h⟩
    by_cases c5 : Sm.2.1 25 g ≤ a3
    · simp only [if_true, c5]
      refine ⟨_, _, _, rfl, rfl, fact_new h hn hf (mk_f7 pk_us pk_us ⟨pk_us.trans pk_us.symm, ?_, pk_us.trans pk_us.symm, ?_⟩)⟩
      · show lineOf _ n (upd (Sm.2.1 26) n (nI g) n)
        rw [pk_us]
        exact ⟨g, hg, rfl, by show upd (Sm.2.1 24) n _ g = 0; rw [pk_un (Nat.ne_of_lt hg)]; exact c2⟩
      · show rng (upd (Sm.2.1 25) n a3 n) 100; rw [pk_us]; exact rb_rng (by decide) c4
    · simp only [if_true, c5, if_false]; exact ⟨_, _, _, rfl, rfl, h⟩
