theorem fod_rel {S T : ST} {b : BK} {n m k : Nat} (h : CT S T b n) (hm : m ≤ n) (hk : k < m) (hl : T.2.1 24 k = 4) : ∃ r S' T', x3_fateOnItsDay S (nI k) (nI m) = some (r, S') ∧ m_mendOf T (nI k) (nI m) = some (r, T') ∧ fr xI xA S S' ∧ fr mI mA T T' ∧ CM T' b ∧ (r = 4 → ∃ p T'', S'.1 17 = nI p ∧ m_first T' 2 = some (nI p, T'') ∧ fr [15] [22] T' T'') := by
  have hn := h.2.2.2.2.1
  obtain ⟨q1, ⟨g, hg, eg, lg⟩, q3, ⟨dk, hdk, edk⟩, -, -⟩ := (h.2.2.2.2.2 k (by omega)).2.2.2.2.2.1 hl
  obtain ⟨S1, T1, w, l, v, r, p1, p2, p3, p4, p5, p6, p7, p8, p9, p10, p11, p12, p13, p14, p15⟩ := mnd_rel h hm hg (show k ≤ m by omega) lg (nI dk)
  have hC1 : CT S1 T1 b n := CT_k h p3 p4 p5
  obtain ⟨T2, j1, j2, j3, j4, j5, j6⟩ := j199_m h.1 hC1.2.2.1 p5 (show m ≤ 180 by omega) (show g < m by omega) hdk p11
  have fT2 : fr mI mA T1 T2 := fr_sub (by decide) (by decide) j2
  have hC2 : CT S1 T2 b n := CT_k hC1 (fr_rfl _ _ _) fT2 (FD_CM hdk j3)
  have e24 : T2.2.1 24 k = 4 := by rw [fT2.2.1 24 (by decide), p4.2.1 24 (by decide)]; exact hl
  obtain ⟨r2, S3, T3, f1, f2, f3, f4, f5, -, -, f8, -⟩ := fate_rel hC2 hm hk e24 p6 ((j2.1 19 (by decide)).trans p7) p8 ((j2.1 20 (by decide)).trans p9) p10 (fun i hi a1 a2 a3 a4 => (j5 i hi).trans (sv_w i hi a1 a2 a3 a4))
  refine ⟨r2, S3, T3, ?_, ?_, fr_tr p3 (fr_sub (by decide) (by decide) f3), fr_tr p4 (fr_tr fT2 (fr_sub (by decide) (by decide) f4)), f5, f8⟩
  · unfold x3_fateOnItsDay
    rw [G_in (by omega) (by decide), G_in (by omega) (by decide), nI_clamp (by omega), q1, eg, q3, edk, p1, calV_s, f1, cal_s]
  · unfold m_mendOf
    rw [G_in (by omega) (by decide), G_in (by omega) (by decide), nI_clamp (by omega), eg, edk, p2, j1, calV_s, f2, cal_s]
noncomputable def m_isMend_t (S : ST) (l1 : Int32) (l2 : Int32) : Option (Int32 × ST) :=
  if l1 < 0 then (some (0, S)) else (if l2 ≤ l1 then (some (0, S)) else (G (inb l1 180) <|
  if (S.2.1 24 (Int32.toNatClampNeg l1)) = 4 then (some (1, S)) else (some (0, S))))
theorem isMend_b {S : ST} {n : Nat} (hn : n ≤ 180) (e : S.1 18 = nI n) (x y : Int32) : m_isMend S x y = if rb y (n + 1) = true then m_isMend_t S x y else some (0, S) := by
  unfold m_isMend m_isMend_t
  rw [known_m hn e, chkS]
theorem isMend_t {S : ST} {m : Nat} (hm : m ≤ 180) (x : Int32) : m_isMend_t S x (nI m) = some (bit (rb x m && decide (S.2.1 24 x.toNatClampNeg = 4)), S) := by
  unfold m_isMend_t
  cases c : rb x m
  · rw [Bool.false_and]
    rcases not_rng (by omega) (rb_f (by omega) c) with q | q
    · rw [if_pos q]; rfl
    · by_cases q0 : x < 0
      · rw [if_pos q0]; rfl
      · rw [if_neg q0, if_pos q]; rfl
  · obtain ⟨j, hj, rfl⟩ := rb_rng (by omega) c
    rw [if_neg (nI_pos (by omega)), if_neg (nI_ge hj (by omega)), G_in (by omega) (by decide), Bool.true_and, bit_ite]
theorem RR_CT {Sx Sm : ST} (h : RR Sx Sm) : ∃ b n, RZ Sx Sm ∧ CT Sx Sm b n ∧ Sx.1 11 = nI n ∧ Sm.1 18 = nI n := by
  obtain ⟨hZ, b, hb, hX, hM, hC⟩ := RR_un h
  obtain ⟨n, hn, f1, f2, hf⟩ := h.2.2.1
  exact ⟨b, n, hZ, ⟨hb, hX, hM, hC, hn, hf⟩, f1, f2⟩
theorem CT_RR {Sx Sm Sx' Sm' : ST} {b : BK} {n : Nat} (hZ : RZ Sx Sm) (h : CT Sx Sm b n) (hx : fr xI xA Sx Sx') (hm : fr mI mA Sm Sm') (hc : CM Sm' b) : RR Sx' Sm' := RR_mk hZ h.2.1 h.2.2.1 h.1 (pX_x hx) (p2_x hm) hc
theorem sim_mended {Sx Sm : ST} (h : RR Sx Sm) (a0 a1 : Int32) : ∃ r Sx' Sm', x11_mended Sx a0 a1 = some (r, Sx') ∧ m_mended Sm a0 a1 = some (r, Sm') ∧ RR Sx' Sm' := by
  obtain ⟨b, n, hZ, hCT, f1, f2⟩ := RR_CT h
  have hn := hCT.2.2.2.2.1
  unfold x11_mended m_mended
  simp only [known_x hn f1, isMend_b hn f2, chkS, calR]
  cases c : rb a1 (n + 1)
  · exact ⟨_, _, _, rfl, rfl, h⟩
  obtain ⟨m, hm, rfl⟩ := rb_rng (by omega) c
  simp only [if_true, isMend_t (show m ≤ 180 by omega), ofKind_b (show m ≤ n by omega) hn f1, chkS]
  cases c1 : rb a0 m
  · exact ⟨_, _, _, rfl, rfl, h⟩
  obtain ⟨g, hg, rfl⟩ := rb_rng (by omega) c1
  have hR := hCT.2.2.2.2.2 g (by omega)
  simp only [Bool.true_and, nI_clamp (show g < 2 ^ 31 by omega), FK_0 hR.1]
  cases c2 : decide (Sm.2.1 24 g = 4)
  · exact ⟨_, _, _, rfl, rfl, h⟩
  obtain ⟨r, S', T', p1, p2, p3, p4, p5, -⟩ := fod_rel hCT (show m ≤ n by omega) hg (of_decide_eq_true c2)
  simp only [if_true, p1, p2]
  exact ⟨r, S', T', rfl, rfl, CT_RR hZ hCT p3 p4 p5⟩
theorem sim_bar {Sx Sm : ST} (h : RR Sx Sm) (a0 a1 : Int32) : ∃ r Sx' Sm', x11_bar Sx a0 a1 = some (r, Sx') ∧ m_bar Sm a0 a1 = some (r, Sm') ∧ RR Sx' Sm' := by
  obtain ⟨b, n, hZ, hCT, f1, f2⟩ := RR_CT h
  have hn := hCT.2.2.2.2.1
  unfold x11_bar m_bar
  simp only [known_x hn f1, isMend_b hn f2, chkS, calR]
  cases c : rb a1 (n + 1)
  · exact ⟨_, _, _, rfl, rfl, h⟩
  obtain ⟨m, hm, rfl⟩ := rb_rng (by omega) c
  simp only [if_true, isMend_t (show m ≤ 180 by omega), ofKind_b (show m ≤ n by omega) hn f1, chkS]
  cases c1 : rb a0 m
  · exact ⟨_, _, _, rfl, rfl, h⟩
  obtain ⟨g, hg, rfl⟩ := rb_rng (by omega) c1
  have hR := hCT.2.2.2.2.2 g (by omega)
  simp only [Bool.true_and, nI_clamp (show g < 2 ^ 31 by omega), FK_0 hR.1]
  cases c2 : decide (Sm.2.1 24 g = 4)
  · exact ⟨_, _, _, rfl, rfl, h⟩
  obtain ⟨r, S', T', p1, p2, p3, p4, p5, p6⟩ := fod_rel hCT (show m ≤ n by omega) hg (of_decide_eq_true c2)
  simp only [if_true, p1, p2, cal_s]
  by_cases cr : r = 4
  · obtain ⟨p, T'', q1, q2, q3⟩ := p6 cr
    rw [if_pos cr, if_pos cr, q1, q2]
    exact ⟨_, _, _, rfl, rfl, CT_RR hZ hCT p3 (fr_tr p4 (fr_sub (by decide) (by decide) q3)) (CM_15 q3 p5)⟩
  · rw [if_neg cr, if_neg cr]
    exact ⟨_, _, _, rfl, rfl, CT_RR hZ hCT p3 p4 p5⟩
theorem s2_ite {α : Type} (r : Int32) (S : α) : (if r = -1 then some ((-2 : Int32), S) else some (r, S)) = some (s2 r, S) := by
  unfold s2
  by_cases q : r = -1
  · rw [if_pos q, if_pos q]
  · rw [if_neg q, if_neg q]
theorem sim_printed {Sx Sm : ST} (h : RR Sx Sm) (a0 a1 a2 a3 : Int32) : ∃ r Sx' Sm', x11_printed Sx a0 a1 a2 a3 = some (r, Sx') ∧ m_printed Sm a0 a1 a2 a3 = some (r, Sm') ∧ RR Sx' Sm' := by
  obtain ⟨b, n, hZ, hCT, f1, f2⟩ := RR_CT h
  have hn := hCT.2.2.2.2.1
  unfold x11_printed m_printed
  simp only [known_x hn f1, known_m hn f2, chkS]
  cases c : rb a2 (n + 1)
  · exact ⟨_, _, _, rfl, rfl, h⟩
  obtain ⟨m, hm, rfl⟩ := rb_rng (by omega) c
  simp only [if_true, mLine_b (show m ≤ 180 by omega), ofKind_b (show m ≤ n by omega) hn f1, chkS]
  cases c1 : rb a0 m
  · exact ⟨_, _, _, rfl, rfl, h⟩
  obtain ⟨g, hg, rfl⟩ := rb_rng (by omega) c1
  have hR := hCT.2.2.2.2.2 g (by omega)
  simp only [Bool.true_and, nI_clamp (show g < 2 ^ 31 by omega), FK_4 hR.1]
  cases c2 : decide (Sm.2.1 24 g = 0)
  · exact ⟨_, _, _, rfl, rfl, h⟩
  have c2 := of_decide_eq_true c2
  simp only [if_true, b100, mDay, chk, b6, n5]
  cases c3 : rb a1 100
  · exact ⟨_, _, _, rfl, rfl, h⟩
  obtain ⟨d, hd, rfl⟩ := rb_rng (by decide) c3
  simp only [if_true, G_in (show g < 180 by omega) (by decide : 180 < 2 ^ 31), (hR.2.1 c2).1]
  by_cases c4 : nI d < Sm.2.1 25 g
  · simp only [c4, if_true]; exact ⟨_, _, _, rfl, rfl, h⟩
  simp only [c4, if_false]
  cases c5 : rb a3 6
  · exact ⟨_, _, _, rfl, rfl, h⟩
  obtain ⟨k, hk, rfl⟩ := rb_rng (by decide) c5
  obtain ⟨S', T', w, l, v, r, p1, p2, p3, p4, p5, p6, p7, p8, p9, p10, p11, p12, p13, ⟨q, pq⟩, p15, p16, p17, p18, -, -, -, -, p23⟩ := prt_rel hCT (show m ≤ n by omega) hg c2 hd
  have hrr := CT_RR hZ hCT p3 p4 (FD_CM hd p5)
  have hrr0 : RR S' Sm := CT_RR hZ hCT p3 (fr_rfl _ _ _) hCT.2.2.2.1
  simp only [if_true, p1, p2, calV_s, p18, cal_s, s2_ite]
  rw [p6, p7, p8, p9, p13, p15, p16, p17]
  rcases (show k = 0 ∨ k = 1 ∨ k = 2 ∨ k = 3 ∨ k = 4 ∨ k = 5 by omega) with rfl | rfl | rfl | rfl | rfl | rfl
  · exact ⟨_, _, _, rfl, rfl, hrr⟩
  · rw [pq]
    cases q
    · exact ⟨_, _, _, rfl, rfl, hrr⟩
    · exact ⟨_, _, _, rfl, rfl, hrr⟩
  · exact ⟨_, _, _, rfl, rfl, hrr⟩
  · exact ⟨_, _, _, rfl, rfl, hrr⟩
  · exact ⟨_, _, _, rfl, rfl, hrr⟩
  · exact ⟨_, _, _, rfl, rfl, hrr0⟩
theorem crt_j {Sx Sm : ST} {b : BK} {n m g f d : Nat} (hZ : RZ Sx Sm) (hCT : CT Sx Sm b n) (hm : m ≤ n) (hf : f < m) (hl : Sm.2.1 24 f = 0) (hd : d < 100) (hg : g < 180) (e1 : Sx.2.1 14 g = nI d) (e2 : Sm.2.1 25 g = nI d) (e3 : Sm.2.1 26 g = nI f) (k : Int32) : ∃ r Sx' Sm', x11_court_j63 Sx (nI g) k (nI m) (nI d) (nI f) = some (r, Sx') ∧ m_court_j72 Sm (nI g) k (nI m) (nI m) (nI d) (nI f) = some (r, Sm') ∧ RR Sx' Sm' := by
  have hn := hCT.2.2.2.2.1
  obtain ⟨S', T', w, l, v, r, p1, p2, p3, p4, p5, p6, p7, p8, p9, p10, p11, p12, p13, ⟨q, pq⟩, p15, p16, p17, p18, v7, v0, v8, v10, p23⟩ := prt_rel hCT hm hf hl hd
  have hCT' := CT_k hCT p3 p4 (FD_CM hd p5)
  unfold x11_court_j63 m_court_j72
  rw [p1, p2, calV_s, calV_s]
  by_cases ck : k = 1
  · rw [if_pos ck, if_pos ck, G_in hg (by decide), G_in hg (by decide), G_in hg (by decide), nI_clamp (by omega), p3.2.1 14 (by decide), e1, p4.2.1 26 (by decide), e3, p4.2.1 25 (by decide), e2]
    obtain ⟨T2, l1, l2, l3, l4⟩ := lat_m hCT.1 hCT'.2.2.1 (FD_CM hd p5) (show f < 180 by omega) hd (fun i hi _ _ _ _ => p11 i hi)
    have fT2 : fr mI mA Sm T2 := fr_tr p4 (fr_sub (by decide) (by decide) l2)
    have ev : sv v (T'.1 19) (nI d - T'.2.1 25 f) (T'.1 20) 0 = v := by
      funext i
      unfold sv
      rw [p7, p9, p4.2.1 25 (by decide)]
      by_cases a10 : i = 10
      · rw [if_pos a10, a10]; exact v10.symm
      · rw [if_neg a10]
        by_cases a8 : i = 8
        · rw [if_pos a8, a8]; exact v8.symm
        · rw [if_neg a8]
          by_cases a7 : i = 7
          · rw [if_pos a7, a7]; exact v7.symm
          · rw [if_neg a7]
            by_cases a0 : i = 0
            · rw [if_pos a0, a0]; exact v0.symm
            · rw [if_neg a0]
    rw [ev] at l4
    obtain ⟨T3, k1, k2⟩ := fst_M hCT.1 (BM_k (p2_x fT2) hCT.2.2.1) l3.2 (s := 4) (by decide) l4
    obtain ⟨S3, x1, x2⟩ := fst_X hCT.1 hCT'.2.1 hd (s := 4) (by decide) p10
    have h144 := AL_le hCT.1 (d + 1)
    unfold x3_keptFromCourt
    rw [l1, calV_s, show m_first T2 4 = _ from k2, show x7_firstThatHolds S' 4 (nI d) = _ from x2, cal_s, cal_s, cal_s, s2_ite]
    refine ⟨_, _, _, rfl, ?_, CT_RR hZ hCT (fr_tr p3 (fr_sub (by decide) (by decide) x1)) (fr_tr fT2 (fr_sub (by decide) (by decide) k1)) (FD_CM hd (FD_15 k1 l3))⟩
    by_cases c : fdx v b 4 (AL b (d + 1)) < (AL b (d + 1)).1
    · rw [if_pos c, if_pos c]; unfold s2; rw [if_neg (nI_m1 (by omega))]
    · rw [if_neg c, if_neg c]; rfl
  · rw [if_neg ck, if_neg ck, p13, p6, p7, pq]
    have hrr := CT_RR hZ hCT p3 p4 (FD_CM hd p5)
    cases q
    · exact ⟨_, _, _, rfl, rfl, hrr⟩
    · exact ⟨_, _, _, rfl, rfl, hrr⟩
theorem sim_court {Sx Sm : ST} (h : RR Sx Sm) (a0 a1 a2 : Int32) : ∃ r Sx' Sm', x11_court Sx a0 a1 a2 = some (r, Sx') ∧ m_court Sm a0 a1 a2 = some (r, Sm') ∧ RR Sx' Sm' := by
  obtain ⟨b, n, hZ, hCT, f1, f2⟩ := RR_CT h
  have hn := hCT.2.2.2.2.1
  unfold x11_court m_court
  simp only [known_x hn f1, known_m hn f2, chkS]
  cases c : rb a1 (n + 1)
  · exact ⟨_, _, _, rfl, rfl, h⟩
  obtain ⟨m, hm, rfl⟩ := rb_rng (by omega) c
  simp only [if_true, ofKind_b (show m ≤ n by omega) hn f1, chkS]
  cases c1 : rb a0 m
  · simp only [Bool.false_and, Bool.false_eq_true, if_false]
    refine ⟨-1, Sx, Sm, rfl, ?_, h⟩
    rcases not_rng (by omega) (rb_f (by omega) c1) with q | q
    · rw [if_pos q]
    · by_cases q0 : a0 < 0
      · rw [if_pos q0]
      · rw [if_neg q0, if_pos q]
  obtain ⟨g, hg, rfl⟩ := rb_rng (by omega) c1
  have hR := hCT.2.2.2.2.2 g (by omega)
  simp only [Bool.true_and, nI_clamp (show g < 2 ^ 31 by omega), FK_3 hR.1, if_neg (nI_pos (show g < 2 ^ 31 by omega)), if_neg (nI_ge hg (show m < 2 ^ 31 by omega)), G_in (show g < 180 by omega) (by decide : 180 < 2 ^ 31)]
  by_cases c2 : Sm.2.1 24 g = 7
  · obtain ⟨q1, ⟨f, hf, ef, lf⟩, q3, ⟨d, hd, ed⟩⟩ := hR.2.2.2.2.2.2.2.2.1 c2
    simp only [c2, decide_true, if_true, b3, n2, chk]
    cases c3 : rb a2 3
    · exact ⟨_, _, _, rfl, rfl, h⟩
    simp only [if_true]
    unfold m_court_j62
    rw [q1, q3, ef, ed]
    by_cases c4 : a2 = 2
    · simp only [c4, if_true]
      exact crt_j hZ hCT (show m ≤ n by omega) (show f < m by omega) lf hd (show g < 180 by omega) (q3.trans ed) ed ef 2
    · simp only [c4, if_false]
      exact crt_j hZ hCT (show g ≤ n by omega) hf lf hd (show g < 180 by omega) (q3.trans ed) ed ef a2
  · simp only [c2, decide_false, Bool.false_eq_true, if_false]
    exact ⟨_, _, _, rfl, rfl, h⟩
