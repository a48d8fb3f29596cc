theorem CM_f {I A : List Nat} {T T' : ST} {b : BK} (h1 : 16 ∉ I) (h2 : 17 ∉ I) (h3 : 23 ∉ A) (h : fr I A T T') (hc : CM T b) : CM T' b := by
  rcases hc with q | ⟨d, hd, q1, q2, q3⟩
  · exact Or.inl ((h.1 16 h1).trans q)
  · exact Or.inr ⟨d, hd, (h.1 16 h1).trans q1, (h.1 17 h2).trans q2, fun i hi => by rw [h.2.1 23 h3]; exact q3 i hi⟩
theorem stM_lp {T0 : ST} {n x N D : Nat} (hn : n ≤ 180) (hx : x < n) (dx : T0.2.1 25 x = nI D) (Kb : ST → Int32 → Int32 → Int32 → Option ST) (l2 : Int32) (e : Nat) : ∀ (l : List Nat), (∀ a, a ∈ l → a < n ∧ T0.2.1 25 a = nI D) → l.length < 180 → ∀ T, p2 T = p2 T0 → rlA (T.2.1 32) l → T.1 24 = nI N → ∃ T', m_stands_h40 (m_stands_j90 Kb) (l.length + 1 + e) T (nI D) l2 (nI x) (nI l.length) = Kb T' (nI D) l2 (nI (x + 1)) ∧ fr [24] [32] T T' ∧ T'.1 24 = nI (N + 1) ∧ rlA (T'.2.1 32) (insL (kI T0) x l) ∧ ∀ i, l.length < i → T'.2.1 32 i = T.2.1 32 i := by
  intro l
  induction l with
  | nil =>
    intro _ hL T hp hl h24
    refine ⟨sI (sA T 32 (upd (T.2.1 32) 0 (nI x))) 24 (nI (N + 1)), ?_, fr_tr (fr_A _ _ (by decide)) (fr_I _ _ (by decide)), rfl, ⟨by show upd (T.2.1 32) 0 (nI x) 0 = nI x; exact pk_us, trivial⟩, fun i hi => pk_un (by simp at hi; omega)⟩
    rw [show ([] : List Nat).length + 1 + e = e + 1 by simp; omega, m_stands_h40, if_pos (show nI ([] : List Nat).length ≤ 0 from by decide)]
    unfold m_stands_j90 m_stands_j108
    rw [G_in (show ([] : List Nat).length < 180 by decide) (by decide), nI_1]
    show Kb (sI (sA T 32 (upd (T.2.1 32) 0 (nI x))) 24 (T.1 24 + 1)) _ _ _ = _
    rw [h24, nI_1]
  | cons a r ih =>
    intro ha hL T hp hl h24
    rw [List.length_cons] at hL
    obtain ⟨a1, a2⟩ := ha a (by simp)
    have e26 := (p2_A hp).2.2
    have h0 : ¬ nI (r.length + 1) ≤ 0 := nI_ge (a := 0) (by omega) (by omega)
    have hk : (T0.2.1 26 a ≤ T0.2.1 26 x) = (kI T0 a ≤ kI T0 x) := by unfold kI; rw [a2, dx]; exact kap_e
    rw [List.length_cons, show r.length + 1 + 1 + e = (r.length + 1 + e) + 1 by omega, m_stands_h40, if_neg h0, nI_p, G_in (by omega) (by decide), nI_clamp (by omega), hl.1, G_in (by omega) (by decide), G_in (by omega) (by decide), nI_clamp (by omega), nI_clamp (by omega), e26, insL]
    by_cases c : kI T0 a ≤ kI T0 x
    · rw [if_pos c, if_pos (hk ▸ c)]
      unfold m_stands_j90 m_stands_j108
      rw [G_in (by omega) (by decide), nI_clamp (by omega), nI_1]
      refine ⟨_, rfl, fr_tr (fr_A _ _ (by decide)) (fr_I _ _ (by decide)), ?_, ⟨?_, ?_⟩, fun i hi => pk_un (by omega)⟩
      · show T.1 24 + 1 = _; rw [h24, nI_1]
      · show upd (T.2.1 32) (r.length + 1) (nI x) (a :: r).length = nI x; exact pk_us
      · exact rlA_u (l := a :: r) (by simp) hl
    · rw [if_neg c, if_neg (fun z => c (hk ▸ z)), G_in (by omega) (by decide), G_in (by omega) (by decide)]
      simp only [nI_clamp (show r.length + 1 < 2 ^ 31 by omega), pk_m1]
      obtain ⟨T', g1, g2, g3, g4, g5⟩ := ih (fun y hy => ha y (by simp [hy])) (by omega) (sA T 32 (upd (T.2.1 32) (r.length + 1) (nI a))) hp (rlA_u (by omega) hl.2) h24
      refine ⟨T', g1, fr_tr (fr_A _ _ (by decide)) g2, g3, ⟨?_, g4⟩, fun i hi => ?_⟩
      · rw [insL_len, g5 _ (by omega)]; exact pk_us
      · rw [g5 i (by omega)]; exact pk_un (by omega)
theorem st_h7 {T0 : ST} {m D : Nat} (hm : m ≤ 180) (e : Nat) : ∀ j i, i + j = m → ∀ T, p2 T = p2 T0 → T.1 24 = nI (srt (kI T0) (liD T0 D) i).length → rlA (T.2.1 32) (srt (kI T0) (liD T0 D) i) → ∃ T', m_stands_h7 (j + 1 + e) T (nI D) (nI m) (nI i) = some T' ∧ fr [24] [32] T T' ∧ T'.1 24 = nI (srt (kI T0) (liD T0 D) m).length ∧ rlA (T'.2.1 32) (srt (kI T0) (liD T0 D) m) := by
  intro j
  induction j with
  | zero =>
    intro i hi T hp h1 h2
    have : i = m := by omega
    subst this
    refine ⟨T, ?_, fr_rfl _ _ _, h1, h2⟩
    rw [show 0 + 1 + e = e + 1 by omega, m_stands_h7, if_pos (nI_le (by omega) (by omega))]
  | succ j ih =>
    intro i hi T hp h1 h2
    have ih' := ih (i + 1) (by omega)
    have hlen := srt_len (kI T0) (liD T0 D) i
    rw [show j + 1 + 1 + e = (j + 1 + e) + 1 by omega, m_stands_h7, if_neg (nI_ge (by omega) (by omega)), G_in (by omega) (by decide), G_in (by omega) (by decide), nI_clamp (by omega), (p2_A hp).1, (p2_A hp).2.1]
    by_cases c : T0.2.1 24 i = 0
    · rw [if_pos c]
      by_cases c2 : T0.2.1 25 i = nI D
      · have el : liD T0 D i = true := by unfold liD; rw [decide_eq_true c, decide_eq_true c2]; rfl
        have es : srt (kI T0) (liD T0 D) (i + 1) = insL (kI T0) i (srt (kI T0) (liD T0 D) i) := by rw [srt, if_pos el]
        obtain ⟨e', he⟩ := FU_s ((srt (kI T0) (liD T0 D) i).length + 1) (by omega)
        rw [if_pos c2, h1, he]
        obtain ⟨T', g1, g2, g3, g4, -⟩ := stM_lp (N := (srt (kI T0) (liD T0 D) i).length) (T0 := T0) (n := m) hm (show i < m by omega) c2 (m_stands_h7 (j + 1 + e)) (nI m) e' (srt (kI T0) (liD T0 D) i) (fun a ha => by
            obtain ⟨a1, a2⟩ := srt_mem ha
            refine ⟨by omega, ?_⟩
            unfold liD at a2
            rw [Bool.and_eq_true] at a2
            exact of_decide_eq_true a2.2) (by omega) T hp h2 h1
        rw [g1]
        obtain ⟨T2, k1, k2, k3⟩ := ih' T' ((p2_fr (by decide) (by decide) g2).trans hp) (by rw [es, insL_len]; exact g3) (by rw [es]; exact g4)
        exact ⟨T2, k1, fr_tr g2 k2, k3⟩
      · rw [if_neg c2]
        have es : srt (kI T0) (liD T0 D) (i + 1) = srt (kI T0) (liD T0 D) i := by rw [srt, if_neg (by unfold liD; rw [decide_eq_false c2]; simp)]
        unfold m_stands_j108
        rw [nI_1]
        exact ih' T hp (by rw [es]; exact h1) (by rw [es]; exact h2)
    · rw [if_neg c]
      have es : srt (kI T0) (liD T0 D) (i + 1) = srt (kI T0) (liD T0 D) i := by rw [srt, if_neg (by unfold liD; rw [decide_eq_false c]; simp)]
      unfold m_stands_j108
      rw [nI_1]
      exact ih' T hp (by rw [es]; exact h1) (by rw [es]; exact h2)
theorem st_m {T0 T : ST} {m D : Nat} (hm : m ≤ 180) (hp : p2 T = p2 T0) : ∃ T', m_stands T (nI D) (nI m) = some T' ∧ fr [24] [32] T T' ∧ T'.1 24 = nI (srt (kI T0) (liD T0 D) m).length ∧ rlA (T'.2.1 32) (srt (kI T0) (liD T0 D) m) := by
  obtain ⟨e, he⟩ := FU_s (m + 1) (by omega)
  unfold m_stands
  rw [he]
  obtain ⟨T', g1, g2, g3⟩ := st_h7 (T0 := T0) (D := D) hm e m 0 (by omega) (sI T 24 0) hp rfl trivial
  exact ⟨T', g1, fr_tr (fr_I _ _ (by decide)) g2, g3⟩
theorem pa_h17 {S0 T0 : ST} {b : BK} {n m d : Nat} (h : CT S0 T0 b n) (hm : m ≤ n) (hd : d < 100) (k : Int32) (e : Nat) : ∀ (s : List Nat) (i c : Nat) (w : Int32) (T : ST), sgN (T.2.1 32) i s → T.1 24 = nI (i + s.length) → i + s.length ≤ 180 → T.1 25 = nI c → (∀ x, x ∈ s → x < m ∧ T0.2.1 24 x = 0) → p2 T = p2 T0 → CM T b → ∃ T', m_printAt_h17 (s.length + 1 + e) T (nI d) (nI m) k w (nI i) = some ((scn k (s.filter (qL S0 m d)) (w, c)).1, T') ∧ T'.1 25 = nI (scn k (s.filter (qL S0 m d)) (w, c)).2 ∧ p2 T' = p2 T0 ∧ CM T' b := by
  intro s
  induction s with
  | nil =>
    intro i c w T h1 h2 h3 h4 h5 h6 h7
    refine ⟨T, ?_, h4, h6, h7⟩
    rw [show ([] : List Nat).length + 1 + e = e + 1 by simp; omega, m_printAt_h17, h2, if_pos (nI_le (by simp) (by simp at h3; omega))]
    rfl
  | cons x r ih =>
    intro i c w T h1 h2 h3 h4 h5 h6 h7
    rw [List.length_cons] at h2 h3
    obtain ⟨x1, x2⟩ := h5 x (by simp)
    obtain ⟨T1, p1, p2', p3, p4, p5, p6, p7⟩ := prtM h hm x1 x2 hd h6 h7
    have hp1 : p2 T1 = p2 T0 := (p2_x p2').trans h6
    rw [List.length_cons, show r.length + 1 + 1 + e = (r.length + 1 + e) + 1 by omega, m_printAt_h17, h2, if_neg (nI_ge (by omega) (by omega)), G_in (by omega) (by decide), nI_clamp (by omega), h1.1, p1, calV_s, List.filter_cons]
    have e25 : T1.1 25 = nI c := by rw [p2'.1 25 (by decide)]; exact h4
    have e24 : T1.1 24 = nI (i + 1 + r.length) := by rw [p2'.1 24 (by decide), h2]; congr 1; omega
    have e32 : T1.2.1 32 = T.2.1 32 := p2'.2.1 32 (by decide)
    unfold m_printAt_j69 m_printAt_j79
    by_cases c1 : T1.1 23 = -1
    · have q : qL S0 m d x = true := by unfold qL; exact decide_eq_true (p4.mp c1)
      rw [if_pos c1, if_pos q, G_in (by omega) (by decide), e25, e32, h1.1, nI_1, scn]
      have ih' := fun w => ih (i + 1) (c + 1) w (sI T1 25 (nI (c + 1))) (by show sgN (T1.2.1 32) _ _; rw [e32]; exact h1.2) e24 (by omega) rfl (fun y hy => h5 y (by simp [hy])) hp1 (CM_f (I := [25]) (A := []) (by decide) (by decide) (by decide) (fr_I _ _ (by decide)) p3)
      simp only [nI_1]
      by_cases c2 : nI c = k
      · rw [if_pos c2]; simp only [c2, if_true]; exact ih' (nI x)
      · rw [if_neg c2]; simp only [c2, if_false]; exact ih' w
    · have q : ¬ qL S0 m d x = true := by unfold qL; simp only [decide_eq_true_eq]; exact fun z => c1 (p4.mpr z)
      rw [if_neg c1, if_neg q, nI_1]
      exact ih (i + 1) c w T1 (by rw [e32]; exact h1.2) e24 (by omega) e25 (fun y hy => h5 y (by simp [hy])) hp1 p3
theorem pa_m {S0 T0 : ST} {b : BK} {n m d D : Nat} (h : CT S0 T0 b n) (hm : m ≤ n) (hd : d < 100) (k : Int32) : ∃ T', m_printAt T0 (nI D) (nI d) (nI m) k = some ((scn k (srt (kI T0) (fun f => liD T0 D f && qL S0 m d f) m).reverse (-1, 0)).1, T') ∧ T'.1 25 = nI (srt (kI T0) (fun f => liD T0 D f && qL S0 m d f) m).length ∧ p2 T' = p2 T0 ∧ CM T' b := by
  have hn := h.2.2.2.2.1
  obtain ⟨T1, g1, g2, g3, g4⟩ := st_m (T0 := T0) (T := T0) (D := D) (show m ≤ 180 by omega) rfl
  have hlen := srt_len (kI T0) (liD T0 D) m
  obtain ⟨e, he⟩ := FU_s ((srt (kI T0) (liD T0 D) m).reverse.length + 1) (by rw [List.length_reverse]; omega)
  obtain ⟨T', k1, k2, k3, k4⟩ := pa_h17 h hm hd k e (srt (kI T0) (liD T0 D) m).reverse 0 0 (-1) (sI T1 25 0) (rlA_sg g4) (by rw [List.length_reverse, Nat.zero_add]; exact g3) (by rw [List.length_reverse]; omega) rfl (fun x hx => by
    obtain ⟨a1, a2⟩ := srt_mem (List.mem_reverse.mp hx)
    unfold liD at a2
    rw [Bool.and_eq_true] at a2
    exact ⟨a1, of_decide_eq_true a2.1⟩) (show p2 T1 = p2 T0 from p2_fr (I := [24]) (A := [32]) (by decide) (by decide) g2) (CM_f (I := [24, 25]) (A := [32]) (by decide) (by decide) (by decide) (fr_tr (fr_sub (by decide) (by decide) g2) (fr_I _ _ (by decide))) h.2.2.2.1)
  have hF : (srt (kI T0) (liD T0 D) m).reverse.filter (qL S0 m d) = (srt (kI T0) (fun f => liD T0 D f && qL S0 m d f) m).reverse := by rw [List.filter_reverse, srt_filter]
  rw [hF] at k1 k2
  rw [scn_2, List.length_reverse] at k2
  refine ⟨T', ?_, by rw [k2]; show nI (0 + _) = _; rw [Nat.zero_add], k3, k4⟩
  unfold m_printAt
  rw [g1, calV_s, he]
  exact k1
theorem isP_x {S : ST} {n : Nat} (hn : n ≤ 180) (e : S.1 11 = nI n) (a0 a1 a2 : Int32) : x11_isPrint S a0 a1 a2 = some (bit (rb a0 100 && (rb a1 100 && (decide (a0 ≤ a1) && rb a2 (n + 1)))), S) := by
  unfold x11_isPrint
  simp only [b100, known_x hn e, chk, chkS]
  cases rb a0 100
  · rfl
  cases rb a1 100
  · rfl
  by_cases c : a1 < a0
  · have c' : ¬ a0 ≤ a1 := Int32.not_le.mpr c
    cases rb a2 (n + 1) <;> simp [c, c', bit]
  · have c' : a0 ≤ a1 := Int32.not_lt.mp c
    cases rb a2 (n + 1) <;> simp [c, c', bit]
theorem isP_m {S : ST} {n : Nat} (hn : n ≤ 180) (e : S.1 18 = nI n) (a0 a1 a2 : Int32) : m_isPrint S a0 a1 a2 = some (bit (rb a0 100 && (rb a1 100 && (decide (a0 ≤ a1) && rb a2 (n + 1)))), S) := by
  unfold m_isPrint
  simp only [mDay, known_m hn e, chk, chkS]
  cases rb a0 100
  · rfl
  cases rb a1 100
  · rfl
  by_cases c : a1 < a0
  · have c' : ¬ a0 ≤ a1 := Int32.not_le.mpr c
    cases rb a2 (n + 1) <;> simp [c, c', bit]
  · have c' : a0 ≤ a1 := Int32.not_lt.mp c
    cases rb a2 (n + 1) <;> simp [c, c', bit]
theorem sim_lines {Sx Sm : ST} (h : RR Sx Sm) (a0 a1 a2 : Int32) : ∃ r Sx' Sm', x11_lines Sx a0 a1 a2 = some (r, Sx') ∧ m_lines Sm a0 a1 a2 = some (r, Sm') ∧ RR Sx' Sm' := by
  obtain ⟨b, n, hZ, hCT, f1, f2⟩ := RR_CT h
  have hn := hCT.2.2.2.2.1
  unfold x11_lines m_lines
  rw [isP_x hn f1, isP_m hn f2, chkS, chkS]
  cases c : (rb a0 100 && (rb a1 100 && (decide (a0 ≤ a1) && rb a2 (n + 1))))
  · exact ⟨_, _, _, rfl, rfl, h⟩
  simp only [Bool.and_eq_true] at c
  obtain ⟨D, hD, rfl⟩ := rb_rng (by decide) c.1
  obtain ⟨d, hd, rfl⟩ := rb_rng (by decide) c.2.1
  obtain ⟨m, hm, rfl⟩ := rb_rng (by omega) c.2.2.2
  obtain ⟨S', x1, x2, x3, -⟩ := lp_x (D := D) hCT (show m ≤ n by omega) hd
  obtain ⟨T', m1, m2, m3, m4⟩ := pa_m (D := D) hCT (show m ≤ n by omega) hd (-1)
  have hlen := srt_len (kI Sm) (fun f => liD Sm D f && qL Sx m d f) m
  simp only [if_true]
  rw [x1, m1, calV_s, cal_s, scn_m _ _ (by rw [List.length_reverse]; show 0 + _ < _; omega), if_pos rfl, m2, x3]
  exact ⟨_, _, _, rfl, rfl, RR_mk hZ hCT.2.1 hCT.2.2.1 hCT.1 x2 m3 m4⟩
theorem sim_at {Sx Sm : ST} (h : RR Sx Sm) (a0 a1 a2 a3 : Int32) : ∃ r Sx' Sm', x11_at Sx a0 a1 a2 a3 = some (r, Sx') ∧ m_at Sm a0 a1 a2 a3 = some (r, Sm') ∧ RR Sx' Sm' := by
  obtain ⟨b, n, hZ, hCT, f1, f2⟩ := RR_CT h
  have hn := hCT.2.2.2.2.1
  unfold x11_at m_at
  rw [isP_x hn f1, isP_m hn f2, chkS, chkS]
  cases c : (rb a0 100 && (rb a1 100 && (decide (a0 ≤ a1) && rb a2 (n + 1))))
  · exact ⟨_, _, _, rfl, rfl, h⟩
  simp only [Bool.and_eq_true] at c
  obtain ⟨D, hD, rfl⟩ := rb_rng (by decide) c.1
  obtain ⟨d, hd, rfl⟩ := rb_rng (by decide) c.2.1
  obtain ⟨m, hm, rfl⟩ := rb_rng (by omega) c.2.2.2
  obtain ⟨S', x1, x2, x3, x4⟩ := lp_x (D := D) hCT (show m ≤ n by omega) hd
  obtain ⟨T', m1, m2, m3, m4⟩ := pa_m (D := D) hCT (show m ≤ n by omega) hd a3
  have hlen := srt_len (kI Sm) (fun f => liD Sm D f && qL Sx m d f) m
  simp only [if_true]
  rw [x1, calV_s, ent_x (show _ ≤ 180 by omega) x3 x4, cal_s]
  by_cases c3 : a3 < 0
  · rw [if_pos c3, if_neg (Int32.not_le.mpr c3)]
    exact ⟨_, _, _, rfl, rfl, RR_mk hZ hCT.2.1 hCT.2.2.1 hCT.1 x2 rfl hCT.2.2.2.1⟩
  · rw [if_neg c3, if_pos (Int32.not_lt.mp c3), m1, cal_s]
    exact ⟨_, _, _, rfl, rfl, RR_mk hZ hCT.2.1 hCT.2.2.1 hCT.1 x2 m3 m4⟩
