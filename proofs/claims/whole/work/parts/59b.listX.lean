theorem nI_p (n : Nat) : nI (n + 1) - 1 = nI n := pk_sub (b := 1) (by omega)
def kI (T : ST) (f : Nat) : Int := (T.2.1 25 f).toInt * 8589934592 + (T.2.1 26 f).toInt
theorem kap_e {d m1 m2 : Int32} : (m1 ≤ m2) = (d.toInt * 8589934592 + m1.toInt ≤ d.toInt * 8589934592 + m2.toInt) := by
  rw [Int32.le_iff_toInt_le]
  apply propext
  omega
theorem kap_n {d1 d2 m1 m2 : Int32} (h : ¬ d1 = d2) : (d1 ≤ d2) = (d1.toInt * 8589934592 + m1.toInt ≤ d2.toInt * 8589934592 + m2.toInt) := by
  have h1 := Int32.le_toInt m1
  have h2 := Int32.toInt_lt m1
  have h3 := Int32.le_toInt m2
  have h4 := Int32.toInt_lt m2
  have h5 : ¬ d1.toInt = d2.toInt := fun e => h (Int32.toInt_inj.mp e)
  rw [Int32.le_iff_toInt_le]
  apply propext
  omega
theorem kap_l {d1 d2 m1 m2 : Int32} (h : d1 < d2) : d1.toInt * 8589934592 + m1.toInt < d2.toInt * 8589934592 + m2.toInt := by
  have h1 := Int32.le_toInt m1
  have h2 := Int32.toInt_lt m1
  have h3 := Int32.le_toInt m2
  have h4 := Int32.toInt_lt m2
  rw [Int32.lt_iff_toInt_lt] at h
  omega
theorem stB {S T : ST} {a x : Nat} (ha : a < 180) (hx : x < 180) (Ra : factR S T a) (Rx : factR S T x) (la : T.2.1 24 a = 0) (lx : T.2.1 24 x = 0) : x0_standsBehind S (nI a) (nI x) = some (bit (!decide (kI T a ≤ kI T x)), S) := by
  obtain ⟨a1, -, a3, -⟩ := Ra.2.1 la
  obtain ⟨x1, -, x3, -⟩ := Rx.2.1 lx
  unfold x0_standsBehind kI
  simp only [G_in ha (by decide : 180 < 2 ^ 31), G_in hx (by decide : 180 < 2 ^ 31), nI_clamp (show a < 2 ^ 31 by omega), nI_clamp (show x < 2 ^ 31 by omega), a1, a3, x1, x3]
  by_cases c : T.2.1 25 a = T.2.1 25 x
  · rw [if_pos c, ← c]
    by_cases q : T.2.1 26 a ≤ T.2.1 26 x
    · rw [if_pos q, decide_eq_true (kap_e ▸ q)]; rfl
    · rw [if_neg q, decide_eq_false (fun z => q (kap_e.symm ▸ z))]; rfl
  · rw [if_neg c]
    by_cases q : T.2.1 25 a ≤ T.2.1 25 x
    · rw [if_pos q, decide_eq_true (kap_n c ▸ q)]; rfl
    · rw [if_neg q, decide_eq_false (fun z => q ((kap_n c).symm ▸ z))]; rfl
theorem insX_lp {S0 T : ST} {n x N : Nat} (hn : n ≤ 180) (hf : ∀ k, k < n → factR S0 T k) (hx : x < n) (lx : T.2.1 24 x = 0) (e : Nat) : ∀ (l : List Nat), (∀ a, a ∈ l → a < n ∧ T.2.1 24 a = 0) → l.length < 180 → ∀ S, pX S = pX S0 → rlA (S.2.1 24) l → S.1 19 = nI N → ∃ S', x1_insert_h25 x1_insert_j68 (l.length + 1 + e) S (nI x) (nI l.length) = some S' ∧ fr [19] [24] S S' ∧ S'.1 19 = nI (N + 1) ∧ rlA (S'.2.1 24) (insL (kI T) x l) ∧ ∀ i, l.length < i → S'.2.1 24 i = S.2.1 24 i := by
  intro l
  induction l with
  | nil =>
    intro _ hL S hp hl h19
    refine ⟨sI (sA S 24 (upd (S.2.1 24) 0 (nI x))) 19 (nI (N + 1)), ?_, fr_tr (fr_A _ _ (by decide)) (fr_I _ _ (by decide)), rfl, ⟨by show upd (S.2.1 24) 0 (nI x) 0 = nI x; exact pk_us, trivial⟩, fun i hi => pk_un (by simp at hi; omega)⟩
    rw [show ([] : List Nat).length + 1 + e = e + 1 by simp; omega, x1_insert_h25, if_pos (show nI ([] : List Nat).length ≤ 0 from by decide)]
    unfold x1_insert_j68
    rw [G_in (show ([] : List Nat).length < 180 by decide) (by decide)]
    show some (sI (sA S 24 (upd (S.2.1 24) 0 (nI x))) 19 (S.1 19 + 1)) = _
    rw [h19, nI_1]
  | cons a r ih =>
    intro ha hL S hp hl h19
    rw [List.length_cons] at hL
    obtain ⟨a1, a2⟩ := ha a (by simp)
    have hs := stB (S := S) (T := T) (show a < 180 by omega) (show x < 180 by omega) (factR_2 hp rfl (hf a a1)) (factR_2 hp rfl (hf x hx)) a2 lx
    have h0 : ¬ nI (r.length + 1) ≤ 0 := nI_ge (a := 0) (by omega) (by omega)
    rw [List.length_cons, show r.length + 1 + 1 + e = (r.length + 1 + e) + 1 by omega, x1_insert_h25, if_neg h0, nI_p, G_in (by omega) (by decide), nI_clamp (by omega), hl.1, hs, cal_s, insL]
    by_cases c : kI T a ≤ kI T x
    · rw [decide_eq_true c, if_pos c, if_pos (show bit (!true) = 0 from rfl)]
      unfold x1_insert_j68
      rw [G_in (by omega) (by decide), nI_clamp (by omega)]
      refine ⟨_, rfl, fr_tr (fr_A _ _ (by decide)) (fr_I _ _ (by decide)), ?_, ⟨?_, ?_⟩, fun i hi => pk_un (by omega)⟩
      · show S.1 19 + 1 = _; rw [h19, nI_1]
      · show upd (S.2.1 24) (r.length + 1) (nI x) (a :: r).length = nI x; exact pk_us
      · exact rlA_u (l := a :: r) (by simp) hl
    · rw [decide_eq_false c, if_neg c, if_neg (show ¬ bit (!false) = 0 from by decide), G_in (by omega) (by decide), G_in (by omega) (by decide)]
      simp only [nI_clamp (show r.length + 1 < 2 ^ 31 by omega), pk_m1, hl.1]
      obtain ⟨S', g1, g2, g3, g4, g5⟩ := ih (fun y hy => ha y (by simp [hy])) (by omega) (sA S 24 (upd (S.2.1 24) (r.length + 1) (nI a))) hp (rlA_u (by omega) hl.2) h19
      refine ⟨S', g1, fr_tr (fr_A _ _ (by decide)) g2, g3, ⟨?_, g4⟩, fun i hi => ?_⟩
      · rw [insL_len, g5 _ (by omega)]; exact pk_us
      · rw [g5 i (by omega)]; exact pk_un (by omega)
theorem insX {S0 S T : ST} {n x : Nat} (hn : n ≤ 180) (hf : ∀ k, k < n → factR S0 T k) (hx : x < n) (lx : T.2.1 24 x = 0) {l : List Nat} (ha : ∀ a, a ∈ l → a < n ∧ T.2.1 24 a = 0) (hL : l.length < 180) (hp : pX S = pX S0) (hl : rlA (S.2.1 24) l) (h19 : S.1 19 = nI l.length) : ∃ S', x1_insert S (nI x) = some S' ∧ fr [19] [24] S S' ∧ S'.1 19 = nI (l.length + 1) ∧ rlA (S'.2.1 24) (insL (kI T) x l) := by
  obtain ⟨e, he⟩ := FU_s (l.length + 1) (by omega)
  obtain ⟨S', g1, g2, g3, g4, -⟩ := insX_lp hn hf hx lx e l ha hL S hp hl h19
  refine ⟨S', ?_, g2, g3, g4⟩
  unfold x1_insert
  rw [h19, if_neg (nI_pos (by omega)), if_pos (show nI l.length < 180 from nI_lt (b := 180) hL (by decide)), he]
  exact g1
/-- a print's left, struck, word -/
noncomputable def LF (S0 : ST) (m d f : Nat) : Int32 × Int32 × Int32 := match x3_print S0 (nI f) (nI d) (nI m) with
  | some S => (S.1 16, S.1 15, S.1 12)
  | none => (0, 0, 0)
theorem prtX {S0 T0 S : ST} {b : BK} {n m f d : Nat} (h : CT S0 T0 b n) (hm : m ≤ n) (hfm : f < m) (hl : T0.2.1 24 f = 0) (hd : d < 100) (hp : pX S = pX S0) : ∃ S', x3_print S (nI f) (nI d) (nI m) = some S' ∧ fr xI xA S S' ∧ S'.1 16 = (LF S0 m d f).1 ∧ S'.1 15 = (LF S0 m d f).2.1 ∧ S'.1 12 = (LF S0 m d f).2.2 := by
  obtain ⟨S1, T1, w, l, v, r, p1, p2, p3, p4, p5, p6, p7, p8, p9, p10, p11, p12, p13, p14, p15, -⟩ := prt_rel h hm hfm hl hd
  have h' : CT S T0 b n := ⟨h.1, BX_k hp h.2.1, h.2.2.1, h.2.2.2.1, h.2.2.2.2.1, fun k hk => factR_2 hp rfl (h.2.2.2.2.2 k hk)⟩
  obtain ⟨S2, T2, w', l', v', r', q1, q2, q3, q4, q5, q6, q7, q8, q9, q10, q11, q12, q13, q14, q15, -⟩ := prt_rel h' hm hfm hl hd
  have hT : T2 = T1 := by rw [p2] at q2; cases q2; rfl
  have hL : LF S0 m d f = (S1.1 16, S1.1 15, S1.1 12) := by unfold LF; rw [p1]
  refine ⟨S2, q1, q3, ?_, ?_, ?_⟩
  · rw [hL, q15, hT]; exact p15.symm
  · rw [hL, q13, hT]; exact p13.symm
  · rw [hL]; show S2.1 12 = S1.1 12; rw [q6, ← q7, hT, p7, p6]
theorem p2_A {T T0 : ST} (h : p2 T = p2 T0) : T.2.1 24 = T0.2.1 24 ∧ T.2.1 25 = T0.2.1 25 ∧ T.2.1 26 = T0.2.1 26 := by
  refine ⟨?_, ?_, ?_⟩
  · show (w2 (p2 T)).2.1 24 = (w2 (p2 T0)).2.1 24; rw [h]
  · show (w2 (p2 T)).2.1 25 = (w2 (p2 T0)).2.1 25; rw [h]
  · show (w2 (p2 T)).2.1 26 = (w2 (p2 T0)).2.1 26; rw [h]
theorem prtM {S0 T0 T : ST} {b : BK} {n m f d : Nat} (h : CT S0 T0 b n) (hm : m ≤ n) (hfm : f < m) (hl : T0.2.1 24 f = 0) (hd : d < 100) (hp : p2 T = p2 T0) (hc : CM T b) : ∃ T', m_prints T (nI f) (nI d) (nI m) (nI m) = some T' ∧ fr mI mA T T' ∧ CM T' b ∧ (T'.1 23 = -1 ↔ (LF S0 m d f).1 = -2) ∧ T'.1 22 = (LF S0 m d f).2.1 ∧ T'.1 19 = (LF S0 m d f).2.2 ∧ rng (LF S0 m d f).2.2 1000 := by
  have h' : CT S0 T b n := ⟨h.1, h.2.1, BM_k hp h.2.2.1, hc, h.2.2.2.2.1, fun k hk => factR_2 rfl hp (h.2.2.2.2.2 k hk)⟩
  obtain ⟨S2, T2, w', l', v', r', q1, q2, q3, q4, q5, q6, q7, q8, q9, q10, q11, q12, q13, q14, q15, -, -, -, -, -, -, -, q23⟩ := prt_rel h' hm hfm (by rw [(p2_A hp).1]; exact hl) hd
  have hL : LF S0 m d f = (S2.1 16, S2.1 15, S2.1 12) := by unfold LF; rw [q1]
  refine ⟨T2, q2, q4, FD_CM hd q5, ?_, ?_, ?_, ?_⟩
  · rw [hL]
    show _ ↔ S2.1 16 = -2
    rw [q15]
    unfold s2
    rcases q23 with q | ⟨p, hp2, q⟩
    · rw [q]; simp
    · rw [q, if_neg (nI_m1 (by omega))]
      exact ⟨fun z => absurd z (nI_m1 (by omega)), fun z => absurd (nI_pos (show p < 2 ^ 31 by omega)) (by rw [z]; decide)⟩
  · rw [hL]; exact q13.symm
  · rw [hL]; show T2.1 19 = S2.1 12; rw [q6, q7]
  · rw [hL]; show rng (S2.1 12) 1000; rw [q6]; exact q12
def liD (T : ST) (D : Nat) (f : Nat) : Bool := decide (T.2.1 24 f = 0) && decide (T.2.1 25 f = nI D)
noncomputable def qL (S0 : ST) (m d : Nat) (f : Nat) : Bool := decide ((LF S0 m d f).1 = -2)
theorem lp_h8 {S0 T0 : ST} {b : BK} {n m D d : Nat} (h : CT S0 T0 b n) (hm : m ≤ n) (hd : d < 100) (e : Nat) : ∀ j i, i + j = m → ∀ S, pX S = pX S0 → S.1 19 = nI (srt (kI T0) (fun f => liD T0 D f && qL S0 m d f) i).length → rlA (S.2.1 24) (srt (kI T0) (fun f => liD T0 D f && qL S0 m d f) i) → ∃ S', x1_listPrint_h8 (j + 1 + e) S (nI D) (nI d) (nI m) (nI i) = some S' ∧ pX S' = pX S0 ∧ S'.1 19 = nI (srt (kI T0) (fun f => liD T0 D f && qL S0 m d f) m).length ∧ rlA (S'.2.1 24) (srt (kI T0) (fun f => liD T0 D f && qL S0 m d f) m) := by
  have hn := h.2.2.2.2.1
  intro j
  induction j with
  | zero =>
    intro i hi S hp h1 h2
    have : i = m := by omega
    subst this
    refine ⟨S, ?_, hp, h1, h2⟩
    rw [show 0 + 1 + e = e + 1 by omega, x1_listPrint_h8, if_pos (nI_le (by omega) (by omega))]
  | succ j ih =>
    intro i hi S hp h1 h2
    have ih' := ih (i + 1) (by omega)
    have hR := factR_2 hp rfl (h.2.2.2.2.2 i (by omega))
    have hlen := srt_len (kI T0) (fun f => liD T0 D f && qL S0 m d f) i
    rw [show j + 1 + 1 + e = (j + 1 + e) + 1 by omega, x1_listPrint_h8, if_neg (nI_ge (by omega) (by omega)), G_in (by omega) (by decide), G_in (by omega) (by decide), nI_clamp (by omega), bdec (FK_4 hR.1)]
    unfold x1_listPrint_j71
    rw [nI_1]
    by_cases c : T0.2.1 24 i = 0
    · rw [if_pos (decide_eq_true c), (hR.2.1 c).1]
      by_cases c2 : T0.2.1 25 i = nI D
      · have el : liD T0 D i = true := by unfold liD; rw [decide_eq_true c, decide_eq_true c2]; rfl
        rw [if_pos c2]
        obtain ⟨S1, p1, p2, p3, -⟩ := prtX h hm (show i < m by omega) c hd hp
        have hp1 : pX S1 = pX S0 := (pX_x p2).trans hp
        rw [p1, calV_s, p3]
        by_cases c3 : (LF S0 m d i).1 = -2
        · rw [if_pos c3]
          have es : srt (kI T0) (fun f => liD T0 D f && qL S0 m d f) (i + 1) = insL (kI T0) i (srt (kI T0) (fun f => liD T0 D f && qL S0 m d f) i) := by
            rw [srt, if_pos (by rw [el]; unfold qL; rw [decide_eq_true c3]; rfl)]
          obtain ⟨S2, g1, g2, g3, g4⟩ := insX hn h.2.2.2.2.2 (show i < n by omega) c (l := srt (kI T0) (fun f => liD T0 D f && qL S0 m d f) i) (fun a ha => by
            obtain ⟨a1, a2⟩ := srt_mem ha
            refine ⟨by omega, ?_⟩
            rw [Bool.and_eq_true] at a2
            have := a2.1
            unfold liD at this
            rw [Bool.and_eq_true] at this
            exact of_decide_eq_true this.1) (by omega) hp1 (by rw [p2.2.1 24 (by decide)]; exact h2) (by rw [p2.1 19 (by decide)]; exact h1)
          rw [g1, calV_s]
          exact ih' S2 ((pX_fr (by decide) (by decide) g2).trans hp1) (by rw [es, insL_len]; exact g3) (by rw [es]; exact g4)
        · rw [if_neg c3]
          have es : srt (kI T0) (fun f => liD T0 D f && qL S0 m d f) (i + 1) = srt (kI T0) (fun f => liD T0 D f && qL S0 m d f) i := by
            rw [srt, if_neg (by unfold qL; rw [decide_eq_false c3]; simp)]
          exact ih' S1 hp1 (by rw [es, p2.1 19 (by decide)]; exact h1) (by rw [es, p2.2.1 24 (by decide)]; exact h2)
      · rw [if_neg c2]
        have es : srt (kI T0) (fun f => liD T0 D f && qL S0 m d f) (i + 1) = srt (kI T0) (fun f => liD T0 D f && qL S0 m d f) i := by
          rw [srt, if_neg (by unfold liD; rw [decide_eq_false c2]; simp)]
        exact ih' S hp (by rw [es]; exact h1) (by rw [es]; exact h2)
    · rw [if_neg (by simpa using c)]
      have es : srt (kI T0) (fun f => liD T0 D f && qL S0 m d f) (i + 1) = srt (kI T0) (fun f => liD T0 D f && qL S0 m d f) i := by
        rw [srt, if_neg (by unfold liD; rw [decide_eq_false c]; simp)]
      exact ih' S hp (by rw [es]; exact h1) (by rw [es]; exact h2)
theorem lp_x {S0 T0 : ST} {b : BK} {n m D d : Nat} (h : CT S0 T0 b n) (hm : m ≤ n) (hd : d < 100) : ∃ S', x1_listPrint S0 (nI D) (nI d) (nI m) = some S' ∧ pX S' = pX S0 ∧ S'.1 19 = nI (srt (kI T0) (fun f => liD T0 D f && qL S0 m d f) m).length ∧ rlA (S'.2.1 24) (srt (kI T0) (fun f => liD T0 D f && qL S0 m d f) m) := by
  have hn := h.2.2.2.2.1
  obtain ⟨e, he⟩ := FU_s (m + 1) (by omega)
  unfold x1_listPrint
  rw [he]
  exact lp_h8 h hm hd e m 0 (by omega) (sI S0 19 0) rfl rfl trivial
theorem ent_x {S : ST} {l : List Nat} (hl : l.length ≤ 180) (h1 : S.1 19 = nI l.length) (h2 : rlA (S.2.1 24) l) (x : Int32) : x1_entry S x = some (if x < 0 then -1 else (scn x l.reverse (-1, 0)).1, S) := by
  unfold x1_entry
  by_cases c : x < 0
  · rw [if_pos c, if_pos c]
  obtain ⟨j, hj, rfl⟩ := nI_of c
  rw [if_neg c, if_neg c, h1, scn_1 hj _ _ (by rw [List.length_reverse]; show 0 + l.length < _; omega), List.length_reverse]
  show _ = some (if 0 ≤ j ∧ j < 0 + l.length then nI (l.reverse.getD (j - 0) 0) else -1, S)
  by_cases c2 : j < l.length
  · rw [if_neg (nI_ge c2 (by omega)), if_neg (show ¬ (180 : Int32) ≤ nI j from nI_ge (b := 180) (by omega) (by decide)), G_in (by omega) (by decide), nI_clamp (by omega), if_pos (by omega)]
    have := sgN_get (rlA_sg h2) (i := j) (by rw [List.length_reverse]; exact c2)
    rw [Nat.zero_add] at this
    rw [this, Nat.sub_zero]
  · rw [if_pos (nI_le (by omega) hj), if_neg (by omega)]
