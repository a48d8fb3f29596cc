theorem cls {z : TZ} {a d p0 : Nat} (hz : okZ z) (ha : a ≤ 2000 + p0) (hd : d ≤ 2000 + p0) (K : ST → Int32 → Option ST) (e e' : Nat) : ∀ r ws p S T o, opens ws = r → eIV z a d p0 1 S T p ws o → ∃ l S' T', x2_parseClosings_h2 (r + 1 + e) S (nI (opens ws)) = some (nI l, S') ∧ m_expression_h96 K (r + 2 + e') T 0 = K T' 0 ∧ XE a S S' ∧ ME d T T' ∧ ((∃ p' ws' o', eIV z a d p0 1 S' T' p' ws' o' ∧ l = opens ws' ∧ p ≤ p') ∨ DD a d S' T') := by
  intro r
  induction r with
  | zero =>
    intro ws p S T o hr hE
    obtain ⟨hX, hM, e5, e12, m14, m20, m5, e2, e1, m13, m18, hw, ⟨s, hs⟩, ho, hp⟩ := id hE
    rw [show 0 + 1 + e = e + 1 by omega, show 0 + 2 + e' = (e' + 1) + 1 by omega, x2_parseClosings_h2, m_expression_h96, hr, if_pos (show nI 0 ≤ 0 from by decide), show (7 : Int32) = nI (kM 36) from rfl, is_l hz hM (by decide), chkS, m5, hr, if_pos (show nI 0 ≤ 0 from by decide), ite_self]
    exact ⟨0, S, T, rfl, rfl, XE_rfl _ _, ME_rfl _ _, Or.inl ⟨p, ws, o, hE, hr.symm, Nat.le_refl _⟩⟩
  | succ r ih =>
    intro ws p S T o hr hE
    obtain ⟨b1, b2, b3, b4, b5⟩ := eIV_b hz ha hd hE
    obtain ⟨hX, hM, e5, e12, m14, m20, m5, e2, e1, m13, m18, hw, ⟨s, hs⟩, ho, hp⟩ := id hE
    have h38 := hz.2.2.1 p
    rw [show r + 1 + 1 + e = (r + 1 + e) + 1 by omega, show r + 1 + 2 + e' = (r + 2 + e') + 1 by omega, x2_parseClosings_h2, m_expression_h96, hr, if_neg (show ¬ nI (r + 1) ≤ 0 from nI_ge (a := 0) (by omega) (by omega)), show (7 : Int32) = nI (kM 36) from rfl, is_l hz hM (by decide), chkS, m5, hr, if_neg (show ¬ nI (r + 1) ≤ 0 from nI_ge (a := 0) (by omega) (by omega))]
    by_cases c : zK z p = 36
    · rw [if_pos (show S.1 7 = 36 from by rw [hX.2.2.2.1, c]; rfl), decide_eq_true c, if_pos rfl]
      obtain ⟨-, T1, -, t1, -, t2, -, t4, -, -, t7, t8, -, -, t11, t12, t13, t14, t15⟩ := pop2 hz ha hd hE (y := 27) (by decide) (by decide) S T rfl rfl rfl rfl rfl rfl rfl rfl rfl
      rw [show isS 27 = false from rfl] at t1 t7 t8 t11 t12 t13 t14 t15
      obtain ⟨ws', s', hpo, hs'⟩ := pop_open hs (by omega)
      rw [hpo] at t7 t8 t13 t14 t15
      rw [show m_comesOut T 0 = _ from t1, calV_s]
      have hM2 : lvM z (sI (sI T1 14 (nI ws'.length)) 5 (nI r)) p := ⟨(show tabM z T1 from tabM_g (I := [13, 14]) (A := [18, 19]) (L := []) (by decide) (by decide) (by decide) (by decide) t2 hM.1), hM.2.1, (t2.1 4 (by decide)).trans hM.2.2.1, (t2.1 6 (by decide)).trans hM.2.2.2⟩
      obtain ⟨bb, S1, T3, q1, q2, q3, q4, q5⟩ := nxt2 hz hX hM2 c (by decide)
      have r14 : T1.1 14 - 1 = nI ws'.length := by rw [t7]; exact nI_p _
      have r5 : (sI T1 14 (nI ws'.length)).1 5 - 1 = nI r := by show T1.1 5 - 1 = _; rw [t2.1 5 (by decide), m5, hr]; exact nI_p _
      rw [r14]
      dsimp only
      rw [r5, q2, calV_s, show x2_accept S 36 = _ from q1]
      have fT : ME d T T3 := ME_tr ⟨g3_sub (by decide) (by decide) (by decide) t2, t4⟩ (ME_tr (ME_g (I := [5, 14]) (A := []) (L := []) (by decide) (by decide) (by decide) (g3_tr (g3_I _ _ (by decide)) (g3_I _ _ (by decide)))) (ME_g (by decide) (by decide) (by decide) q4))
      have fS1 : XE a S S1 := XE_g (by decide) (by decide) (by decide) q3
      have u13 : T3.1 13 = nI (d + (o ++ (popW false ws).2).length) := (q4.1 13 (by decide)).trans t11
      have u14 : T3.1 14 = nI ws'.length := (q4.1 14 (by decide)).trans rfl
      have hlen : ws'.length ≤ 20 := by
        have h1 := stt_len hs'
        have h2 : opens (35 :: ws') = opens ws := t15
        simp only [opens, if_true] at h2
        omega
      have hol : d + (o ++ (popW false ws).2).length ≤ 2400 := by omega
      rcases q5 with ⟨rfl, l1', l2'⟩ | ⟨rfl, f, q, k1, k2, k3⟩
      · obtain ⟨S2, -, g1, -, g3a, -, g5, -, g7, g8, -, -, g11, g12, -⟩ := pop2 hz ha hd hE (y := 27) (by decide) (by decide) S1 T (q3.1 5 (by decide)) (q3.2.1 12 (by decide)) (q3.1 2 (by decide)) (q3.2.1 1 (by decide)) rfl rfl rfl rfl rfl
        rw [show isS 27 = false from rfl] at g7 g8 g11 g12
        rw [hpo] at g7 g8
        rw [cal_s, if_neg (show ¬ bit true = 0 from by decide), show x2_emitWaiting S1 27 = _ from g1, calV_s, show S2.1 5 - 1 = nI ws'.length from by rw [g7]; exact nI_p _]
        try dsimp only
        rw [pk_m1]
        have hE2 : eIV z a d p0 1 (sI S2 5 (nI ws'.length)) T3 (p + 1) ws' (o ++ (popW false ws).2) := by
          refine ⟨?_, l2', rfl, g8.2, u14, ?_, ?_, g11, g12, u13, ?_, ?_, ⟨s', hs'⟩, ?_, ?_⟩
          · exact ⟨tabX_g (I := [2, 5]) (A := [1]) (L := []) (by decide) (by decide) (by decide) (by decide) (g3_tr g3a (g3_I _ _ (by decide))) l1'.1, l1'.2.1, (g3a.1 6 (by decide)).trans l1'.2.2.1, (g3a.1 7 (by decide)).trans l1'.2.2.2.1, (g3a.1 8 (by decide)).trans l1'.2.2.2.2.1, by show S2.2.2 1 0 = S2.2.2 2 (p + 1); rw [g3a.2.2 1 (by decide), g3a.2.2 2 (by decide)]; exact l1'.2.2.2.2.2.1, (g3a.1 9 (by decide)).trans l1'.2.2.2.2.2.2⟩
          · rw [q4.2.1 20 (by decide)]; exact t8.2
          · rw [q4.1 5 (by decide)]
            have h2 : opens (35 :: ws') = opens ws := t15
            simp only [opens, if_true] at h2
            show nI r = _
            congr 1
            omega
          · rw [q4.2.1 18 (by decide), q4.2.1 19 (by decide)]; exact t12
          · simp only [nops, if_true] at t13
            rw [show 0 + nops ws' + 1 = nops ws' + 1 by omega] at t13
            exact t13
          · have h2 : opens (35 :: ws') = opens ws := t15
            simp only [opens, if_true] at h2
            omega
          · simp only [nops, if_true] at t14
            omega
        have hor : opens ws' = r := by
          have h2 : opens (35 :: ws') = opens ws := t15
          simp only [opens, if_true] at h2
          omega
        obtain ⟨l, S', T', k1, k2, k3, k4, k5⟩ := ih ws' (p + 1) _ _ _ hor hE2
        rw [hor] at k1
        refine ⟨l, S', T', k1, k2, XE_tr fS1 (XE_tr ⟨g3_sub (I := [2, 5]) (A := [1]) (L := []) (by decide) (by decide) (by decide) (g3_tr g3a (g3_I _ _ (by decide))), g5⟩ k3), ME_tr fT k4, ?_⟩
        rcases k5 with ⟨p', ws2, o2, w1, w2, w3⟩ | w
        · exact Or.inl ⟨p', ws2, o2, w1, w2, by omega⟩
        · exact Or.inr w
      · rw [cal_s, if_pos (show bit false = 0 from rfl), show r + 2 + e' = (r + 1 + e') + 1 by omega, m_expression_h96, is_d (dM0 k1 k3), cal_s, if_pos rfl]
        exact ⟨r + 1, S1, T3, rfl, rfl, fS1, fT, Or.inr ⟨f, q, k1, k2, k3, ⟨⟨a + o.length, Nat.le_add_right _ _, by omega, (q3.1 2 (by decide)).trans e2⟩, ws.length, by omega, (q3.1 5 (by decide)).trans e5⟩, ⟨_, Nat.le_add_right _ _, by omega, u13⟩, ws'.length, by omega, u14⟩⟩
    · rw [if_neg (show ¬ S.1 7 = 36 from by rw [hX.2.2.2.1]; exact fun q => c ((nI_eq (b := 36) (by omega) (by decide)).mp q)), decide_eq_false c, if_neg (show ¬ (false = true) from by decide)]
      exact ⟨r + 1, S, T, rfl, rfl, XE_rfl _ _, ME_rfl _ _, Or.inl ⟨p, ws, o, hE, hr.symm, Nat.le_refl _⟩⟩
def DX0 (a : Nat) (S T : ST) : Prop := ∃ f q, okD f q ∧ dX f q S ∧ dM f q T ∧ ∃ a', a ≤ a' ∧ a' ≤ 2400 ∧ S.1 2 = nI a'
noncomputable def xstg (n : Nat) (S42 : ST) (r42 c : Int32) : Option ST :=
  let v50 := (S42.1 7)
  if v50 < 27 then (x2_parseExpression_j69 (x2_parseExpression_h11 x2_parseExpression_j109 n) x2_parseExpression_j109 S42 r42 c v50) else (if 30 < v50 then (x2_parseExpression_j69 (x2_parseExpression_h11 x2_parseExpression_j109 n) x2_parseExpression_j109 S42 r42 c v50) else (x2_parseExpression_j70 (x2_parseExpression_h11 x2_parseExpression_j109 n) x2_parseExpression_j109 S42 r42 c v50 1))
theorem hoT {S : ST} {w : Nat} (hw : w ≤ 32) (e : S.1 5 = nI w) (v : Int32) : ∃ S', x2_hold S v = some S' ∧ g3 [5] [12] [] S S' := by
  by_cases c : w < 32
  · exact ⟨_, hoX c e v, g3_tr (g3_A _ _ (by decide)) (g3_I _ _ (by decide))⟩
  · refine ⟨S, ?_, g3_rfl _ _ _ _⟩
    unfold x2_hold
    rw [e, if_neg (nI_pos (by omega)), if_pos (show (32 : Int32) ≤ nI w from nI_le (a := 32) (by omega) (by omega))]
theorem opr_d {a f q : Nat} {S : ST} (ho : okD f q) (hD : dX f q S) (hb : bdX a S) (l c : Int32) (n : Nat) : ∃ S', xstg (n + 1) S l c = some S' ∧ XE a S S' ∧ dX f q S' ∧ ∃ a', a ≤ a' ∧ a' ≤ 2400 ∧ S'.1 2 = nI a' := by
  have j101 : ∀ S', ¬ S'.1 9 = 0 → x2_parseExpression_j109 S' l = some S' := fun S' h => by
    unfold x2_parseExpression_j109
    rw [ref_d h, calV_s, ite_self]
  have A : ∀ v, ∃ S', x2_parseExpression_j69 (x2_parseExpression_h11 x2_parseExpression_j109 (n + 1)) x2_parseExpression_j109 S l c v = some S' ∧ XE a S S' ∧ dX f q S' ∧ ∃ a', a ≤ a' ∧ a' ≤ 2400 ∧ S'.1 2 = nI a' := fun v => by
    unfold x2_parseExpression_j69 x2_parseExpression_j70 x2_parseExpression_j83 x2_parseExpression_j103
    rw [if_pos rfl]
    obtain ⟨S1, g1, g2, g3', g4⟩ := emw_T hb 27
    have d1 : dX f q S1 := ⟨(g3'.1 9 (by decide)).trans hD.1, (g3'.1 10 (by decide)).trans hD.2⟩
    rw [g1, calV_s, if_pos rfl]
    dsimp only
    rw [x2_parseExpression_h11, if_pos rfl, j101 S1 (dX0 ho d1)]
    exact ⟨S1, rfl, g2, d1, g4.1⟩
  have B : ∀ v, ∃ S', x2_parseExpression_j70 (x2_parseExpression_h11 x2_parseExpression_j109 (n + 1)) x2_parseExpression_j109 S l c v 1 = some S' ∧ XE a S S' ∧ dX f q S' ∧ ∃ a', a ≤ a' ∧ a' ≤ 2400 ∧ S'.1 2 = nI a' := fun v => by
    unfold x2_parseExpression_j70 x2_parseExpression_j83 x2_parseExpression_j103
    rw [if_neg (by decide)]
    obtain ⟨S1, g1, g2, g3', g4⟩ := emw_T hb v
    have d1 : dX f q S1 := ⟨(g3'.1 9 (by decide)).trans hD.1, (g3'.1 10 (by decide)).trans hD.2⟩
    obtain ⟨w, hw, e5⟩ := g4.2
    obtain ⟨S2, h1, h2⟩ := hoT hw e5 v
    have d2 : dX f q S2 := ⟨(h2.1 9 (by decide)).trans d1.1, (h2.1 10 (by decide)).trans d1.2⟩
    rw [g1, calV_s, if_neg (by decide), h1, calV_s, acc_d (dX0 ho d2), cal_s]
    dsimp only
    rw [x2_parseExpression_h11, if_neg (by decide), if_neg (dX0 ho d2), j101 S2 (dX0 ho d2)]
    obtain ⟨a', w1, w2, w3⟩ := g4.1
    exact ⟨S2, rfl, XE_tr g2 (XE_g (by decide) (by decide) (by decide) h2), d2, a', w1, w2, (h2.1 2 (by decide)).trans w3⟩
  unfold xstg
  dsimp only
  repeat' split
  · exact A _
  · exact A _
  · exact B _
theorem km_not : ∀ k, k < 39 → ¬ (27 ≤ k ∧ k ≤ 30) → k ≠ 27 ∧ k ≠ 28 ∧ k ≠ 29 ∧ k ≠ 30 := by omega
/-- an operator's token in the reference -/
theorem j145_op {z : TZ} {T : ST} {p : Nat} (hz : okZ z) (hM : lvM z T p) (h1 : 27 ≤ zK z p) (h2 : zK z p ≤ 30) (Kb : ST → Int32 → Int32 → Option ST) (K : ST → Int32 → Option ST) (l : Int32) : m_expression_j145 Kb K T l = m_expression_j234 Kb K T l 1 (bit (isS (zK z p))) := by
  unfold m_expression_j145 m_expression_j181 m_expression_j186 m_expression_j229
  simp only [show (8 : Int32) = nI (kM 27) from rfl, show (9 : Int32) = nI (kM 28) from rfl, show (10 : Int32) = nI (kM 29) from rfl, show (15 : Int32) = nI (kM 30) from rfl, is_l hz hM (show 27 ≤ 38 by decide), is_l hz hM (show 28 ≤ 38 by decide), is_l hz hM (show 29 ≤ 38 by decide), is_l hz hM (show 30 ≤ 38 by decide), chkS]
  generalize zK z p = k at h1 h2
  rcases (show k = 27 ∨ k = 28 ∨ k = 29 ∨ k = 30 by omega) with rfl | rfl | rfl | rfl <;> rfl
theorem j145_no {z : TZ} {T : ST} {p : Nat} (hz : okZ z) (hM : lvM z T p) (h : ¬ (27 ≤ zK z p ∧ zK z p ≤ 30)) (Kb : ST → Int32 → Int32 → Option ST) (K : ST → Int32 → Option ST) (l : Int32) : m_expression_j145 Kb K T l = K T l := by
  unfold m_expression_j145 m_expression_j186
  simp only [show (8 : Int32) = nI (kM 27) from rfl, show (9 : Int32) = nI (kM 28) from rfl, show (10 : Int32) = nI (kM 29) from rfl, show (15 : Int32) = nI (kM 30) from rfl, is_l hz hM (show 27 ≤ 38 by decide), is_l hz hM (show 28 ≤ 38 by decide), is_l hz hM (show 29 ≤ 38 by decide), is_l hz hM (show 30 ≤ 38 by decide), chkS]
  rw [decide_eq_false (show ¬ zK z p = 27 by omega), decide_eq_false (show ¬ zK z p = 28 by omega), decide_eq_false (show ¬ zK z p = 29 by omega), decide_eq_false (show ¬ zK z p = 30 by omega)]
  rfl
theorem j145_d {f q : Nat} {T : ST} (ho : okD f q) (h : dM f q T) (Kb : ST → Int32 → Int32 → Option ST) (K : ST → Int32 → Option ST) (l : Int32) : m_expression_j145 Kb K T l = K T l := by
  unfold m_expression_j145 m_expression_j186
  simp only [is_d (dM0 ho h), cal_s, if_true]
theorem j191_d {d f q : Nat} {T : ST} (ho : okD f q) (h : dM f q T) (hb : bdM d T) (l : Int32) : ∃ T', m_expression_j191 T l = some T' ∧ ME d T T' ∧ dM f q T' := by
  unfold m_expression_j191
  obtain ⟨T1, g1, g2, g3'⟩ := cmo_T hb 0
  rw [fai_d ho h, calV_s, g1, calV_s, ite_self]
  obtain ⟨h1, h2, p, h3, h4⟩ := h
  exact ⟨T1, rfl, g2, (g3'.1 6 (by decide)).trans h1, (g3'.1 7 (by decide)).trans h2, p, h3, (g3'.1 4 (by decide)).trans h4⟩
