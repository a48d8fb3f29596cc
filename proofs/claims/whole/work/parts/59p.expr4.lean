theorem lvX_g {z : TZ} {I A L : List Nat} {S S' : ST} {p : Nat} (h : lvX z S p) (g : g3 I A L S S') (h27 : 27 ∉ I) (h35 : 35 ∉ A) (h36 : 36 ∉ A) (h2 : 2 ∉ L) (h6 : 6 ∉ I) (h7 : 7 ∉ I) (h8 : 8 ∉ I) (h9 : 9 ∉ I) (h1 : 1 ∉ L) (h10 : 10 ∉ I := by decide) : lvX z S' p := ⟨tabX_g h27 h35 h36 h2 g h.1 h10, h.2.1, (g.1 6 h6).trans h.2.2.1, (g.1 7 h7).trans h.2.2.2.1, (g.1 8 h8).trans h.2.2.2.2.1, by rw [g.2.2 1 h1, g.2.2 2 h2]; exact h.2.2.2.2.2.1, (g.1 9 h9).trans h.2.2.2.2.2.2⟩
theorem lvM_g {z : TZ} {I A L : List Nat} {T T' : ST} {p : Nat} (h : lvM z T p) (g : g3 I A L T T') (h2 : 2 ∉ A) (h3 : 3 ∉ A) (h4 : 4 ∉ A) (hL : 0 ∉ L) (i4 : 4 ∉ I) (i6 : 6 ∉ I) : lvM z T' p := ⟨tabM_g h2 h3 h4 hL g h.1, h.2.1, (g.1 4 i4).trans h.2.2.1, (g.1 6 i6).trans h.2.2.2⟩
theorem exl {z : TZ} {a d p0 : Nat} (hz : okZ z) (ha : a ≤ 2000 + p0) (hd : d ≤ 2000 + p0) (e e' : Nat) : ∀ r p i ws S T o, zx z ≤ p + r → i ≤ p → eIV z a d p0 0 S T p ws o → ∃ S' T', x2_parseExpression_h11 x2_parseExpression_j109 (r + 1 + e) S (nI (opens ws)) 1 (nI i) = some S' ∧ m_expression_h12 m_expression_j191 (r + 1 + e') T 0 1 = some T' ∧ XE a S S' ∧ ME d T T' ∧ ((∃ p' o', p < p' ∧ lvX z S' p' ∧ lvM z T' p' ∧ T'.1 5 = 0 ∧ wfO o' 0 ∧ sgN (S'.2.1 1) a (o'.map xen) ∧ S'.1 2 = nI (a + o'.length) ∧ sgM (T'.2.1 18) (T'.2.1 19) d o' ∧ T'.1 13 = nI (d + o'.length) ∧ o'.length + p0 ≤ p') ∨ DX0 a S' T') := by
  intro r
  induction r with
  | zero =>
    intro p i ws S T o hr hi hE
    have h1 := hE.1.2.1
    omega
  | succ r ih =>
    intro p i ws S T o hr hi hE
    obtain ⟨b1, b2, b3, b4, b5⟩ := eIV_b hz ha hd hE
    have hX := hE.1
    have hM := hE.2.1
    have ho6 := hE.2.2.2.2.2.2.2.2.2.2.2.2.2.1
    rw [show r + 1 + 1 + e = (r + 1 + e) + 1 by omega, show r + 1 + 1 + e' = (r + 1 + e') + 1 by omega, x2_parseExpression_h11, m_expression_h12, if_neg (show ¬ (1 : Int32) = 0 from by decide), if_pos hX.2.2.2.2.2.2, if_neg (show ¬ (400 : Int32) < nI i from nI_nlt (a := 400) (by omega) (by decide)), if_neg (show ¬ (1 : Int32) = 0 from by decide), if_pos hM.2.2.2]
    obtain ⟨e1, he1⟩ := FU_s (6 - opens ws + 1) (by omega)
    obtain ⟨e2, he2⟩ := FU_s (6 - opens ws + 2) (by omega)
    obtain ⟨l, S1, T1, g1, g2, g3', g4, g5⟩ := opn hz ha hd (m_expression_j84 (m_expression_h12 m_expression_j191 (r + 1 + e')) m_expression_j191) 0 e1 e2 (6 - opens ws) ws p S T o (by omega) hE
    rw [he2, g2]
    unfold x2_parseOpenings
    rw [he1, g1, cal_s]
    have stg : ∀ S42 l42, (let v50 := (S42.1 7); if v50 < 27 then (x2_parseExpression_j69 (x2_parseExpression_h11 x2_parseExpression_j109 (r + 1 + e)) x2_parseExpression_j109 S42 l42 (nI i) v50) else (if 30 < v50 then (x2_parseExpression_j69 (x2_parseExpression_h11 x2_parseExpression_j109 (r + 1 + e)) x2_parseExpression_j109 S42 l42 (nI i) v50) else (x2_parseExpression_j70 (x2_parseExpression_h11 x2_parseExpression_j109 (r + 1 + e)) x2_parseExpression_j109 S42 l42 (nI i) v50 1))) = xstg (r + 1 + e) S42 l42 (nI i) := fun _ _ => rfl
    have deadX : ∀ {S0 : ST} {f q : Nat} (l0 : Int32), okD f q → dX f q S0 → bdX a S0 → ∃ S', xstg (r + 1 + e) S0 l0 (nI i) = some S' ∧ XE a S0 S' ∧ dX f q S' ∧ ∃ a', a ≤ a' ∧ a' ≤ 2400 ∧ S'.1 2 = nI a' := fun l0 h1 h2 h3 => by
      rw [show r + 1 + e = (r + e) + 1 by omega]
      exact opr_d h1 h2 h3 l0 (nI i) (r + e)
    rcases g5 with ⟨p1, ws1, hE1, rfl, h35, hpp⟩ | ⟨f, q, k1, k2, k3, k4, k5⟩
    · obtain ⟨S2, T2, u1, u2, u3, u4, u5⟩ := unt hz ha hd hE1
      rw [u1, calV_s]
      unfold m_expression_j84
      rw [u2, calV_s]
      rcases u5 with ⟨o2, hE2⟩ | ⟨f, q, k1, k2, k3, k4, k5⟩
      · rw [if_pos (show T2.1 6 ≤ 0 from by rw [hE2.2.1.2.2.2]; decide)]
        have ho62 := hE2.2.2.2.2.2.2.2.2.2.2.2.2.2.1
        obtain ⟨e3, he3⟩ := FU_s (opens ws1 + 1) (by omega)
        obtain ⟨e4, he4⟩ := FU_s (opens ws1 + 2) (by omega)
        obtain ⟨l3, S3, T3, c1, c2, c3, c4, c5⟩ := cls hz ha hd (m_expression_j145 (m_expression_h12 m_expression_j191 (r + 1 + e')) m_expression_j191) e3 e4 (opens ws1) ws1 (p1 + 1) S2 T2 o2 rfl hE2
        rw [he4, c2]
        unfold x2_parseClosings
        rw [he3, c1, cal_s, stg]
        have fS3 : XE a S S3 := XE_tr g3' (XE_tr u3 c3)
        have fT3 : ME d T T3 := ME_tr g4 (ME_tr u4 c4)
        rcases c5 with ⟨p3, ws3, o3, hE3, rfl, hp3⟩ | ⟨f, q, k1, k2, k3, k4, k5⟩
        · obtain ⟨w1, w2, w3, w4, w5⟩ := eIV_b hz ha hd hE3
          obtain ⟨hX3, hM3, e5, e12, m14, m20, m5, e2', e1', m13, m18, hw, ⟨s, hs⟩, ho, hp⟩ := id hE3
          have h38 := hz.2.2.1 p3
          have hP := hz.2.2.2.1 p3
          by_cases ck : 27 ≤ zK z p3 ∧ zK z p3 ≤ 30
          · have hst : xstg (r + 1 + e) S3 (nI (opens ws3)) (nI i) = x2_parseExpression_j70 (x2_parseExpression_h11 x2_parseExpression_j109 (r + 1 + e)) x2_parseExpression_j109 S3 (nI (opens ws3)) (nI i) (nI (zK z p3)) 1 := by
              unfold xstg
              dsimp only
              rw [hX3.2.2.2.1, if_neg (show ¬ nI (zK z p3) < 27 from nI_nlt (b := 27) (by omega) (by omega)), if_neg (show ¬ (30 : Int32) < nI (zK z p3) from nI_nlt (a := 30) (by omega) (by decide))]
            rw [hst, j145_op hz hM3 ck.1 ck.2]
            unfold x2_parseExpression_j70 x2_parseExpression_j83 x2_parseExpression_j103 m_expression_j234
            rw [if_neg (show ¬ (1 : Int32) = 0 from by decide)]
            obtain ⟨S4, T4, v1, v2, v3, v4, v5, v6, v7, v8, v9, v10, v11, v12, v13, v14, v15, v16, v17⟩ := pop2 hz ha hd hE3 ck.1 ck.2 S3 T3 rfl rfl rfl rfl rfl rfl rfl rfl rfl
            have hpl : (popW (isS (zK z p3)) ws3).1.length ≤ 20 := by
              have hq := pop_p (isS (zK z p3)) hs
              have : ∃ s', stt (popW (isS (zK z p3)) ws3).1 s' := by rcases hq.2.2.2.1 with q | q <;> exact ⟨_, q⟩
              obtain ⟨s', hs'⟩ := this
              have := stt_len hs'
              omega
            have hX4 := lvX_g hX3 v3 (by decide) (by decide) (by decide) (by decide) (by decide) (by decide) (by decide) (by decide) (by decide)
            have hM4 := lvM_g hM3 v4 (by decide) (by decide) (by decide) (by decide) (by decide) (by decide)
            rw [v1, calV_s, if_neg (show ¬ (1 : Int32) = 0 from by decide), hoX (by omega) v7, calV_s, v2, calV_s, hM4.2.2.1, G_in (by omega) (by decide), v9, G_in (by omega) (by decide), nI_clamp (by omega), nI_clamp (by omega), (hM4.1 p3 hM4.2.1).1]
            dsimp only
            rw [show (sA T4 20 (upd (T4.2.1 20) (popW (isS (zK z p3)) ws3).1.length (nI (kM (zK z p3))))).1 14 + 1 = nI ((popW (isS (zK z p3)) ws3).1.length + 1) from by show T4.1 14 + 1 = _; rw [v9, nI_1]]
            have hX5 : lvX z (sI (sA S4 12 (upd (S4.2.1 12) (popW (isS (zK z p3)) ws3).1.length (nI (zK z p3)))) 5 (nI ((popW (isS (zK z p3)) ws3).1.length + 1))) p3 := lvX_g hX4 (I := [5]) (A := [12]) (L := []) (g3_tr (g3_A _ _ (by decide)) (g3_I _ _ (by decide))) (by decide) (by decide) (by decide) (by decide) (by decide) (by decide) (by decide) (by decide) (by decide)
            have hM5 : lvM z (sI (sA T4 20 (upd (T4.2.1 20) (popW (isS (zK z p3)) ws3).1.length (nI (kM (zK z p3))))) 14 (nI ((popW (isS (zK z p3)) ws3).1.length + 1))) p3 := lvM_g hM4 (I := [14]) (A := [20]) (L := []) (g3_tr (g3_A _ _ (by decide)) (g3_I _ _ (by decide))) (by decide) (by decide) (by decide) (by decide) (by decide) (by decide)
            obtain ⟨bb, S6, T6, q1, q2, q3, q4, q5⟩ := nxt2 hz hX5 hM5 rfl (by omega)
            rw [q1, cal_s, q2, calV_s, nI_1 i]
            have fS6 : XE a S S6 := XE_tr fS3 (XE_tr ⟨g3_sub (by decide) (by decide) (by decide) v3, v5⟩ (XE_tr (XE_g (I := [5]) (A := [12]) (L := []) (by decide) (by decide) (by decide) (g3_tr (g3_A _ _ (by decide)) (g3_I _ _ (by decide)))) (XE_g (by decide) (by decide) (by decide) q3)))
            have fT6 : ME d T T6 := ME_tr fT3 (ME_tr ⟨g3_sub (by decide) (by decide) (by decide) v4, v6⟩ (ME_tr (ME_g (I := [14]) (A := [20]) (L := []) (by decide) (by decide) (by decide) (g3_tr (g3_A _ _ (by decide)) (g3_I _ _ (by decide)))) (ME_g (by decide) (by decide) (by decide) q4)))
            have y2 : S6.1 2 = nI (a + (o3 ++ (popW (isS (zK z p3)) ws3).2).length) := (q3.1 2 (by decide)).trans v11
            rcases q5 with ⟨rfl, l1', l2'⟩ | ⟨rfl, f, q, k1, k2, k3⟩
            · have hk35 : ¬ zK z p3 = 35 := by omega
              have hE6 : eIV z a d p0 0 S6 T6 (p3 + 1) (zK z p3 :: (popW (isS (zK z p3)) ws3).1) (o3 ++ (popW (isS (zK z p3)) ws3).2) := by
                have hq := pop_p (isS (zK z p3)) hs
                refine ⟨l1', l2', ?_, ⟨?_, ?_⟩, ?_, ⟨?_, ?_⟩, ?_, y2, ?_, ?_, ?_, ?_, ?_, ?_, ?_⟩
                · rw [q3.1 5 (by decide)]; rfl
                · rw [q3.2.1 12 (by decide)]; exact pk_us
                · rw [q3.2.1 12 (by decide)]; exact rlA_u (Nat.le_refl _) v8
                · rw [q4.1 14 (by decide)]; rfl
                · rw [q4.2.1 20 (by decide), List.length_map]; exact pk_us
                · rw [q4.2.1 20 (by decide)]; exact rlA_u (by rw [List.length_map]; exact Nat.le_refl _) v10
                · rw [q4.1 5 (by decide)]
                  show T4.1 5 = _
                  rw [v4.1 5 (by decide), m5, opens, if_neg hk35, v17, Nat.zero_add]
                · rw [q3.2.1 1 (by decide)]; exact v12
                · rw [q4.1 13 (by decide)]; exact v13
                · rw [q4.2.1 18 (by decide), q4.2.1 19 (by decide)]; exact v14
                · rw [nops, if_neg hk35, show 1 + nops (popW (isS (zK z p3)) ws3).1 + 0 = nops (popW (isS (zK z p3)) ws3).1 + 1 by omega]; exact v15
                · rcases (show zK z p3 = 27 ∨ zK z p3 = 28 ∨ zK z p3 = 29 ∨ zK z p3 = 30 by omega) with w | w | w | w
                  · refine ⟨1, Or.inr (Or.inl ⟨Or.inl w, rfl, hq.2.2.1 ?_⟩)⟩; rw [w]; rfl
                  · refine ⟨1, Or.inr (Or.inl ⟨Or.inr w, rfl, hq.2.2.1 ?_⟩)⟩; rw [w]; rfl
                  · rcases hq.2.2.2.1 with y | y
                    · exact ⟨2, Or.inr (Or.inr ⟨Or.inl w, Or.inl ⟨rfl, y⟩⟩)⟩
                    · exact ⟨3, Or.inr (Or.inr ⟨Or.inl w, Or.inr ⟨rfl, y⟩⟩)⟩
                  · rcases hq.2.2.2.1 with y | y
                    · exact ⟨2, Or.inr (Or.inr ⟨Or.inr w, Or.inl ⟨rfl, y⟩⟩)⟩
                    · exact ⟨3, Or.inr (Or.inr ⟨Or.inr w, Or.inr ⟨rfl, y⟩⟩)⟩
                · rw [opens, if_neg hk35, v17]; omega
                · rw [nops, if_neg hk35]; omega
              obtain ⟨S', T', i1, i2, i3, i4, i5⟩ := ih (p3 + 1) (i + 1) _ S6 T6 _ (by omega) (by omega) hE6
              rw [opens, if_neg hk35, v17, Nat.zero_add] at i1
              refine ⟨S', T', i1, i2, XE_tr fS6 i3, ME_tr fT6 i4, ?_⟩
              rcases i5 with ⟨p', o', w1, w2⟩ | w
              · exact Or.inl ⟨p', o', by omega, w2⟩
              · exact Or.inr w
            · rw [show r + 1 + e = (r + e) + 1 by omega, show r + 1 + e' = (r + e') + 1 by omega, x2_parseExpression_h11, m_expression_h12, if_neg (show ¬ (1 : Int32) = 0 from by decide), if_neg (show ¬ (1 : Int32) = 0 from by decide), if_neg (dX0 k1 k2), if_neg (dM0 k1 k3)]
              unfold x2_parseExpression_j109
              rw [ref_d (dX0 k1 k2), calV_s, ite_self]
              exact ⟨S6, T6, rfl, rfl, fS6, fT6, Or.inr ⟨f, q, k1, k2, k3, _, Nat.le_add_right _ _, by omega, y2⟩⟩
          · have hst : xstg (r + 1 + e) S3 (nI (opens ws3)) (nI i) = x2_parseExpression_j69 (x2_parseExpression_h11 x2_parseExpression_j109 (r + 1 + e)) x2_parseExpression_j109 S3 (nI (opens ws3)) (nI i) (nI (zK z p3)) := by
              unfold xstg
              dsimp only
              rw [hX3.2.2.2.1]
              by_cases c27 : zK z p3 < 27
              · rw [if_pos (show nI (zK z p3) < 27 from nI_lt (b := 27) c27 (by decide))]
              · rw [if_neg (show ¬ nI (zK z p3) < 27 from nI_nlt (b := 27) (by omega) (by omega)), if_pos (show (30 : Int32) < nI (zK z p3) from nI_lt (a := 30) (by omega) (by omega))]
            rw [hst, j145_no hz hM3 ck]
            unfold x2_parseExpression_j69 x2_parseExpression_j70 x2_parseExpression_j83 x2_parseExpression_j103 m_expression_j191
            rw [if_pos rfl]
            obtain ⟨S4, T4, v1, v2, v3, v4, v5, v6, v7, v8, v9, v10, v11, v12, v13, v14, v15, v16, v17⟩ := pop2 hz ha hd hE3 (y := 27) (by decide) (by decide) S3 T3 rfl rfl rfl rfl rfl rfl rfl rfl rfl
            have hX4 := lvX_g hX3 v3 (by decide) (by decide) (by decide) (by decide) (by decide) (by decide) (by decide) (by decide) (by decide)
            have hM4 := lvM_g hM3 v4 (by decide) (by decide) (by decide) (by decide) (by decide) (by decide)
            have fS4 : XE a S S4 := XE_tr fS3 ⟨g3_sub (by decide) (by decide) (by decide) v3, v5⟩
            have fT4 : ME d T T4 := ME_tr fT3 ⟨g3_sub (by decide) (by decide) (by decide) v4, v6⟩
            rw [show x2_emitWaiting S3 27 = _ from v1, calV_s, if_pos rfl, show r + 1 + e = (r + e) + 1 by omega]
            try dsimp only
            rw [x2_parseExpression_h11, if_pos rfl, m5]
            unfold x2_parseExpression_j109
            by_cases c0 : opens ws3 = 0
            · rw [c0, if_pos (show nI 0 ≤ 0 from by decide), if_pos (show nI 0 ≤ 0 from by decide), show m_comesOut T3 0 = _ from v2, calV_s]
              rw [show isS 27 = false from rfl] at v11 v12 v13 v14 v15 v16
              rw [pop_nil hs c0] at v15 v16
              refine ⟨S4, T4, rfl, rfl, fS4, fT4, Or.inl ⟨p3, _, by omega, hX4, hM4, ?_, wfP_O v15, v12, v11, v14, v13, ?_⟩⟩
              · rw [v4.1 5 (by decide), m5, c0]; rfl
              · have : nops [] = 0 := rfl
                omega
            · rw [if_neg (show ¬ nI (opens ws3) ≤ 0 from nI_ge (a := 0) (by omega) (by omega)), if_neg (show ¬ nI (opens ws3) ≤ 0 from nI_ge (a := 0) (by omega) (by omega)), ref_y hX4.2.2.2.2.2.2, calV_s, fai_y hz hM3, calV_s, hX4.2.2.2.2.1]
              have hbd : bdM d (sI (sI T3 6 1) 7 (nI (zP z p3))) := ⟨⟨d + o3.length, Nat.le_add_right _ _, by omega, m13⟩, ws3.length, by omega, m14⟩
              obtain ⟨T5, n1, n2, n3⟩ := cmo_T hbd 0
              rw [n1, calV_s]
              exact ⟨_, T5, rfl, rfl, XE_tr fS4 (XE_g (I := [9, 10]) (A := []) (L := []) (by decide) (by decide) (by decide) (g3_tr (g3_I _ _ (by decide)) (g3_I _ _ (by decide)))), ME_tr fT3 (ME_tr (ME_g (I := [6, 7]) (A := []) (L := []) (by decide) (by decide) (by decide) (g3_tr (g3_I _ _ (by decide)) (g3_I _ _ (by decide)))) n2), Or.inr ⟨1, zP z p3, ⟨by decide, by decide, hP⟩, ⟨rfl, rfl⟩, ⟨(n3.1 6 (by decide)).trans rfl, (n3.1 7 (by decide)).trans rfl, p3, w5, (n3.1 4 (by decide)).trans hM3.2.2.1⟩, _, Nat.le_add_right _ _, by omega, v11⟩⟩
        · obtain ⟨S', x1, x2, x3, x4⟩ := deadX (nI l3) k1 k2 k4
          obtain ⟨T', t1, t2, t3⟩ := j191_d k1 k3 k5 0
          rw [x1, j145_d k1 k3, t1]
          exact ⟨S', T', rfl, rfl, XE_tr fS3 x2, ME_tr fT3 t2, Or.inr ⟨f, q, k1, x3, t3, x4⟩⟩
      · rw [if_neg (dM1 k1 k3), cls_d (dX0 k1 k2), cal_s, stg]
        obtain ⟨S', x1, x2, x3, x4⟩ := deadX (nI (opens ws1)) k1 k2 k4
        rw [x1]
        exact ⟨S', T2, rfl, rfl, XE_tr g3' (XE_tr u3 x2), ME_tr g4 u4, Or.inr ⟨f, q, k1, x3, k3, x4⟩⟩
    · unfold m_expression_j84
      rw [opd_d (dX0 k1 k2), calV_s, cls_d (dX0 k1 k2), cal_s, stg, unt_d k1 k3, calV_s, if_neg (dM1 k1 k3)]
      obtain ⟨S', x1, x2, x3, x4⟩ := deadX (nI l) k1 k2 k4
      rw [x1]
      exact ⟨S', T1, rfl, rfl, XE_tr g3' x2, g4, Or.inr ⟨f, q, k1, x3, k3, x4⟩⟩
/-- an expression -/
theorem expr {z : TZ} {a d p : Nat} {S T : ST} (hz : okZ z) (ha : a ≤ 2000 + p) (hd : d ≤ 2000 + p) (hX : lvX z S p) (hM : lvM z T p) (h5 : T.1 5 = 0) (h2 : S.1 2 = nI a) (h13 : T.1 13 = nI d) : ∃ S' T', x2_parseExpression S = some S' ∧ m_expression T = some T' ∧ XE a S S' ∧ ME d T T' ∧ ((∃ p' o', p < p' ∧ lvX z S' p' ∧ lvM z T' p' ∧ T'.1 5 = 0 ∧ wfO o' 0 ∧ sgN (S'.2.1 1) a (o'.map xen) ∧ S'.1 2 = nI (a + o'.length) ∧ sgM (T'.2.1 18) (T'.2.1 19) d o' ∧ T'.1 13 = nI (d + o'.length) ∧ o'.length + p ≤ p') ∨ DX0 a S' T') := by
  have hzx := hz.2.1
  obtain ⟨e, he⟩ := FU_s (zx z + 1) (by omega)
  have hE : eIV z a d p 0 (sI S 5 0) (sI T 14 0) p [] [] := ⟨lvX_g hX (I := [5]) (A := []) (L := []) (g3_I _ _ (by decide)) (by decide) (by decide) (by decide) (by decide) (by decide) (by decide) (by decide) (by decide) (by decide), lvM_g hM (I := [14]) (A := []) (L := []) (g3_I _ _ (by decide)) (by decide) (by decide) (by decide) (by decide) (by decide) (by decide), rfl, trivial, rfl, trivial, h5, h2, trivial, h13, trivial, rfl, ⟨0, rfl⟩, by decide, by show 0 + 0 + p ≤ p; omega⟩
  obtain ⟨S', T', g1, g2, g3', g4, g5⟩ := exl hz ha hd e e (zx z) p 0 [] _ _ [] (by omega) (by omega) hE
  refine ⟨S', T', ?_, ?_, XE_tr (XE_g (I := [5]) (A := []) (L := []) (by decide) (by decide) (by decide) (g3_I _ _ (by decide))) g3', ME_tr (ME_g (I := [14]) (A := []) (L := []) (by decide) (by decide) (by decide) (g3_I _ _ (by decide))) g4, g5⟩
  · unfold x2_parseExpression
    rw [he]
    exact g1
  · unfold m_expression
    rw [he]
    dsimp only
    rw [show (sI T 14 0).1 5 = 0 from h5]
    exact g2
theorem expr_d {f q : Nat} {S T : ST} (ho : okD f q) (hX : dX f q S) (hM : dM f q T) : x2_parseExpression S = some (sI S 5 0) ∧ m_expression T = some (sI T 14 0) := by
  obtain ⟨e, he⟩ := FU_s 1 (by decide)
  refine ⟨?_, ?_⟩
  · unfold x2_parseExpression
    rw [he, show 1 + e = e + 1 by omega, x2_parseExpression_h11, if_neg (show ¬ (1 : Int32) = 0 from by decide), if_neg (show ¬ (sI S 5 0).1 9 = 0 from dX0 ho hX)]
    rfl
  · unfold m_expression
    rw [he, show 1 + e = e + 1 by omega, m_expression_h12, if_neg (show ¬ (1 : Int32) = 0 from by decide), if_neg (show ¬ (sI T 14 0).1 6 = 0 from dM0 ho hM)]
