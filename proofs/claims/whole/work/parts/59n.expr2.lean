theorem xpair {z : TZ} {S : ST} {p : Nat} (hz : okZ z) (hX : lvX z S p) : x2_parseOperand S = if 12 ≤ zK z p ∧ zK z p < 24 then x2_parseOperand_j62 S (nI (10000 + (zK z p - 12))) (nI (zK z p)) else x2_parseOperand_j62 S (Int64.toInt32 (S.2.2 1 0)) 25 := by
  have h38 := hz.2.2.1 p
  unfold x2_parseOperand x2_parseOperand_j22 x2_parseOperand_j23 x2_parseOperand_j47
  rw [hX.2.2.2.1]
  by_cases c1 : zK z p < 12
  · rw [if_pos (show nI (zK z p) < 12 from nI_lt (b := 12) c1 (by decide)), if_neg (show ¬ (12 ≤ zK z p ∧ zK z p < 24) by omega)]
    rfl
  · rw [if_neg (show ¬ nI (zK z p) < 12 from nI_nlt (b := 12) (by omega) (by omega))]
    by_cases c2 : 24 ≤ zK z p
    · rw [if_pos (show (24 : Int32) ≤ nI (zK z p) from nI_le (a := 24) c2 (by omega)), if_neg (show ¬ (12 ≤ zK z p ∧ zK z p < 24) by omega)]
      rfl
    · rw [if_neg (show ¬ (24 : Int32) ≤ nI (zK z p) from nI_ge (b := 24) (by omega) (by decide)), if_pos (show 12 ≤ zK z p ∧ zK z p < 24 by omega), if_neg (by decide), if_neg (by decide), show (10000 : Int32) = nI 10000 from rfl, nI_add, show (12 : Int32) = nI 12 from rfl, pk_sub (by omega), show 10000 + zK z p - 12 = 10000 + (zK z p - 12) by omega]
theorem km_v : ∀ k, k < 24 → 12 ≤ k → kM k = k + 20 := by decide +kernel
theorem km_nv : ∀ k, k < 39 → ¬ (12 ≤ k ∧ k < 24) → kM k < 32 := by decide +kernel
/-- an operand -/
theorem unt {z : TZ} {a d p0 p : Nat} {S T : ST} {ws : List Nat} {o : List OP} (hz : okZ z) (ha : a ≤ 2000 + p0) (hd : d ≤ 2000 + p0) (hE : eIV z a d p0 0 S T p ws o) : ∃ S' T', x2_parseOperand S = some S' ∧ m_unit T = some T' ∧ XE a S S' ∧ ME d T T' ∧ ((∃ o', eIV z a d p0 1 S' T' (p + 1) ws o') ∨ DD a d S' T') := by
  obtain ⟨b1, b2, b3, b4, b5⟩ := eIV_b hz ha hd hE
  obtain ⟨hX, hM, e5, e12, m14, m20, m5, e2, e1, m13, m18, hw, ⟨s, hs⟩, ho, hp⟩ := id hE
  have hP := hz.2.2.2.1 p
  have h38 := hz.2.2.1 p
  rw [xpair hz hX]
  unfold m_unit
  rw [show (2 : Int32) = nI (kM 25) from rfl, is_l hz hM (by decide), chkS, hM.2.2.2, if_pos rfl, hM.2.2.1, G_in (by omega) (by decide), G_in (by omega) (by decide), G_in (by omega) (by decide), G_in (by omega) (by decide), nI_clamp (by omega), (hM.1 p hM.2.1).1]
  have core : ∀ (k : Nat) (op : OP), zK z p = k → k ≤ 36 → okO op → op.1 < 2 → ∃ S' T', x2_parseOperand_j62 S (nI (xen op)) (nI k) = some S' ∧ (calV (m_emit T (nI op.1) (nI op.2)) fun S78 => calV (m_next S78) fun S82 => some S82) = some T' ∧ XE a S S' ∧ ME d T T' ∧ ((∃ o', eIV z a d p0 1 S' T' (p + 1) ws o') ∨ DD a d S' T') := by
    intro k op hk hk6 hop hop2
    rw [emM (by omega) m13, calV_s]
    have hM1 : lvM z (sI (sA (sA T 18 (upd (T.2.1 18) (d + o.length) (nI op.1))) 19 (upd (T.2.1 19) (d + o.length) (nI op.2))) 13 (nI (d + o.length + 1))) p := ⟨hM.1, hM.2.1, hM.2.2.1, hM.2.2.2⟩
    obtain ⟨bb, S1, T1, q1, q2, q3, q4, q5⟩ := nxt2 hz hX hM1 hk hk6
    rw [q2, calV_s]
    unfold x2_parseOperand_j62
    rw [q1]
    have f0 : ME d T (sI (sA (sA T 18 (upd (T.2.1 18) (d + o.length) (nI op.1))) 19 (upd (T.2.1 19) (d + o.length) (nI op.2))) 13 (nI (d + o.length + 1))) := ⟨g3_tr (g3_A _ _ (by decide)) (g3_tr (g3_A _ _ (by decide)) (g3_I _ _ (by decide))), fun i hi => ⟨pk_un (show i ≠ d + o.length by omega), pk_un (show i ≠ d + o.length by omega)⟩⟩
    have fT : ME d T T1 := ME_tr f0 (ME_g (by decide) (by decide) (by decide) q4)
    have fS1 : XE a S S1 := XE_g (by decide) (by decide) (by decide) q3
    have t13 : T1.1 13 = nI (d + (o.length + 1)) := (q4.1 13 (by decide)).trans rfl
    have t14 : T1.1 14 = nI ws.length := (q4.1 14 (by decide)).trans m14
    have x5 : S1.1 5 = nI ws.length := (q3.1 5 (by decide)).trans e5
    have x2' : S1.1 2 = nI (a + o.length) := (q3.1 2 (by decide)).trans e2
    rcases q5 with ⟨rfl, l1', l2'⟩ | ⟨rfl, f, q, k1, k2, k3⟩
    · have hp4 : p < 400 := by
        have h1 := l1'.2.1
        have h2 := hz.2.1
        omega
      rw [cal_s, if_neg (show ¬ bit true = 0 from by decide), emX (by omega) x2', calV_s]
      have hlen : (o ++ [op]).length = o.length + 1 := by simp
      refine ⟨_, T1, rfl, rfl, XE_tr fS1 ⟨g3_tr (g3_A _ _ (by decide)) (g3_I _ _ (by decide)), fun i hi => pk_un (by omega)⟩, fT, Or.inl ⟨o ++ [op], ?_⟩⟩
      refine ⟨l1', l2', x5, ?_, t14, ?_, ?_, ?_, ?_, ?_, ?_, ?_, ⟨s, hs⟩, ho, ?_⟩
      · show rlA (S1.2.1 12) _; rw [q3.2.1 12 (by decide)]; exact e12
      · rw [q4.2.1 20 (by decide)]; exact m20
      · rw [q4.1 5 (by decide)]; exact m5
      · rw [hlen]; rfl
      · rw [List.map_append]
        refine sgN_mk (sgN_c (fun i h1 h2 => ?_) e1) ⟨?_, trivial⟩
        · rw [List.length_map] at h2
          show upd (S1.2.1 1) (a + o.length) _ i = _
          rw [pk_un (by omega), q3.2.1 1 (by decide)]
        · rw [List.length_map]; exact pk_us
      · rw [hlen]; exact t13
      · rw [q4.2.1 18 (by decide), q4.2.1 19 (by decide)]
        refine sgM_mk (sgM_c (fun i h1 h2 => ⟨pk_un (by omega), pk_un (by omega)⟩) m18) ⟨pk_us, pk_us, trivial⟩
      · exact wfP_app hw (wfP_1 hop hop2 (by omega))
      · rw [hlen]; omega
    · rw [cal_s, if_pos (show bit false = 0 from rfl)]
      exact ⟨S1, T1, rfl, rfl, fS1, fT, Or.inr ⟨f, q, k1, k2, k3, ⟨⟨a + o.length, Nat.le_add_right _ _, by omega, x2'⟩, _, by omega, x5⟩, ⟨d + (o.length + 1), Nat.le_add_right _ _, by omega, t13⟩, ws.length, by omega, t14⟩⟩
  by_cases c25 : zK z p = 25
  · rw [decide_eq_true c25, if_pos rfl, if_neg (show ¬ (12 ≤ zK z p ∧ zK z p < 24) by omega), hX.2.2.2.2.2.1, (hX.1.2 p hX.2.1).2.2.1 c25, lN_i, (hM.1 p hM.2.1).2.2.1 c25]
    exact core 25 (0, zV z p) c25 (by decide) (Or.inl ⟨rfl, hz.2.2.2.2.1 p c25⟩) (by show 0 < 2; decide)
  · rw [decide_eq_false c25, if_neg (show ¬ (false = true) from by decide)]
    by_cases cv : 12 ≤ zK z p ∧ zK z p < 24
    · have hk := km_v (zK z p) cv.2 cv.1
      rw [if_pos cv, hk, if_neg (show ¬ nI (zK z p + 20) < 32 from nI_nlt (b := 32) (by omega) (by omega)), if_neg (show ¬ (43 : Int32) < nI (zK z p + 20) from nI_nlt (a := 43) (by omega) (by decide)), show (32 : Int32) = nI 32 from rfl, pk_sub (by omega), show zK z p + 20 - 32 = zK z p - 12 by omega]
      exact core (zK z p) (1, zK z p - 12) rfl (by omega) (Or.inr (Or.inl ⟨rfl, by show zK z p - 12 < 12; omega⟩)) (by show 1 < 2; decide)
    · have hk := km_nv (zK z p) (by omega) cv
      rw [if_neg cv, if_pos (show nI (kM (zK z p)) < 32 from nI_lt (b := 32) hk (by decide)), fai_y hz hM, calV_s]
      unfold x2_parseOperand_j62
      rw [show (25 : Int32) = nI 25 from rfl, acc_n hz hX c25 (by decide), cal_s, if_pos rfl]
      exact ⟨_, _, rfl, rfl, XE_g (I := [9, 10]) (A := []) (L := []) (by decide) (by decide) (by decide) (g3_tr (g3_I _ _ (by decide)) (g3_I _ _ (by decide))), ME_g (I := [6, 7]) (A := []) (L := []) (by decide) (by decide) (by decide) (g3_tr (g3_I _ _ (by decide)) (g3_I _ _ (by decide))), Or.inr ⟨1, zP z p, ⟨by decide, by decide, hP⟩, ⟨rfl, rfl⟩, ded_m hz hM 1, ⟨⟨a + o.length, Nat.le_add_right _ _, by omega, e2⟩, ws.length, by omega, e5⟩, ⟨d + o.length, Nat.le_add_right _ _, by omega, m13⟩, ws.length, by omega, m14⟩⟩
theorem unt_d {f q : Nat} {T : ST} (ho : okD f q) (h : dM f q T) : m_unit T = some T := by
  unfold m_unit
  rw [is_d (dM0 ho h), cal_s, if_pos rfl, if_neg (dM0 ho h), fai_d ho h, calV_s]
theorem opd_d {S : ST} (h : ¬ S.1 9 = 0) : x2_parseOperand S = some S := by
  unfold x2_parseOperand x2_parseOperand_j22 x2_parseOperand_j23 x2_parseOperand_j47 x2_parseOperand_j62
  simp only [acc_d h, cal_s, if_true, ite_self]
theorem cls_d {S : ST} (h : ¬ S.1 9 = 0) (l : Int32) : x2_parseClosings S l = some (l, S) := by
  obtain ⟨e, he⟩ := FU_s 1 (by decide)
  unfold x2_parseClosings
  rw [he, show 1 + e = e + 1 by omega, x2_parseClosings_h2, acc_d h, cal_s, if_pos rfl, ite_self, ite_self]
/-- what was emitted goes on -/
theorem pop2 {z : TZ} {a d p0 p : Nat} {S T : ST} {ws : List Nat} {o : List OP} (hz : okZ z) (ha : a ≤ 2000 + p0) (hd : d ≤ 2000 + p0) (hE : eIV z a d p0 1 S T p ws o) {y : Nat} (hy : 27 ≤ y) (hy2 : y ≤ 30) (S1 T1 : ST) (x5 : S1.1 5 = S.1 5) (x12 : S1.2.1 12 = S.2.1 12) (x2 : S1.1 2 = S.1 2) (x1 : S1.2.1 1 = S.2.1 1) (t14 : T1.1 14 = T.1 14) (t20 : T1.2.1 20 = T.2.1 20) (t13 : T1.1 13 = T.1 13) (t18 : T1.2.1 18 = T.2.1 18) (t19 : T1.2.1 19 = T.2.1 19) : ∃ S' T', x2_emitWaiting S1 (nI y) = some S' ∧ m_comesOut T1 (bit (isS y)) = some T' ∧ g3 [2, 5] [1] [] S1 S' ∧ g3 [13, 14] [18, 19] [] T1 T' ∧ (∀ i, i < a → S'.2.1 1 i = S1.2.1 1 i) ∧ (∀ i, i < d → T'.2.1 18 i = T1.2.1 18 i ∧ T'.2.1 19 i = T1.2.1 19 i) ∧ S'.1 5 = nI (popW (isS y) ws).1.length ∧ rlA (S'.2.1 12) (popW (isS y) ws).1 ∧ T'.1 14 = nI (popW (isS y) ws).1.length ∧ rlA (T'.2.1 20) ((popW (isS y) ws).1.map kM) ∧ S'.1 2 = nI (a + (o ++ (popW (isS y) ws).2).length) ∧ sgN (S'.2.1 1) a ((o ++ (popW (isS y) ws).2).map xen) ∧ T'.1 13 = nI (d + (o ++ (popW (isS y) ws).2).length) ∧ sgM (T'.2.1 18) (T'.2.1 19) d (o ++ (popW (isS y) ws).2) ∧ wfP (o ++ (popW (isS y) ws).2) 0 (nops (popW (isS y) ws).1 + 1) ∧ (o ++ (popW (isS y) ws).2).length + nops (popW (isS y) ws).1 + p0 ≤ p ∧ opens (popW (isS y) ws).1 = opens ws := by
  obtain ⟨b1, b2, b3, b4, b5⟩ := eIV_b hz ha hd hE
  obtain ⟨hX, hM, e5, e12, m14, m20, m5, e2, e1, m13, m18, hw, ⟨s, hs⟩, ho, hp⟩ := hE
  obtain ⟨i1, i2, i3, i4, i5⟩ := pop_p (isS y) hs
  obtain ⟨e, he⟩ := FU_s (ws.length + 1) (by omega)
  obtain ⟨S', g1, g2, g3', g4, g5, g6, g7⟩ := popX hy hy2 e ws s (a + o.length) S1 hs (by omega) (x5.trans e5) (by rw [x12]; exact e12) (x2.trans e2) (by omega)
  obtain ⟨T', k1, k2, k3, k4, k5, k6, k7⟩ := popM (isS y) e ws s (d + o.length) T1 hs (by omega) (t14.trans m14) (by rw [t20]; exact m20) (t13.trans m13) (by omega)
  refine ⟨S', T', ?_, ?_, g2, k2, fun i hi => g7 i (by omega), fun i hi => k7 i (by omega), g3', g4, k3, k4, ?_, ?_, ?_, ?_, wfP_app hw i5, ?_, i1⟩
  · unfold x2_emitWaiting; rw [he]; exact g1
  · unfold m_comesOut; rw [he]; exact k1
  · rw [g5, List.length_append]; congr 1; omega
  · rw [List.map_append]
    refine sgN_mk (sgN_c (fun i h1 h2 => ?_) e1) (by rw [List.length_map]; exact g6)
    rw [List.length_map] at h2
    rw [g7 i h2, x1]
  · rw [k5, List.length_append]; congr 1; omega
  · refine sgM_mk (sgM_c (fun i h1 h2 => ?_) m18) k6
    obtain ⟨w1, w2⟩ := k7 i h2
    exact ⟨w1.trans (by rw [t18]), w2.trans (by rw [t19])⟩
  · rw [List.length_append]; omega
