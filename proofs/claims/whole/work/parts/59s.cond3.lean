def cIV (z : TZ) (C0 c0 d0 f0 D0 F0 : Nat) (S T : ST) (p : Nat) (L : List LIT) (q : Bool) (dd : Nat) : Prop := lvX z S p ∧ lvM z T p ∧ T.1 5 = 0 ∧ S.1 2 = nI (c0 + (preC L q).length) ∧ sgN (S.2.1 1) c0 (preC L q) ∧ T.1 13 = nI dd ∧ T.1 12 = nI (f0 + L.length) ∧ lsM T dd f0 L ∧ okLs L ∧ orFirst L ∧ (L = [] → q = true) ∧ c0 + (preC L q).length ≤ C0 + p ∧ dd ≤ D0 + p ∧ d0 ≤ dd ∧ F0 ≤ f0 ∧ 4 * (f0 + L.length) ≤ 4 * F0 + p
theorem okLs_snoc {l : LIT} (h : okL l) : ∀ {L : List LIT}, okLs L → okLs (L ++ [l]) := by
  intro L
  induction L with
  | nil => intro _; exact ⟨h, trivial⟩
  | cons x r ih => intro hl; exact ⟨hl.1, ih hl.2⟩
theorem orF_snoc {l : LIT} {L : List LIT} (h : orFirst L) (h2 : L = [] → l.2.2.1 = true) : orFirst (L ++ [l]) := by
  cases L with
  | nil => exact h2 rfl
  | cons x r => exact h
theorem lit_d {f q : Nat} {T : ST} (ho : okD f q) (h : dM f q T) (l1 l2 : Int32) : ∃ T', m_literal_j28 T l1 l2 = some T' ∧ g3 [4, 14] [] [] T T' ∧ dM f q T' := by
  obtain ⟨e, he⟩ := FU_s 1 (by decide)
  have hx : m_expression T = some (sI T 14 0) := by
    unfold m_expression
    rw [he, show 1 + e = e + 1 by omega, m_expression_h12, if_neg (show ¬ (1 : Int32) = 0 from by decide), if_neg (show ¬ (sI T 14 0).1 6 = 0 from dM0 ho h)]
  have h' : dM f q (sI T 14 0) := h
  unfold m_literal_j28
  dsimp only
  rw [hx, calV_s, if_neg (dM1 ho h')]
  unfold m_literal_j60
  rw [if_neg (dM0 ho h')]
  obtain ⟨T', g1, g2, g3'⟩ := j85_d ho h' l1 l2 (T.1 13) 0
  exact ⟨T', g1, g3_tr (g3_I _ _ (by decide)) g2, g3'⟩
theorem cnl {z : TZ} {C0 c0 d0 f0 D0 F0 : Nat} (hz : okZ z) (hCc : C0 ≤ 2000) (hD : D0 ≤ 2000) (hF : F0 ≤ 700) (K : ST → Int32 → Option ST) (l3 : Int32) (e e' : Nat) : ∀ r p ix L q S T dd, zx z ≤ p + r → ix ≤ p → cIV z C0 c0 d0 f0 D0 F0 S T p L q dd → ∃ S' T', x2_parseCondition_h4 (r + 1 + e) S 1 (nI ix) = some S' ∧ m_tellRule_h250 K (r + 1 + e') T l3 1 (bit q) = K T' l3 ∧ XE c0 S S' ∧ MC d0 f0 T T' ∧ ((∃ p' L' dd', p < p' ∧ lvX z S' p' ∧ lvM z T' p' ∧ T'.1 5 = 0 ∧ S'.1 2 = nI (c0 + (ccX true L').length) ∧ sgN (S'.2.1 1) c0 (ccX true L') ∧ T'.1 13 = nI dd' ∧ T'.1 12 = nI (f0 + L'.length) ∧ lsM T' dd' f0 L' ∧ okLs L' ∧ orFirst L' ∧ c0 + (ccX true L').length ≤ C0 + p' ∧ dd' ≤ D0 + p' ∧ d0 ≤ dd' ∧ 4 * (f0 + L'.length) ≤ 4 * F0 + p' + 1) ∨ DX0 c0 S' T') := by
  intro r
  induction r with
  | zero => intro p ix L q S T dd h hix hC; have := hC.1.2.1; omega
  | succ r ih =>
    intro p ix L q S T dd hr hix hC
    obtain ⟨hX, hM, m5, x2, x1, m13, m12, mls, hok, hor, hnil, bc, bd, bdd, bf, b4⟩ := hC
    have hp4 := lv_4 hz hX
    have hzx := hz.2.1
    rw [show r + 1 + 1 + e = (r + 1 + e) + 1 by omega, show r + 1 + 1 + e' = (r + 1 + e') + 1 by omega, x2_parseCondition_h4, m_tellRule_h250, if_neg (show ¬ (1 : Int32) = 0 from by decide), if_pos hX.2.2.2.2.2.2, if_neg (show ¬ (400 : Int32) < nI ix from nI_nlt (a := 400) (by omega) (by decide)), if_neg (show ¬ (1 : Int32) = 0 from by decide), if_pos hM.2.2.2]
    obtain ⟨e1, he1⟩ := FU_s (zx z + 1) (by omega)
    obtain ⟨m', fl, S1, T1, n1, n2, n3, n4, n5, n6⟩ := nots hz m_literal_j28 (bit q) e1 e1 (zx z) p 0 S T (by omega) (by omega) hX hM
    have hlit : m_literal T (bit q) = m_literal_j28 T1 (bit q) fl := by unfold m_literal; rw [he1]; exact n2
    have hnot : x2_parseNots S = some (nI m', S1) := by unfold x2_parseNots; rw [he1]; exact n1
    have hv : nI m' - nI m' / 2 * 2 = nI (m' % 2) := by
      rw [show (2 : Int32) = nI 2 from rfl, pk_div (by omega) (by decide) (by decide), pk_mul, pk_sub (by omega)]
      congr 1
      omega
    rw [hnot, cal_s, hv, hlit]
    have fS1 : XE c0 S S1 := XE_g (by decide) (by decide) (by decide) n3
    have fT1 : ME d0 T T1 := ME_g (by decide) (by decide) (by decide) n4
    have a1 : S1.1 2 = nI (c0 + (preC L q).length) := (n3.1 2 (by decide)).trans x2
    rcases n6 with ⟨p1, hpp, rfl, hX1, hM1⟩ | ⟨f, qq, k1, k2, k3⟩
    · have hp14 := lv_4 hz hX1
      obtain ⟨S2, T2, u1, u2, u3, u4, u5⟩ := expr hz (a := c0 + (preC L q).length) (d := dd) (by omega) (by omega) hX1 hM1 ((n4.1 5 (by decide)).trans m5) a1 ((n4.1 13 (by decide)).trans m13)
      rw [u1, calV_s]
      have fS2 : XE c0 S S2 := XE_tr fS1 (XE_le (by omega) u3)
      have fT2 : ME d0 T T2 := ME_tr fT1 (ME_le (by omega) u4)
      have t13 : T1.1 13 = nI dd := (n4.1 13 (by decide)).trans m13
      have hj28 : m_literal_j28 T1 (bit q) (bit (decide (m' % 2 = 1))) = if T2.1 6 ≤ 0 then (G (inb (T2.1 4) 403) <| m_literal_j60 T2 (bit q) (bit (decide (m' % 2 = 1))) (nI dd) (((T2.2.1 2 (Int32.toNatClampNeg (T2.1 4))) - 11))) else (m_literal_j60 T2 (bit q) (bit (decide (m' % 2 = 1))) (nI dd) 0) := by
        unfold m_literal_j28
        dsimp only
        rw [u2, calV_s, t13]
      rw [hj28]
      rcases u5 with ⟨p2, o1, hp2, hX2, hM2, v5, v6, v7, v8, v9, v10, v11⟩ | ⟨f, qq, k1, k2, k3, k4⟩
      · have hp24 := lv_4 hz hX2
        have h38 := hz.2.2.1 p2
        have hP := hz.2.2.2.1 p2
        have hkc := km_cmp (zK z p2) (by omega)
        have hkl := kM_lt (zK z p2) (by omega)
        rw [if_pos (show T2.1 6 ≤ 0 from by rw [hM2.2.2.2]; decide), hM2.2.2.1, G_in (by omega) (by decide), nI_clamp (by omega), (hM2.1 p2 hM2.2.1).1, lv_31 hz hX2]
        unfold m_literal_j60
        rw [if_pos hM2.2.2.2]
        by_cases ck : 31 ≤ zK z p2 ∧ zK z p2 ≤ 34
        · have hk := hkc.1 ck
          have hs := sub11 (k := kM (zK z p2)) (by omega)
          rw [if_pos ck, if_neg (fun w => by have := hs.1.mp w; omega), if_pos (hs.2.mpr (by omega)), hk, show (11 : Int32) = nI 11 from rfl, pk_sub (by omega), show zK z p2 - 20 - 11 = zK z p2 - 31 by omega]
          obtain ⟨bb, S3, T3, q1, q2, q3, q4, q5⟩ := nxt2 hz hX2 hM2 rfl (by omega)
          unfold x2_parseCondition_j58 m_literal_j85
          rw [q1, cal_s, q2, calV_s]
          dsimp only
          have fS3 : XE c0 S S3 := XE_tr fS2 (XE_g (by decide) (by decide) (by decide) q3)
          have fT3 : ME d0 T T3 := ME_tr fT2 (ME_g (by decide) (by decide) (by decide) q4)
          have a3 : S3.1 2 = nI (c0 + (preC L q).length + o1.length) := (q3.1 2 (by decide)).trans v8
          rcases q5 with ⟨rfl, hX3, hM3⟩ | ⟨rfl, f, qq, k1, k2, k3⟩
          · obtain ⟨S4, T4, w1, w2, w3, w4, w5⟩ := expr hz (a := c0 + (preC L q).length + o1.length) (d := dd + o1.length) (by omega) (by omega) hX3 hM3 ((q4.1 5 (by decide)).trans v5) a3 ((q4.1 13 (by decide)).trans v10)
            rw [w1, calV_s, w2, calV_s]
            have fS4 : XE c0 S S4 := XE_tr fS3 (XE_le (by omega) w3)
            have fT4 : ME d0 T T4 := ME_tr fT3 (ME_le (by omega) w4)
            rcases w5 with ⟨p4, o2, hp4', hX4, hM4, y5, y6, y7, y8, y9, y10, y11⟩ | ⟨f, qq, k1, k2, k3, k4⟩
            · have hp44 := lv_4 hz hX4
              have h384 := hz.2.2.1 p4
              have e12 : T4.1 12 = nI (f0 + L.length) := by rw [fT4.1.1 12 (by decide)]; exact m12
              have e13 : T3.1 13 = nI (dd + o1.length) := (q4.1 13 (by decide)).trans v10
              have hm2 : m' % 2 ≤ 1 := by omega
              have hcv : (30000 : Int32) + 2 * nI (zK z p2) + nI (m' % 2) = nI (30062 + 2 * (zK z p2 - 31) + (decide (m' % 2 = 1)).toNat) := by
                rw [show (30000 : Int32) = nI 30000 from rfl, show (2 : Int32) = nI 2 from rfl, pk_mul, nI_add, nI_add]
                congr 1
                by_cases w : m' % 2 = 1
                · rw [decide_eq_true w]; show _ = 30062 + 2 * (zK z p2 - 31) + 1; omega
                · rw [decide_eq_false w]; show _ = 30062 + 2 * (zK z p2 - 31) + 0; omega
              rw [if_pos (show T4.1 6 ≤ 0 from by rw [hM4.2.2.2]; decide), litW_eq (by omega) e12, calV_s, nb_bit, nb_bit, e13, y10, hcv, emX (by omega) y8, calV_s]
              let l : LIT := (zK z p2 - 31, decide (m' % 2 = 1), q, o1, o2)
              have hlc : ccX true (L ++ [l]) = preC L q ++ (o1.map xen ++ (o2.map xen ++ [30062 + 2 * (zK z p2 - 31) + (decide (m' % 2 = 1)).toNat])) := ccX_snoc L l
              have hlen : (ccX true (L ++ [l])).length = (preC L q).length + o1.length + o2.length + 1 := by rw [hlc]; simp; omega
              generalize hS5 : sI (sA S4 1 (upd (S4.2.1 1) (c0 + (preC L q).length + o1.length + o2.length) (nI (30062 + 2 * (zK z p2 - 31) + (decide (m' % 2 = 1)).toNat)))) 2 (nI (c0 + (preC L q).length + o1.length + o2.length + 1)) = S5
              have g5 : g3 [2] [1] [] S4 S5 := by rw [← hS5]; exact g3_tr (g3_A _ _ (by decide)) (g3_I _ _ (by decide))
              have c5 : ∀ i, i ≠ c0 + (preC L q).length + o1.length + o2.length → S5.2.1 1 i = S4.2.1 1 i := fun i hi => by rw [← hS5]; exact pk_un hi
              have c5' : S5.2.1 1 (c0 + (preC L q).length + o1.length + o2.length) = nI (30062 + 2 * (zK z p2 - 31) + (decide (m' % 2 = 1)).toNat) := by rw [← hS5]; exact pk_us
              have z2 : S5.1 2 = nI (c0 + (ccX true (L ++ [l])).length) := by rw [← hS5, hlen]; show nI _ = nI _; congr 1; omega
              have hX5 := lvX_g hX4 g5 (by decide) (by decide) (by decide) (by decide) (by decide) (by decide) (by decide) (by decide) (by decide)
              have fS5 : XE c0 S S5 := XE_tr fS4 ⟨g3_sub (by decide) (by decide) (by decide) g5, fun i hi => c5 i (by omega)⟩
              have hsg : sgN (S5.2.1 1) c0 (ccX true (L ++ [l])) := by
                rw [hlc]
                refine sgN_mk (sgN_c (fun i h1 h2 => ?_) x1) (sgN_mk (sgN_c (fun i h1 h2 => ?_) v7) ?_)
                · rw [c5 i (by omega), w3.2 i (by omega), q3.2.1 1 (by decide), u3.2 i (by omega), n3.2.1 1 (by decide)]
                · rw [List.length_map] at h2
                  rw [c5 i (by omega), w3.2 i (by omega), q3.2.1 1 (by decide)]
                · rw [List.length_map]
                  refine sgN_mk (sgN_c (fun i h1 h2 => ?_) y7) ⟨?_, trivial⟩
                  · rw [List.length_map] at h2
                    exact c5 i (by omega)
                  · rw [List.length_map]; exact c5'
              generalize hT5 : litW T4 (f0 + L.length) (nI (zK z p2 - 31)) (bit (decide (m' % 2 = 1))) (bit q) (nI dd) (nI (dd + o1.length)) (nI (dd + o1.length + o2.length)) = T5
              have gT5 : g3 [12] [12, 13, 14, 15, 16, 17] [] T4 T5 := by rw [← hT5]; exact litW_g _ _ _ _ _ _ _ _
              have kT5 : ∀ i, i ≠ f0 + L.length → T5.2.1 12 i = T4.2.1 12 i ∧ T5.2.1 13 i = T4.2.1 13 i ∧ T5.2.1 14 i = T4.2.1 14 i ∧ T5.2.1 15 i = T4.2.1 15 i ∧ T5.2.1 16 i = T4.2.1 16 i ∧ T5.2.1 17 i = T4.2.1 17 i := fun i hi => by rw [← hT5]; exact ⟨pk_un hi, pk_un hi, pk_un hi, pk_un hi, pk_un hi, pk_un hi⟩
              have mT5 : MC (dd + o1.length + o2.length) (f0 + L.length) T4 T5 := ⟨g3_sub (by decide) (by decide) (by decide) gT5, fun i _ => by rw [gT5.2.1 18 (by decide), gT5.2.1 19 (by decide)]; exact ⟨rfl, rfl⟩, fun i hi => kT5 i (by omega)⟩
              have hM5 := lvM_g hM4 gT5 (by decide) (by decide) (by decide) (by decide) (by decide) (by decide)
              have fT5 : MC d0 f0 T T5 := MC_tr (MC_E fT4) (MC_le (by omega) (by omega) mT5)
              have z13 : T5.1 13 = nI (dd + o1.length + o2.length) := (gT5.1 13 (by decide)).trans y10
              have z12 : T5.1 12 = nI (f0 + (L ++ [l]).length) := by rw [← hT5, List.length_append]; show nI _ = nI _; congr 1
              have meAll : MC dd (f0 + L.length) T T5 := by
                refine MC_tr (MC_E (ME_tr (ME_g (by decide) (by decide) (by decide) n4) (ME_tr u4 (ME_tr (ME_g (by decide) (by decide) (by decide) q4) (ME_le (by omega) w4))))) (MC_le (by omega) (Nat.le_refl _) mT5)
              have hls : lsM T5 (dd + o1.length + o2.length) f0 (L ++ [l]) := by
                refine lsM_snoc (lsM_mono (by omega) (lsM_c meAll (Nat.le_refl _) mls)) ⟨?_, ?_, ?_, dd, ?_, ?_, ?_, Nat.le_refl _, ?_, ?_⟩
                · rw [← hT5]; exact pk_us
                · rw [← hT5]; exact pk_us
                · rw [← hT5]; exact pk_us
                · rw [← hT5]; exact pk_us
                · rw [← hT5]; exact pk_us
                · rw [← hT5]; exact pk_us
                · refine sgM_c (fun i h1 h2 => ?_) v9
                  obtain ⟨w1', w2'⟩ := w4.2 i (by omega)
                  rw [gT5.2.1 18 (by decide), gT5.2.1 19 (by decide), w1', w2', q4.2.1 18 (by decide), q4.2.1 19 (by decide)]
                  exact ⟨rfl, rfl⟩
                · rw [gT5.2.1 18 (by decide), gT5.2.1 19 (by decide)]; exact y9
              have hokl : okL l := ⟨by show zK z p2 - 31 < 4; omega, v6, y6⟩
              have hok' := okLs_snoc hokl hok
              have hor' : orFirst (L ++ [l]) := orF_snoc hor hnil
              have hll : (L ++ [l]).length = L.length + 1 := by simp
              have z5 : T5.1 5 = 0 := (gT5.1 5 (by decide)).trans y5
              have cc : ∀ (q' : Bool) (k : Nat) (S6 : ST), zK z p4 = k → k ≤ 36 → lvX z S6 p4 → XE c0 S S6 → ((p4 < 400 ∧ S6.1 2 = nI (c0 + (preC (L ++ [l]) q').length) ∧ sgN (S6.2.1 1) c0 (preC (L ++ [l]) q') ∧ c0 + (preC (L ++ [l]) q').length ≤ C0 + p4 + 1) ∨ (p4 = 400 ∧ ∃ a', c0 ≤ a' ∧ a' ≤ 2400 ∧ S6.1 2 = nI a')) → ∃ S' T', (cal (x2_accept S6 (nI k)) fun r120 S120 => if r120 = 0 then x2_parseCondition_h4 (r + 1 + e) S120 0 (nI (ix + 1)) else x2_parseCondition_h4 (r + 1 + e) S120 1 (nI (ix + 1))) = some S' ∧ (calV (m_next T5) fun S303 => m_tellRule_h250 K (r + 1 + e') S303 l3 1 (bit q')) = K T' l3 ∧ XE c0 S S' ∧ MC d0 f0 T T' ∧ ((∃ p' L' dd', p < p' ∧ lvX z S' p' ∧ lvM z T' p' ∧ T'.1 5 = 0 ∧ S'.1 2 = nI (c0 + (ccX true L').length) ∧ sgN (S'.2.1 1) c0 (ccX true L') ∧ T'.1 13 = nI dd' ∧ T'.1 12 = nI (f0 + L'.length) ∧ lsM T' dd' f0 L' ∧ okLs L' ∧ orFirst L' ∧ c0 + (ccX true L').length ≤ C0 + p' ∧ dd' ≤ D0 + p' ∧ d0 ≤ dd' ∧ 4 * (f0 + L'.length) ≤ 4 * F0 + p' + 1) ∨ DX0 c0 S' T') := by
                intro q' k S6 hk hk6 hX6 fS6 h6
                obtain ⟨bb, S7, T7, r1, r2, r3, r4, r5⟩ := nxt2 hz hX6 hM5 hk hk6
                rw [r1, r2, cal_s, calV_s]
                have fS7 : XE c0 S S7 := XE_tr fS6 (XE_g (by decide) (by decide) (by decide) r3)
                have fT7 : MC d0 f0 T T7 := MC_tr fT5 (MC_E (ME_g (by decide) (by decide) (by decide) r4))
                rcases r5 with ⟨rfl, hX7, hM7⟩ | ⟨rfl, f, qq, k1, k2, k3⟩
                · rw [if_neg (show ¬ bit true = 0 from by decide)]
                  rcases h6 with ⟨g1, g2, g3', g4⟩ | ⟨g1, -⟩
                  · have hC7 : cIV z C0 c0 d0 f0 D0 F0 S7 T7 (p4 + 1) (L ++ [l]) q' (dd + o1.length + o2.length) := by
                      refine ⟨hX7, hM7, (r4.1 5 (by decide)).trans z5, (r3.1 2 (by decide)).trans g2, ?_, (r4.1 13 (by decide)).trans z13, (r4.1 12 (by decide)).trans z12, ?_, hok', hor', fun w => ?_, by omega, by omega, by omega, bf, ?_⟩
                      · rw [r3.2.1 1 (by decide)]; exact g3'
                      · exact lsM_c (MC_E (f := f0 + (L ++ [l]).length) (ME_g (by decide) (by decide) (by decide) r4)) (Nat.le_refl _) hls
                      · have := congrArg List.length w; rw [hll] at this; simp at this
                      · rw [hll]; omega
                    obtain ⟨S', T', i1, i2, i3, i4, i5⟩ := ih (p4 + 1) (ix + 1) (L ++ [l]) q' S7 T7 _ (by omega) (by omega) hC7
                    refine ⟨S', T', i1, i2, XE_tr fS7 i3, MC_tr fT7 i4, ?_⟩
                    rcases i5 with ⟨p', L', dd', j1, j2⟩ | j
                    · exact Or.inl ⟨p', L', dd', by omega, j2⟩
                    · exact Or.inr j
                  · have := hX7.2.1; omega
                · rw [if_pos (show bit false = 0 from rfl), show r + 1 + e = (r + e) + 1 by omega, show r + 1 + e' = (r + e') + 1 by omega, x2_parseCondition_h4, if_pos rfl, m_tellRule_h250, if_neg (show ¬ (1 : Int32) = 0 from by decide), if_neg (dM0 k1 k3)]
                  refine ⟨S7, T7, rfl, rfl, fS7, fT7, Or.inr ⟨f, qq, k1, k2, k3, ?_⟩⟩
                  rcases h6 with ⟨g1, g2, -, g4⟩ | ⟨-, a', g2, g3', g4⟩
                  · exact ⟨_, Nat.le_add_right _ _, by omega, (r3.1 2 (by decide)).trans g2⟩
                  · exact ⟨a', g2, g3', (r3.1 2 (by decide)).trans g4⟩
              rw [show (29 : Int32) = nI (kM 3) from rfl, show (30 : Int32) = nI (kM 4) from rfl, is_l hz hM5 (by decide), cal_s, hX5.2.2.2.1]
              unfold x2_parseCondition_j103 x2_parseCondition_j119 x2_parseCondition_j134 x2_parseCondition_j135 m_tellRule_j290 m_tellRule_j295
              try dsimp only
              rw [nI_1 ix]
              have hne : (L ++ [l]).isEmpty = false := by cases L <;> rfl
              by_cases k3 : zK z p4 = 3
              · rw [decide_eq_true k3, k3, if_pos (show nI 3 = 3 from rfl), if_neg (show ¬ bit true = 0 from by decide), if_neg (show ¬ (1 : Int32) = 0 from by decide)]
                have hpre : preC (L ++ [l]) true = ccX true (L ++ [l]) ++ [40000] := by unfold preC; rw [hne]; rfl
                have hpl : (preC (L ++ [l]) true).length = (ccX true (L ++ [l])).length + 1 := by rw [hpre]; simp
                have fin : ∀ S6, x7_emit S5 40000 = some S6 → g3 [2] [1] [] S5 S6 → (∀ i, i < c0 → S6.2.1 1 i = S5.2.1 1 i) → ((p4 < 400 ∧ S6.1 2 = nI (c0 + (preC (L ++ [l]) true).length) ∧ sgN (S6.2.1 1) c0 (preC (L ++ [l]) true) ∧ c0 + (preC (L ++ [l]) true).length ≤ C0 + p4 + 1) ∨ (p4 = 400 ∧ ∃ a', c0 ≤ a' ∧ a' ≤ 2400 ∧ S6.1 2 = nI a')) → _ := fun S6 h1 h2 h3 h4 => cc true 3 S6 k3 (by decide) (lvX_g hX5 h2 (by decide) (by decide) (by decide) (by decide) (by decide) (by decide) (by decide) (by decide) (by decide)) (XE_tr fS5 ⟨g3_sub (by decide) (by decide) (by decide) h2, h3⟩) h4
                by_cases h400 : p4 < 400
                · have hem := emX (show c0 + (ccX true (L ++ [l])).length < 2400 by omega) z2 40000
                  have := fin _ hem (g3_tr (g3_A _ _ (by decide)) (g3_I _ _ (by decide))) (fun i hi => pk_un (by omega)) (Or.inl ⟨h400, by rw [hpl]; show nI _ = nI _; congr 1, by
                    rw [hpre]
                    exact sgN_mk (sgN_c (fun i h1 h2 => pk_un (by omega)) hsg) ⟨pk_us, trivial⟩, by omega⟩)
                  rw [hem, calV_s, show (sI (sA S5 1 (upd (S5.2.1 1) (c0 + (ccX true (L ++ [l])).length) 40000)) 2 (nI (c0 + (ccX true (L ++ [l])).length + 1))).1 7 = nI 3 from by show S5.1 7 = _; rw [hX5.2.2.2.1, k3], if_neg (show ¬ nI 3 = 4 from by decide), if_pos (show nI 3 = 3 from rfl)]
                  exact this
                · obtain ⟨S6, h1, h2, h3, h4⟩ := emT (a := c0) (show c0 ≤ c0 + (ccX true (L ++ [l])).length by omega) (show c0 + (ccX true (L ++ [l])).length ≤ 2400 by omega) z2 40000
                  have := fin S6 h1 h2 h3 (Or.inr ⟨by omega, h4⟩)
                  rw [h1, calV_s, show S6.1 7 = nI 3 from by rw [h2.1 7 (by decide), hX5.2.2.2.1, k3], if_neg (show ¬ nI 3 = 4 from by decide), if_pos (show nI 3 = 3 from rfl)]
                  exact this
              · have hpre : preC (L ++ [l]) false = ccX true (L ++ [l]) := by unfold preC; simp
                rw [decide_eq_false k3, if_neg (show ¬ nI (zK z p4) = 3 from fun w => k3 ((nI_eq (b := 3) (by omega) (by decide)).mp w)), if_pos (show bit false = 0 from rfl), is_l hz hM5 (by decide), cal_s]
                by_cases k4 : zK z p4 = 4
                · rw [decide_eq_true k4, hX5.2.2.2.1, k4, if_pos (show nI 4 = 4 from rfl), if_neg (show ¬ bit true = 0 from by decide), if_neg (show ¬ (1 : Int32) = 0 from by decide)]
                  refine cc false 4 S5 k4 (by decide) hX5 fS5 ?_
                  by_cases h400 : p4 < 400
                  · refine Or.inl ⟨h400, by rw [hpre]; exact z2, by rw [hpre]; exact hsg, by rw [hpre]; omega⟩
                  · exact Or.inr ⟨by omega, _, Nat.le_add_right _ _, by omega, z2⟩
                · rw [decide_eq_false k4, hX5.2.2.2.1, if_neg (show ¬ nI (zK z p4) = 4 from fun w => k4 ((nI_eq (b := 4) (by omega) (by decide)).mp w)), if_neg (show ¬ nI (zK z p4) = 3 from fun w => k3 ((nI_eq (b := 3) (by omega) (by decide)).mp w)), if_pos (show bit false = 0 from rfl), if_pos rfl, show r + 1 + e = (r + e) + 1 by omega, show r + 1 + e' = (r + e') + 1 by omega, x2_parseCondition_h4, if_pos rfl, m_tellRule_h250, if_pos rfl]
                  exact ⟨S5, T5, rfl, rfl, fS5, fT5, Or.inl ⟨p4, L ++ [l], dd + o1.length + o2.length, by omega, hX5, hM5, z5, z2, hsg, z13, z12, hls, hok', hor', by omega, by omega, by omega, by rw [hll]; omega⟩⟩
            · rw [if_neg (dM1 k1 k3), calV_s]
              rw [show r + 1 + e = (r + e) + 1 by omega, show r + 1 + e' = (r + e') + 1 by omega, mt_d k1 k3]
              obtain ⟨a', h1, h2, h3⟩ := k4
              obtain ⟨S', g1, g2, g3', g4⟩ := em_d (a := c0) k1 k2 ⟨a', by omega, h2, h3⟩ (r + e) (nI ix) (30000 + 2 * nI (zK z p2) + nI (m' % 2))
              rw [g1]
              exact ⟨S', T4, rfl, rfl, XE_tr fS4 g2, MC_E fT4, Or.inr ⟨f, qq, k1, g3', k3, g4⟩⟩
          · obtain ⟨h1, h2⟩ := expr_d k1 k2 k3
            have k2' : dX f qq (sI S3 5 0) := k2
            have k3' : dM f qq (sI T3 14 0) := k3
            rw [h1, h2, calV_s, calV_s, if_neg (dM1 k1 k3'), calV_s, show r + 1 + e = (r + e) + 1 by omega, show r + 1 + e' = (r + e') + 1 by omega, mt_d k1 k3']
            obtain ⟨S', g1, g2, g3', g4⟩ := em_d (a := c0) k1 k2' ⟨_, by omega, by omega, a3⟩ (r + e) (nI ix) (30000 + 2 * nI (zK z p2) + nI (m' % 2))
            rw [g1]
            exact ⟨S', _, rfl, rfl, XE_tr fS3 (XE_tr (XE_g (I := [5]) (A := []) (L := []) (by decide) (by decide) (by decide) (g3_I _ _ (by decide))) g2), MC_tr (MC_E fT3) (MC_E (ME_g (I := [14]) (A := []) (L := []) (by decide) (by decide) (by decide) (g3_I _ _ (by decide)))), Or.inr ⟨f, qq, k1, g3', k3', g4⟩⟩
        · have hs := sub11 (k := kM (zK z p2)) (by omega)
          have hk := hkc.2 ck
          have hokd : okD 1 (zP z p2) := ⟨by decide, by decide, hP⟩
          have hdM : dM 1 (zP z p2) (sI (sI T2 6 1) 7 (nI (zP z p2))) := ded_m hz hM2 1
          have hj80 : ∀ l4, m_literal_j80 T2 (bit q) (bit (decide (m' % 2 = 1))) (nI dd) l4 = m_literal_j85 (sI (sI T2 6 1) 7 (nI (zP z p2))) (bit q) (bit (decide (m' % 2 = 1))) (nI dd) l4 := fun l4 => by
            unfold m_literal_j80
            rw [fai_y hz hM2, calV_s]
          have hj : (if nI (kM (zK z p2)) - 11 < 0 then m_literal_j80 T2 (bit q) (bit (decide (m' % 2 = 1))) (nI dd) (nI (kM (zK z p2)) - 11) else (if nI (kM (zK z p2)) - 11 ≤ 3 then m_literal_j85 T2 (bit q) (bit (decide (m' % 2 = 1))) (nI dd) (nI (kM (zK z p2)) - 11) else m_literal_j80 T2 (bit q) (bit (decide (m' % 2 = 1))) (nI dd) (nI (kM (zK z p2)) - 11))) = m_literal_j85 (sI (sI T2 6 1) 7 (nI (zP z p2))) (bit q) (bit (decide (m' % 2 = 1))) (nI dd) (nI (kM (zK z p2)) - 11) := by
            rw [hj80]
            by_cases w : nI (kM (zK z p2)) - 11 < 0
            · rw [if_pos w]
            · rw [if_neg w, if_neg (fun w2 => by have h1 := hs.2.mp w2; have h2 : ¬ kM (zK z p2) < 11 := fun w3 => w (hs.1.mpr w3); omega)]
          obtain ⟨T3, g1, g2, g3'⟩ := j85_d hokd hdM (bit q) (bit (decide (m' % 2 = 1))) (nI dd) (nI (kM (zK z p2)) - 11)
          rw [if_neg ck, hj, g1, calV_s, show r + 1 + e = (r + e) + 1 by omega, show r + 1 + e' = (r + e') + 1 by omega, mt_d hokd g3']
          obtain ⟨S', h1, h2, h3, h4⟩ := j56_d (a := c0) hokd (ded_x (S := S2) 1) ⟨_, by omega, by omega, v8⟩ (r + e) (nI ix) (nI (m' % 2)) (nI (zK z p2))
          rw [show x2_parseCondition_j58 (x2_parseCondition_h4 (r + e + 1)) (sI (sI S2 9 1) 10 (nI (zP z p2))) (nI ix) (nI (m' % 2)) (nI (zK z p2)) = some S' from h1]
          exact ⟨S', T3, rfl, rfl, XE_tr fS2 (XE_tr (XE_g (I := [9, 10]) (A := []) (L := []) (by decide) (by decide) (by decide) (g3_tr (g3_I _ _ (by decide)) (g3_I _ _ (by decide)))) h2), MC_tr (MC_E fT2) (MC_E (ME_tr (ME_g (I := [6, 7]) (A := []) (L := []) (by decide) (by decide) (by decide) (g3_tr (g3_I _ _ (by decide)) (g3_I _ _ (by decide)))) (ME_g (by decide) (by decide) (by decide) g2))), Or.inr ⟨1, zP z p2, hokd, h3, g3', h4⟩⟩
      · rw [if_neg (dM1 k1 k3)]
        unfold m_literal_j60
        rw [if_neg (dM0 k1 k3)]
        obtain ⟨T3, g1, g2, g3'⟩ := j85_d k1 k3 (bit q) (bit (decide (m' % 2 = 1))) (nI dd) 0
        obtain ⟨a', h1, h2, h3⟩ := k4
        obtain ⟨S', x1', x2', x3', x4'⟩ := xcp_d (a := c0) k1 k2 ⟨a', by omega, h2, h3⟩ (r + e) (nI ix) (nI (m' % 2))
        rw [g1, calV_s, show r + 1 + e = (r + e) + 1 by omega, show r + 1 + e' = (r + e') + 1 by omega, mt_d k1 g3', x1']
        exact ⟨S', T3, rfl, rfl, XE_tr fS2 x2', MC_tr (MC_E fT2) (MC_E (ME_g (by decide) (by decide) (by decide) g2)), Or.inr ⟨f, qq, k1, x3', g3', x4'⟩⟩
    · obtain ⟨h1, -⟩ := expr_d k1 k2 k3
      have k2' : dX f qq (sI S1 5 0) := k2
      obtain ⟨T3, g1, g2, g3'⟩ := lit_d k1 k3 (bit q) fl
      obtain ⟨S', x1', x2', x3', x4'⟩ := xcp_d (a := c0) k1 k2' ⟨_, Nat.le_add_right _ _, by omega, a1⟩ (r + e) (nI ix) (nI (m' % 2))
      rw [h1, calV_s, g1, calV_s, show r + 1 + e = (r + e) + 1 by omega, show r + 1 + e' = (r + e') + 1 by omega, mt_d k1 g3', x1']
      exact ⟨S', T3, rfl, rfl, XE_tr fS1 (XE_tr (XE_g (I := [5]) (A := []) (L := []) (by decide) (by decide) (by decide) (g3_I _ _ (by decide))) x2'), MC_tr (MC_E fT1) (MC_E (ME_g (by decide) (by decide) (by decide) g2)), Or.inr ⟨f, qq, k1, x3', g3', x4'⟩⟩
