def XT (c row : Nat) (S0 S : ST) : Prop := g3 [2, 3, 5, 6, 7, 8, 9, 10] [1, 7, 12] [1] S0 S ∧ (∀ i, i < c → S.2.1 1 i = S0.2.1 1 i) ∧ ∀ i, i ≠ row → S.2.1 7 i = S0.2.1 7 i
def MT (d f row N : Nat) (T0 T : ST) : Prop := g3 [4, 5, 6, 7, 12, 13, 14] [6, 9, 10, 11, 12, 13, 14, 15, 16, 17, 18, 19, 20] [] T0 T ∧ (∀ i, i < d → T.2.1 18 i = T0.2.1 18 i ∧ T.2.1 19 i = T0.2.1 19 i) ∧ (∀ i, i < f → T.2.1 12 i = T0.2.1 12 i ∧ T.2.1 13 i = T0.2.1 13 i ∧ T.2.1 14 i = T0.2.1 14 i ∧ T.2.1 15 i = T0.2.1 15 i ∧ T.2.1 16 i = T0.2.1 16 i ∧ T.2.1 17 i = T0.2.1 17 i) ∧ (∀ i, i ≠ row → T.2.1 9 i = T0.2.1 9 i ∧ T.2.1 10 i = T0.2.1 10 i ∧ T.2.1 11 i = T0.2.1 11 i) ∧ ∀ i, i ≠ N → T.2.1 6 i = T0.2.1 6 i
theorem XT_tr {c r : Nat} {S T U : ST} (h : XT c r S T) (g : XT c r T U) : XT c r S U := ⟨g3_tr h.1 g.1, fun i hi => (g.2.1 i hi).trans (h.2.1 i hi), fun i hi => (g.2.2 i hi).trans (h.2.2 i hi)⟩
theorem XT_E {a c r : Nat} {S T : ST} (hc : c ≤ a) (h : XE a S T) : XT c r S T := ⟨g3_sub (by decide) (by decide) (by decide) h.1, fun i hi => h.2 i (by omega), fun i _ => by rw [h.1.2.1 7 (by decide)]⟩
theorem MT_tr {d f r N : Nat} {S T U : ST} (h : MT d f r N S T) (g : MT d f r N T U) : MT d f r N S U := ⟨g3_tr h.1 g.1, fun i hi => ⟨(g.2.1 i hi).1.trans (h.2.1 i hi).1, (g.2.1 i hi).2.trans (h.2.1 i hi).2⟩, fun i hi => by
  obtain ⟨a1, a2, a3, a4, a5, a6⟩ := h.2.2.1 i hi
  obtain ⟨b1, b2, b3, b4, b5, b6⟩ := g.2.2.1 i hi
  exact ⟨b1.trans a1, b2.trans a2, b3.trans a3, b4.trans a4, b5.trans a5, b6.trans a6⟩, fun i hi => by
  obtain ⟨a1, a2, a3⟩ := h.2.2.2.1 i hi
  obtain ⟨b1, b2, b3⟩ := g.2.2.2.1 i hi
  exact ⟨b1.trans a1, b2.trans a2, b3.trans a3⟩, fun i hi => (g.2.2.2.2 i hi).trans (h.2.2.2.2 i hi)⟩
theorem MT_C {d f r N : Nat} {S T : ST} (h : MC d f S T) : MT d f r N S T := ⟨g3_sub (by decide) (by decide) (by decide) h.1, h.2.1, h.2.2, fun i _ => by rw [h.1.2.1 9 (by decide), h.1.2.1 10 (by decide), h.1.2.1 11 (by decide)]; exact ⟨rfl, rfl, rfl⟩, fun i _ => by rw [h.1.2.1 6 (by decide)]⟩
theorem MT_g {d f r N : Nat} {I A L : List Nat} {S T : ST} (hI : ∀ k, k ∈ I → k ∈ [4, 5, 6, 7, 13, 14]) (hA : ∀ k, k ∈ A → k ∈ [20]) (hL : ∀ k, k ∈ L → k ∈ ([] : List Nat)) (h : g3 I A L S T) : MT d f r N S T := MT_C (MC_E (ME_g hI hA hL h))
theorem MT_9 {d f N : Nat} (T : ST) {row : Nat} (v : Int32) : MT d f row N T (sA T 9 (upd (T.2.1 9) row v)) := ⟨g3_A _ _ (by decide), fun _ _ => ⟨rfl, rfl⟩, fun _ _ => ⟨rfl, rfl, rfl, rfl, rfl, rfl⟩, fun i hi => ⟨pk_un hi, rfl, rfl⟩, fun _ _ => rfl⟩
theorem MT_10 {d f N : Nat} (T : ST) {row : Nat} (v : Int32) : MT d f row N T (sA T 10 (upd (T.2.1 10) row v)) := ⟨g3_A _ _ (by decide), fun _ _ => ⟨rfl, rfl⟩, fun _ _ => ⟨rfl, rfl, rfl, rfl, rfl, rfl⟩, fun i hi => ⟨rfl, pk_un hi, rfl⟩, fun _ _ => rfl⟩
theorem MT_11 {d f N : Nat} (T : ST) {row : Nat} (v : Int32) : MT d f row N T (sA T 11 (upd (T.2.1 11) row v)) := ⟨g3_A _ _ (by decide), fun _ _ => ⟨rfl, rfl⟩, fun _ _ => ⟨rfl, rfl, rfl, rfl, rfl, rfl⟩, fun i hi => ⟨rfl, rfl, pk_un hi⟩, fun _ _ => rfl⟩
theorem MT_6 {d f row : Nat} (T : ST) {N : Nat} (v : Int32) : MT d f row N T (sA T 6 (upd (T.2.1 6) N v)) := ⟨g3_A _ _ (by decide), fun _ _ => ⟨rfl, rfl⟩, fun _ _ => ⟨rfl, rfl, rfl, rfl, rfl, rfl⟩, fun i hi => ⟨rfl, rfl, rfl⟩, fun i hi => pk_un hi⟩
/-- the semicolon -/
theorem semi {z : TZ} {N R i c2 f2 row p d f : Nat} {S T : ST} (hz : okZ z) (hN : N ≤ 5) (hR : R < 144) (hrow : row < 168) (hX : lvX z S p) (hM : lvM z T p) (x3 : S.1 3 = nI R) (x2 : S.1 2 = nI c2) (m12 : T.1 12 = nI f2) (m11 : T.1 11 = nI N) (m6 : T.2.1 6 N = nI i) : ∃ S' T', x2_parseRule_j112 S = some S' ∧ m_tellRule_j309 T (nI row) = some T' ∧ XT c2 R S S' ∧ MT d f row N T T' ∧ T'.2.1 11 row = nI f2 ∧ ((lvX z S' (p + 1) ∧ lvM z T' (p + 1) ∧ S'.1 3 = nI (R + 1) ∧ S'.2.1 7 R = nI c2 ∧ S'.1 2 = nI c2 ∧ S'.2.1 1 = S.2.1 1 ∧ T'.2.1 6 N = nI (i + 1) ∧ T'.1 12 = nI f2 ∧ T'.1 13 = T.1 13 ∧ T'.1 5 = T.1 5 ∧ MC d f2 T T' = MC d f2 T T' ∧ (∀ k, k ∈ [8, 9, 10, 12, 13, 14, 15, 16, 17, 18, 19] → T'.2.1 k = T.2.1 k)) ∨ ∃ fq q, okD fq q ∧ dX fq q S' ∧ dM fq q T') := by
  obtain ⟨bb, S1, T1, q1, q2, q3, q4, q5⟩ := acc2 hz hX hM (k := 26) (by decide)
  unfold x2_parseRule_j112 m_tellRule_j309
  rw [show x2_accept S 26 = _ from q1, show m_must T 4 = _ from q2, calV_s, G_in hrow (by decide), nI_clamp (by omega)]
  dsimp only
  have e12 : T1.1 12 = nI f2 := (q4.1 12 (by decide)).trans m12
  have e11 : T1.1 11 = nI N := (q4.1 11 (by decide)).trans m11
  have fS1 : XT c2 R S S1 := XT_E (Nat.le_refl c2) (XE_g (a := c2) (by decide) (by decide) (by decide) q3)
  have fT1 : MT d f row N T (sA T1 11 (upd (T1.2.1 11) row (T1.1 12))) := MT_tr (MT_g (by decide) (by decide) (by decide) q4) (MT_11 T1 _)
  rcases q5 with ⟨rfl, -, hX1, hM1⟩ | ⟨rfl, fq, q, k1, k2, k3⟩
  · have y3 : S1.1 3 = nI R := (q3.1 3 (by decide)).trans x3
    have y2 : S1.1 2 = nI c2 := (q3.1 2 (by decide)).trans x2
    rw [cal_s, if_neg (show ¬ bit true = 0 from by decide)]
    unfold x7_closeRule
    rw [y3, if_neg (nI_pos (by omega)), if_neg (show ¬ (144 : Int32) ≤ nI R from nI_ge (b := 144) hR (by decide)), G_in hR (by decide), nI_clamp (by omega), y2]
    dsimp only
    rw [calV_s, show (sA S1 7 (upd (S1.2.1 7) R (nI c2))).1 3 + 1 = nI (R + 1) from by show S1.1 3 + 1 = _; rw [y3, nI_1], if_pos (show (sA T1 11 (upd (T1.2.1 11) row (T1.1 12))).1 6 = 0 from hM1.2.2.2), show (sA T1 11 (upd (T1.2.1 11) row (T1.1 12))).1 11 = nI N from e11, G_in (by omega) (by decide), G_in (by omega) (by decide), nI_clamp (by omega), show (sA T1 11 (upd (T1.2.1 11) row (T1.1 12))).2.1 6 N = nI i from by show T1.2.1 6 N = _; rw [q4.2.1 6 (by decide)]; exact m6, nI_1]
    refine ⟨_, _, rfl, rfl, XT_tr fS1 ⟨g3_tr (g3_A _ _ (by decide)) (g3_I _ _ (by decide)), fun _ _ => rfl, fun j hj => pk_un hj⟩, MT_tr fT1 (MT_6 _ _), ?_, Or.inl ⟨?_, ?_, rfl, pk_us, y2, ?_, pk_us, e12, ?_, ?_, rfl, ?_⟩⟩
    · show upd (T1.2.1 11) row (T1.1 12) row = _; rw [pk_us, e12]
    · exact lvX_g hX1 (I := [3]) (A := [7]) (L := []) (g3_tr (g3_A _ _ (by decide)) (g3_I _ _ (by decide))) (by decide) (by decide) (by decide) (by decide) (by decide) (by decide) (by decide) (by decide) (by decide)
    · exact lvM_g hM1 (I := []) (A := [6, 11]) (L := []) (g3_tr (g3_A _ _ (by decide)) (g3_A _ _ (by decide))) (by decide) (by decide) (by decide) (by decide) (by decide) (by decide)
    · show S1.2.1 1 = _; rw [q3.2.1 1 (by decide)]
    · show T1.1 13 = _; rw [q4.1 13 (by decide)]
    · show T1.1 5 = _; rw [q4.1 5 (by decide)]
    · intro k hk
      have h6 : k ≠ 6 := fun e => by rw [e] at hk; revert hk; decide
      have h11 : k ≠ 11 := fun e => by rw [e] at hk; revert hk; decide
      show va_up (va_up T1.2.1 11 _) 6 _ k = _
      rw [va_o _ _ h6, va_o _ _ h11, q4.2.1 k (by simp)]
  · rw [cal_s, if_pos (show bit false = 0 from rfl), if_neg (show ¬ (sA T1 11 (upd (T1.2.1 11) row (T1.1 12))).1 6 = 0 from dM0 k1 k3)]
    exact ⟨S1, _, rfl, rfl, fS1, fT1, by show upd (T1.2.1 11) row (T1.1 12) row = _; rw [pk_us, e12], Or.inr ⟨fq, q, k1, k2, k3⟩⟩
/-- from the condition on -/
theorem rtl {z : TZ} {N R i s c1 d1 f C0 D0 F0 row p : Nat} {S T : ST} (hz : okZ z) (hC0 : C0 ≤ 2000) (hD0 : D0 ≤ 2000) (hF0 : F0 ≤ 700) (hN : N ≤ 5) (hR : R < 144) (hrow : row < 168) (hs : s ≤ 5) (hX : lvX z S p) (hM : lvM z T p) (m5 : T.1 5 = 0) (x3 : S.1 3 = nI R) (x2 : S.1 2 = nI c1) (m13 : T.1 13 = nI d1) (m12 : T.1 12 = nI f) (m11 : T.1 11 = nI N) (m6 : T.2.1 6 N = nI i) (bc : c1 ≤ C0 + p) (bd : d1 ≤ D0 + p) (bf : F0 ≤ f) (b4 : 4 * f ≤ 4 * F0 + p) : ∃ S' T', x2_parseRule_j85 S (nI s) = some S' ∧ m_tellRule_j179 T (nI s) (nI row) = some T' ∧ XT c1 R S S' ∧ MT d1 f row N T T' ∧ ((∃ p' l d', p < p' ∧ lvX z S' p' ∧ lvM z T' p' ∧ T'.1 5 = 0 ∧ S'.1 3 = nI (R + 1) ∧ S'.2.1 7 R = nI (c1 + (ccX true l).length) ∧ S'.1 2 = nI (c1 + (ccX true l).length) ∧ sgN (S'.2.1 1) c1 (ccX true l) ∧ T'.2.1 6 N = nI (i + 1) ∧ T'.1 13 = nI d' ∧ T'.1 12 = nI (f + l.length) ∧ T'.2.1 9 row = nI d1 ∧ T'.2.1 10 row = nI f ∧ T'.2.1 11 row = nI (f + l.length) ∧ lsM T' d' f l ∧ okLs l ∧ orFirst l ∧ c1 + (ccX true l).length ≤ C0 + p' ∧ d' ≤ D0 + p' ∧ d1 ≤ d' ∧ 4 * (f + l.length) ≤ 4 * F0 + p') ∨ ∃ fq q, okD fq q ∧ dX fq q S' ∧ dM fq q T') := by
  have h38 := hz.2.2.1 p
  have hp4 := lv_4 hz hX
  have hP := hz.2.2.2.1 p
  unfold m_tellRule_j179 m_tellRule_j217
  rw [G_in hrow (by decide), G_in hrow (by decide), nI_clamp (by omega)]
  dsimp only
  generalize hT1 : sA (sA T 9 (upd (T.2.1 9) row (T.1 13))) 10 (upd ((sA T 9 (upd (T.2.1 9) row (T.1 13))).2.1 10) row ((sA T 9 (upd (T.2.1 9) row (T.1 13))).1 12)) = T1
  have gT1 : g3 [] [9, 10] [] T T1 := by rw [← hT1]; exact g3_tr (g3_A _ _ (by decide)) (g3_A _ _ (by decide))
  have fT1 : MT d1 f row N T T1 := by rw [← hT1]; exact MT_tr (MT_9 T _) (MT_10 _ _)
  have r9 : T1.2.1 9 row = nI d1 := by rw [← hT1, ← m13]; exact pk_us
  have r10 : T1.2.1 10 row = nI f := by rw [← hT1, ← m12]; exact pk_us
  have hM1 : lvM z T1 p := lvM_g hM gT1 (by decide) (by decide) (by decide) (by decide) (by decide) (by decide)
  have t5 : T1.1 5 = 0 := (gT1.1 5 (by decide)).trans m5
  have t13 : T1.1 13 = nI d1 := (gT1.1 13 (by decide)).trans m13
  have t12 : T1.1 12 = nI f := (gT1.1 12 (by decide)).trans m12
  have t11 : T1.1 11 = nI N := (gT1.1 11 (by decide)).trans m11
  have t6 : T1.2.1 6 N = nI i := by rw [gT1.2.1 6 (by decide)]; exact m6
  rw [show (23 : Int32) = nI (kM 2) from rfl, is_l hz hM1 (by decide), chkS]
  -- without a condition
  have noC : ∃ S' T', x2_parseRule_j112 S = some S' ∧ m_tellRule_j247 T1 (nI row) 0 = some T' ∧ XT c1 R S S' ∧ MT d1 f row N T T' ∧ ((∃ p' l d', p < p' ∧ lvX z S' p' ∧ lvM z T' p' ∧ T'.1 5 = 0 ∧ S'.1 3 = nI (R + 1) ∧ S'.2.1 7 R = nI (c1 + (ccX true l).length) ∧ S'.1 2 = nI (c1 + (ccX true l).length) ∧ sgN (S'.2.1 1) c1 (ccX true l) ∧ T'.2.1 6 N = nI (i + 1) ∧ T'.1 13 = nI d' ∧ T'.1 12 = nI (f + l.length) ∧ T'.2.1 9 row = nI d1 ∧ T'.2.1 10 row = nI f ∧ T'.2.1 11 row = nI (f + l.length) ∧ lsM T' d' f l ∧ okLs l ∧ orFirst l ∧ c1 + (ccX true l).length ≤ C0 + p' ∧ d' ≤ D0 + p' ∧ d1 ≤ d' ∧ 4 * (f + l.length) ≤ 4 * F0 + p') ∨ ∃ fq q, okD fq q ∧ dX fq q S' ∧ dM fq q T') := by
    obtain ⟨S', T', g1, g2, g3', g4, g5, g6⟩ := semi (d := d1) (f := f) hz hN hR hrow hX hM1 x3 x2 t12 t11 t6
    obtain ⟨e, he⟩ := FU_s 1 (by decide)
    refine ⟨S', T', g1, ?_, g3', MT_tr fT1 g4, ?_⟩
    · unfold m_tellRule_j247
      rw [he, show 1 + e = e + 1 by omega, m_tellRule_h250, if_pos rfl]
      exact g2
    · rcases g6 with ⟨w1, w2, w3, w4, w5, w6, w7, w8, w9, w10, -, w12⟩ | w
      · refine Or.inl ⟨p + 1, [], d1, by omega, w1, w2, w10.trans t5, w3, w4, w5, trivial, w7, w9.trans t13, w8, ?_, ?_, g5, trivial, trivial, trivial, by show c1 + 0 ≤ _; omega, by omega, Nat.le_refl _, by show 4 * (f + 0) ≤ _; omega⟩
        · rw [w12 9 (by decide)]; exact r9
        · rw [w12 10 (by decide)]; exact r10
      · exact Or.inr w
  -- with one
  have yesC : zK z p = 2 → ∃ S' T', x2_parseRule_j102 S = some S' ∧ (calV (m_next T1) fun S244 => m_tellRule_j247 S244 (nI row) 1) = some T' ∧ XT c1 R S S' ∧ MT d1 f row N T T' ∧ ((∃ p' l d', p < p' ∧ lvX z S' p' ∧ lvM z T' p' ∧ T'.1 5 = 0 ∧ S'.1 3 = nI (R + 1) ∧ S'.2.1 7 R = nI (c1 + (ccX true l).length) ∧ S'.1 2 = nI (c1 + (ccX true l).length) ∧ sgN (S'.2.1 1) c1 (ccX true l) ∧ T'.2.1 6 N = nI (i + 1) ∧ T'.1 13 = nI d' ∧ T'.1 12 = nI (f + l.length) ∧ T'.2.1 9 row = nI d1 ∧ T'.2.1 10 row = nI f ∧ T'.2.1 11 row = nI (f + l.length) ∧ lsM T' d' f l ∧ okLs l ∧ orFirst l ∧ c1 + (ccX true l).length ≤ C0 + p' ∧ d' ≤ D0 + p' ∧ d1 ≤ d' ∧ 4 * (f + l.length) ≤ 4 * F0 + p') ∨ ∃ fq q, okD fq q ∧ dX fq q S' ∧ dM fq q T') := by
    intro hk
    obtain ⟨bb, S2, T2, q1, q2, q3, q4, q5⟩ := nxt2 hz hX hM1 hk (by decide)
    unfold x2_parseRule_j102
    rw [show x2_accept S 2 = _ from q1, cal_s, q2, calV_s]
    have fS2 : XT c1 R S S2 := XT_E (Nat.le_refl c1) (XE_g (a := c1) (by decide) (by decide) (by decide) q3)
    have fT2 : MT d1 f row N T T2 := MT_tr fT1 (MT_g (by decide) (by decide) (by decide) q4)
    rcases q5 with ⟨rfl, hX2, hM2⟩ | ⟨rfl, fq, q, k1, k2, k3⟩
    · have hzx := hz.2.1
      obtain ⟨e, he⟩ := FU_s (zx z + 1) (by omega)
      have hC : cIV z C0 c1 d1 f D0 F0 S2 T2 (p + 1) [] true d1 := ⟨hX2, hM2, (q4.1 5 (by decide)).trans t5, (q3.1 2 (by decide)).trans x2, trivial, (q4.1 13 (by decide)).trans t13, (q4.1 12 (by decide)).trans t12, trivial, trivial, trivial, fun _ => rfl, by show c1 + 0 ≤ _; omega, by omega, Nat.le_refl _, bf, by show 4 * (f + 0) ≤ _; omega⟩
      obtain ⟨S3, T3, g1, g2, g3', g4, g5⟩ := cnl hz hC0 hD0 hF0 m_tellRule_j309 (nI row) e e (zx z) (p + 1) 0 [] true S2 T2 d1 (by omega) (by omega) hC
      have hpc : x2_parseCondition S2 = some S3 := by unfold x2_parseCondition; rw [he]; exact g1
      have h247 : m_tellRule_j247 T2 (nI row) 1 = m_tellRule_j309 T3 (nI row) := by unfold m_tellRule_j247; rw [he]; exact g2
      rw [hpc, calV_s, h247]
      have fS3 : XT c1 R S S3 := XT_tr fS2 (XT_E (Nat.le_refl c1) g3')
      have fT3 : MT d1 f row N T T3 := MT_tr fT2 (MT_C g4)
      rcases g5 with ⟨p', L', dd', w1, w2, w3, w4, w5, w6, w7, w8, w9, w10, w11, w12, w13, w14, w15⟩ | ⟨fq, q, k1, k2, k3, -⟩
      · have u11 : T3.1 11 = nI N := by rw [g4.1.1 11 (by decide), q4.1 11 (by decide)]; exact t11
        have u6 : T3.2.1 6 N = nI i := by rw [g4.1.2.1 6 (by decide), q4.2.1 6 (by decide)]; exact t6
        have u9 : T3.2.1 9 row = nI d1 := by rw [g4.1.2.1 9 (by decide), q4.2.1 9 (by decide)]; exact r9
        have u10 : T3.2.1 10 row = nI f := by rw [g4.1.2.1 10 (by decide), q4.2.1 10 (by decide)]; exact r10
        have y3 : S3.1 3 = nI R := by rw [g3'.1.1 3 (by decide), q3.1 3 (by decide)]; exact x3
        obtain ⟨S', T', h1, h2, h3, h4, h5, h6⟩ := semi (d := d1) (f := f) hz hN hR hrow w2 w3 y3 w5 w8 u11 u6
        refine ⟨S', T', h1, h2, XT_tr fS3 ⟨h3.1, fun j hj => h3.2.1 j (by omega), h3.2.2⟩, MT_tr fT3 h4, ?_⟩
        rcases h6 with ⟨v1, v2, v3, v4, v5, v6, v7, v8, v9, v10, -, v12⟩ | w
        · refine Or.inl ⟨p' + 1, L', dd', by omega, v1, v2, v10.trans w4, v3, v4, v5, by rw [v6]; exact w6, v7, v9.trans w7, v8, ?_, ?_, h5, ?_, w10, w11, by omega, by omega, w14, by omega⟩
          · rw [v12 9 (by decide)]; exact u9
          · rw [v12 10 (by decide)]; exact u10
          · unfold lsM
            rw [v12 12 (by decide), v12 13 (by decide), v12 14 (by decide), v12 15 (by decide), v12 16 (by decide), v12 17 (by decide), v12 18 (by decide), v12 19 (by decide)]
            exact w9
        · exact Or.inr w
      · have h309 : m_tellRule_j309 T3 (nI row) = some (sA T3 11 (upd (T3.2.1 11) row (T3.1 12))) := by
          unfold m_tellRule_j309
          rw [mus_d k1 k3, calV_s, G_in hrow (by decide), nI_clamp (by omega)]
          dsimp only
          rw [if_neg (show ¬ (sA T3 11 (upd (T3.2.1 11) row (T3.1 12))).1 6 = 0 from dM0 k1 k3)]
        rw [j112_d (dX0 k1 k2), h309]
        exact ⟨S3, _, rfl, rfl, fS3, MT_tr fT3 (MT_11 T3 _), Or.inr ⟨fq, q, k1, k2, k3⟩⟩
    · rw [cnd_d (dX0 k1 k2), calV_s, j112_d (dX0 k1 k2), mj247_d hrow k1 k3]
      exact ⟨S2, _, rfl, rfl, fS2, MT_tr fT2 (MT_11 T2 _), Or.inr ⟨fq, q, k1, k2, k3⟩⟩
  unfold x2_parseRule_j85 m_tellRule_j218 m_tellRule_j238
  by_cases s5 : s = 5
  · rw [s5, if_pos (show nI 5 = 5 from rfl), if_pos (show nI 5 = 5 from rfl), if_neg (show ¬ nI 5 ≤ 0 from by decide), if_pos (show (5 : Int32) ≤ nI 5 from by decide), if_pos rfl, ite_self]
    exact noC
  · have ns5 : ¬ nI s = 5 := fun w => s5 ((nI_eq (b := 5) (by omega) (by decide)).mp w)
    rw [if_neg ns5, if_neg ns5]
    by_cases s0 : s = 0
    · rw [s0, if_pos (show nI 0 = 0 from rfl), if_pos (show nI 0 ≤ 0 from by decide), if_pos (show nI 0 ≤ 0 from by decide), hX.2.2.2.1]
      by_cases k2 : zK z p = 2
      · rw [decide_eq_true k2, if_pos rfl, k2, if_pos (show nI 2 = 2 from rfl), if_neg (show ¬ (1 : Int32) = 0 from by decide)]
        exact yesC k2
      · rw [decide_eq_false k2, if_neg (show ¬ (false = true) from by decide), if_neg (show ¬ nI (zK z p) = 2 from fun w => k2 ((nI_eq (b := 2) (by omega) (by decide)).mp w)), if_pos rfl]
        exact noC
    · rw [if_neg (show ¬ nI s = 0 from fun w => s0 ((nI_eq (b := 0) (by omega) (by decide)).mp w)), if_neg (show ¬ nI s ≤ 0 from nI_ge (a := 0) (by omega) (by omega)), if_neg (show ¬ nI s ≤ 0 from nI_ge (a := 0) (by omega) (by omega)), if_neg (show ¬ (5 : Int32) ≤ nI s from nI_ge (b := 5) (by omega) (by decide)), if_neg (show ¬ (5 : Int32) ≤ nI s from nI_ge (b := 5) (by omega) (by decide))]
      by_cases k2 : zK z p = 2
      · rw [decide_eq_true k2, if_pos rfl, show m_must T1 23 = m_next T1 from mus_y hz hM1 k2]
        exact yesC k2
      · rw [decide_eq_false k2, if_neg (show ¬ (false = true) from by decide), show m_must T1 23 = _ from mus_n hz hM1 k2 (by decide), calV_s]
        have hokd : okD 1 (zP z p) := ⟨by decide, by decide, hP⟩
        have hdX : dX 1 (zP z p) (sI (sI S 9 1) 10 (nI (zP z p))) := ⟨rfl, rfl⟩
        have hdM : dM 1 (zP z p) (sI (sI T1 6 1) 7 (nI (zP z p))) := ded_m hz hM1 1
        rw [mj247_d hrow hokd hdM]
        unfold x2_parseRule_j102
        rw [show (2 : Int32) = nI 2 from rfl, acc_n hz hX k2 (by decide), cal_s, cnd_d (dX0 hokd hdX), calV_s, j112_d (dX0 hokd hdX)]
        exact ⟨_, _, rfl, rfl, XT_E (Nat.le_refl c1) (XE_g (a := c1) (I := [9, 10]) (A := []) (L := []) (by decide) (by decide) (by decide) (g3_tr (g3_I _ _ (by decide)) (g3_I _ _ (by decide)))), MT_tr fT1 (MT_tr (MT_g (I := [6, 7]) (A := []) (L := []) (by decide) (by decide) (by decide) (g3_tr (g3_I _ _ (by decide)) (g3_I _ _ (by decide)))) (MT_11 _ _)), Or.inr ⟨1, zP z p, hokd, hdX, hdM⟩⟩
