def MC (d f : Nat) (T0 T : ST) : Prop := g3 [4, 5, 6, 7, 12, 13, 14] [12, 13, 14, 15, 16, 17, 18, 19, 20] [] T0 T ∧ (∀ i, i < d → T.2.1 18 i = T0.2.1 18 i ∧ T.2.1 19 i = T0.2.1 19 i) ∧ ∀ i, i < f → T.2.1 12 i = T0.2.1 12 i ∧ T.2.1 13 i = T0.2.1 13 i ∧ T.2.1 14 i = T0.2.1 14 i ∧ T.2.1 15 i = T0.2.1 15 i ∧ T.2.1 16 i = T0.2.1 16 i ∧ T.2.1 17 i = T0.2.1 17 i
theorem MC_rfl (d f : Nat) (T : ST) : MC d f T T := ⟨g3_rfl _ _ _ _, fun _ _ => ⟨rfl, rfl⟩, fun _ _ => ⟨rfl, rfl, rfl, rfl, rfl, rfl⟩⟩
theorem MC_tr {d f : Nat} {S T U : ST} (h : MC d f S T) (g : MC d f T U) : MC d f S U := ⟨g3_tr h.1 g.1, fun i hi => ⟨(g.2.1 i hi).1.trans (h.2.1 i hi).1, (g.2.1 i hi).2.trans (h.2.1 i hi).2⟩, fun i hi => by
  obtain ⟨a1, a2, a3, a4, a5, a6⟩ := h.2.2 i hi
  obtain ⟨b1, b2, b3, b4, b5, b6⟩ := g.2.2 i hi
  exact ⟨b1.trans a1, b2.trans a2, b3.trans a3, b4.trans a4, b5.trans a5, b6.trans a6⟩⟩
theorem MC_E {d f : Nat} {S T : ST} (h : ME d S T) : MC d f S T := ⟨g3_sub (by decide) (by decide) (by decide) h.1, h.2, fun i _ => by rw [h.1.2.1 12 (by decide), h.1.2.1 13 (by decide), h.1.2.1 14 (by decide), h.1.2.1 15 (by decide), h.1.2.1 16 (by decide), h.1.2.1 17 (by decide)]; exact ⟨rfl, rfl, rfl, rfl, rfl, rfl⟩⟩
theorem MC_le {d d' f f' : Nat} {S T : ST} (hd : d' ≤ d) (hf : f' ≤ f) (h : MC d f S T) : MC d' f' S T := ⟨h.1, fun i hi => h.2.1 i (by omega), fun i hi => h.2.2 i (by omega)⟩
/-- not, not .. -/
theorem nots {z : TZ} (hz : okZ z) (K : ST → Int32 → Int32 → Option ST) (l1 : Int32) (e e' : Nat) : ∀ r p m S T, zx z ≤ p + r → m ≤ p → lvX z S p → lvM z T p → ∃ m' fl S' T', x2_parseNots_h2 (r + 1 + e) S (nI m) = some (nI m', S') ∧ m_literal_h2 K (r + 1 + e') T l1 (bit (decide (m % 2 = 1))) = K T' l1 fl ∧ g3 [6, 7, 8, 9, 10] [] [1] S S' ∧ g3 [4, 6, 7] [] [] T T' ∧ m' ≤ 401 ∧ ((∃ p', p ≤ p' ∧ fl = bit (decide (m' % 2 = 1)) ∧ lvX z S' p' ∧ lvM z T' p') ∨ ∃ f q, okD f q ∧ dX f q S' ∧ dM f q T') := by
  intro r
  induction r with
  | zero => intro p m S T h _ hX _; have := hX.2.1; omega
  | succ r ih =>
    intro p m S T h hm hX hM
    have h4 := lv_4 hz hX
    have h38 := hz.2.2.1 p
    rw [show r + 1 + 1 + e = (r + 1 + e) + 1 by omega, show r + 1 + 1 + e' = (r + 1 + e') + 1 by omega, x2_parseNots_h2, m_literal_h2, if_neg (show ¬ (400 : Int32) < nI m from nI_nlt (a := 400) (by omega) (by decide)), show (31 : Int32) = nI (kM 5) from rfl, is_l hz hM (by decide), chkS]
    by_cases c : zK z p = 5
    · rw [if_pos (show S.1 7 = 5 from by rw [hX.2.2.2.1, c]; rfl), decide_eq_true c, if_pos rfl]
      obtain ⟨bb, S1, T1, q1, q2, q3, q4, q5⟩ := nxt2 hz hX hM c (by decide)
      have hfl : (if bit (decide (m % 2 = 1)) = 0 then m_literal_j20 (m_literal_h2 K (r + 1 + e')) K T l1 1 else m_literal_j20 (m_literal_h2 K (r + 1 + e')) K T l1 0) = m_literal_h2 K (r + 1 + e') T1 l1 (bit (decide ((m + 1) % 2 = 1))) := by
        unfold m_literal_j20
        rw [q2, calV_s, calV_s]
        by_cases w : m % 2 = 1
        · rw [decide_eq_true w, if_neg (show ¬ bit true = 0 from by decide), decide_eq_false (by omega)]; rfl
        · rw [decide_eq_false w, if_pos (show bit false = 0 from rfl), decide_eq_true (by omega)]; rfl
      rw [hfl, show x2_accept S 5 = _ from q1]
      rcases q5 with ⟨rfl, l1', l2'⟩ | ⟨rfl, f, q, k1, k2, k3⟩
      · rw [cal_s, if_neg (show ¬ bit true = 0 from by decide), nI_1]
        obtain ⟨m', fl, S', T', g1, g2, g3', g4, g5, g6⟩ := ih (p + 1) (m + 1) S1 T1 (by omega) (by omega) l1' l2'
        refine ⟨m', fl, S', T', g1, g2, g3_tr q3 g3', g3_tr q4 g4, g5, ?_⟩
        rcases g6 with ⟨p', w1, w2⟩ | w
        · exact Or.inl ⟨p', by omega, w2⟩
        · exact Or.inr w
      · rw [cal_s, if_pos (show bit false = 0 from rfl), show r + 1 + e' = (r + e') + 1 by omega, m_literal_h2, is_d (dM0 k1 k3), cal_s, if_pos rfl]
        exact ⟨m, _, S1, T1, rfl, rfl, q3, q4, by omega, Or.inr ⟨f, q, k1, k2, k3⟩⟩
    · rw [if_neg (show ¬ S.1 7 = 5 from by rw [hX.2.2.2.1]; exact fun q => c ((nI_eq (b := 5) (by omega) (by decide)).mp q)), decide_eq_false c, if_neg (show ¬ (false = true) from by decide)]
      exact ⟨m, _, S, T, rfl, rfl, g3_rfl _ _ _ _, g3_rfl _ _ _ _, by omega, Or.inl ⟨p, Nat.le_refl _, rfl, hX, hM⟩⟩
/-- the class behind a fault within a condition -/
theorem j56_d {a f q : Nat} {S : ST} (ho : okD f q) (hD : dX f q S) (hb : ∃ a', a ≤ a' ∧ a' ≤ 2400 ∧ S.1 2 = nI a') (n : Nat) (c l2 l3 : Int32) : ∃ S', x2_parseCondition_j58 (x2_parseCondition_h4 (n + 1)) S c l2 l3 = some S' ∧ XE a S S' ∧ dX f q S' ∧ ∃ a', a ≤ a' ∧ a' ≤ 2400 ∧ S'.1 2 = nI a' := by
  have j99 : ∀ S', ¬ S'.1 9 = 0 → x2_parseCondition_j103 (x2_parseCondition_h4 (n + 1)) S' c = some S' := fun S' h => by
    unfold x2_parseCondition_j103 x2_parseCondition_j119 x2_parseCondition_j134 x2_parseCondition_j135
    try dsimp only
    rw [acc_d h, cal_s, if_pos rfl, x2_parseCondition_h4, if_pos rfl, ite_self, ite_self]
  obtain ⟨e, he⟩ := FU_s 1 (by decide)
  have hx : x2_parseExpression S = some (sI S 5 0) := by
    unfold x2_parseExpression
    rw [he, show 1 + e = e + 1 by omega, x2_parseExpression_h11, if_neg (show ¬ (1 : Int32) = 0 from by decide), if_neg (show ¬ (sI S 5 0).1 9 = 0 from dX0 ho hD)]
    rfl
  unfold x2_parseCondition_j58
  rw [acc_d (dX0 ho hD), cal_s, hx, calV_s]
  obtain ⟨a1, b1, b2, b3⟩ := hb
  obtain ⟨S1, g1, g2, g3', a2, g4, g5, g6⟩ := emT (S := sI S 5 0) b1 b2 b3 (30000 + 2 * l3 + l2)
  have d1 : dX f q S1 := ⟨(g2.1 9 (by decide)).trans hD.1, (g2.1 10 (by decide)).trans hD.2⟩
  have f1 : XE a S S1 := ⟨g3_tr (g3_I _ _ (by decide)) (g3_sub (by decide) (by decide) (by decide) g2), g3'⟩
  rw [g1, calV_s]
  obtain ⟨S2, k1, k2, k3, k4⟩ := emT g4 g5 g6 40000
  have d2 : dX f q S2 := ⟨(k2.1 9 (by decide)).trans d1.1, (k2.1 10 (by decide)).trans d1.2⟩
  rw [k1, calV_s, j99 S1 (dX0 ho d1), j99 S2 (dX0 ho d2)]
  by_cases c3 : S1.1 7 = 3
  · rw [if_pos c3]
    exact ⟨S2, rfl, XE_tr f1 ⟨g3_sub (by decide) (by decide) (by decide) k2, k3⟩, d2, k4⟩
  · rw [if_neg c3]
    exact ⟨S1, rfl, f1, d1, a2, g4, g5, g6⟩
/-- the reference behind a fault within a literal -/
theorem j85_d {f q : Nat} {T : ST} (ho : okD f q) (h : dM f q T) (l1 l2 l3 l4 : Int32) : ∃ T', m_literal_j85 T l1 l2 l3 l4 = some T' ∧ g3 [4, 14] [] [] T T' ∧ dM f q T' := by
  obtain ⟨T1, n1, n2, n3⟩ := nxt_d ho h
  obtain ⟨e, he⟩ := FU_s 1 (by decide)
  have hx : m_expression T1 = some (sI T1 14 0) := by
    unfold m_expression
    rw [he, show 1 + e = e + 1 by omega, m_expression_h12, if_neg (show ¬ (1 : Int32) = 0 from by decide), if_neg (show ¬ (sI T1 14 0).1 6 = 0 from dM0 ho n3)]
  have n4 : dM f q (sI T1 14 0) := n3
  unfold m_literal_j85
  rw [n1, calV_s]
  dsimp only
  rw [hx, calV_s, if_neg (dM1 ho n4)]
  exact ⟨_, rfl, g3_tr (g3_sub (by decide) (by decide) (by decide) n2) (g3_I _ _ (by decide)), n4⟩
theorem km_cmp : ∀ k, k < 39 → (31 ≤ k ∧ k ≤ 34 → kM k = k - 20) ∧ (¬ (31 ≤ k ∧ k ≤ 34) → kM k < 11 ∨ 14 < kM k) := by decide +kernel
def litW (T : ST) (f : Nat) (how nt or l r en : Int32) : ST := sI (sA (sA (sA (sA (sA (sA T 12 (upd (T.2.1 12) f how)) 13 (upd (T.2.1 13) f nt)) 14 (upd (T.2.1 14) f or)) 15 (upd (T.2.1 15) f l)) 16 (upd (T.2.1 16) f r)) 17 (upd (T.2.1 17) f en)) 12 (nI (f + 1))
theorem litW_g (T : ST) (f : Nat) (how nt or l r en : Int32) : g3 [12] [12, 13, 14, 15, 16, 17] [] T (litW T f how nt or l r en) := g3_tr (g3_A _ _ (by decide)) (g3_tr (g3_A _ _ (by decide)) (g3_tr (g3_A _ _ (by decide)) (g3_tr (g3_A _ _ (by decide)) (g3_tr (g3_A _ _ (by decide)) (g3_tr (g3_A _ _ (by decide)) (g3_I _ _ (by decide)))))))
theorem nb_bit (b : Bool) : vp_nar .boolean (bit b) = bit b := by cases b <;> decide
