def XE (a : Nat) (S0 S : ST) : Prop := g3 [2, 5, 6, 7, 8, 9, 10] [1, 12] [1] S0 S ∧ ∀ i, i < a → S.2.1 1 i = S0.2.1 1 i
def ME (d : Nat) (T0 T : ST) : Prop := g3 [4, 5, 6, 7, 13, 14] [18, 19, 20] [] T0 T ∧ ∀ i, i < d → T.2.1 18 i = T0.2.1 18 i ∧ T.2.1 19 i = T0.2.1 19 i
theorem XE_rfl (a : Nat) (S : ST) : XE a S S := ⟨g3_rfl _ _ _ _, fun _ _ => rfl⟩
theorem ME_rfl (a : Nat) (S : ST) : ME a S S := ⟨g3_rfl _ _ _ _, fun _ _ => ⟨rfl, rfl⟩⟩
theorem XE_tr {a : Nat} {S T U : ST} (h : XE a S T) (g : XE a T U) : XE a S U := ⟨g3_tr h.1 g.1, fun i hi => (g.2 i hi).trans (h.2 i hi)⟩
theorem ME_tr {a : Nat} {S T U : ST} (h : ME a S T) (g : ME a T U) : ME a S U := ⟨g3_tr h.1 g.1, fun i hi => ⟨(g.2 i hi).1.trans (h.2 i hi).1, (g.2 i hi).2.trans (h.2 i hi).2⟩⟩
theorem XE_le {a b : Nat} {S T : ST} (hab : b ≤ a) (h : XE a S T) : XE b S T := ⟨h.1, fun i hi => h.2 i (by omega)⟩
theorem ME_le {a b : Nat} {S T : ST} (hab : b ≤ a) (h : ME a S T) : ME b S T := ⟨h.1, fun i hi => h.2 i (by omega)⟩
theorem XE_g {a : Nat} {I A L : List Nat} {S T : ST} (hI : ∀ k, k ∈ I → k ∈ [2, 5, 6, 7, 8, 9, 10]) (hA : ∀ k, k ∈ A → k ∈ [12]) (hL : ∀ k, k ∈ L → k ∈ [1]) (h : g3 I A L S T) : XE a S T := ⟨g3_sub hI (fun k hk => by have := hA k hk; simp at this; simp [this]) hL h, fun i _ => by rw [h.2.1 1 (fun z => by have := hA 1 z; simp at this)]⟩
theorem ME_g {a : Nat} {I A L : List Nat} {S T : ST} (hI : ∀ k, k ∈ I → k ∈ [4, 5, 6, 7, 13, 14]) (hA : ∀ k, k ∈ A → k ∈ [20]) (hL : ∀ k, k ∈ L → k ∈ ([] : List Nat)) (h : g3 I A L S T) : ME a S T := ⟨g3_sub hI (fun k hk => by have := hA k hk; simp at this; simp [this]) hL h, fun i _ => ⟨by rw [h.2.1 18 (fun z => by have := hA 18 z; simp at this)], by rw [h.2.1 19 (fun z => by have := hA 19 z; simp at this)]⟩⟩
def bdX (a : Nat) (S : ST) : Prop := (∃ a', a ≤ a' ∧ a' ≤ 2400 ∧ S.1 2 = nI a') ∧ ∃ w, w ≤ 32 ∧ S.1 5 = nI w
def bdM (d : Nat) (T : ST) : Prop := (∃ d', d ≤ d' ∧ d' ≤ 2500 ∧ T.1 13 = nI d') ∧ ∃ w, w ≤ 63 ∧ T.1 14 = nI w
theorem bat_t (x y : Int32) : ∃ b, x2_bindsAsTight x y = some (bit b) := by
  unfold x2_bindsAsTight x2_bindsAsTight_j12 x2_bindsAsTight_j17
  repeat' split
  all_goals first | exact ⟨true, rfl⟩ | exact ⟨false, rfl⟩
theorem emT {S : ST} {a a' : Nat} (h1 : a ≤ a') (h2 : a' ≤ 2400) (e : S.1 2 = nI a') (v : Int32) : ∃ S', x7_emit S v = some S' ∧ g3 [2] [1] [] S S' ∧ (∀ i, i < a → S'.2.1 1 i = S.2.1 1 i) ∧ ∃ a'', a ≤ a'' ∧ a'' ≤ 2400 ∧ S'.1 2 = nI a'' := by
  by_cases c : a' < 2400
  · exact ⟨_, emX c e v, g3_tr (g3_A _ _ (by decide)) (g3_I _ _ (by decide)), fun i hi => pk_un (by omega), a' + 1, by omega, by omega, rfl⟩
  · refine ⟨S, ?_, g3_rfl _ _ _ _, fun _ _ => rfl, a', h1, h2, e⟩
    unfold x7_emit
    rw [e, if_neg (nI_pos (by omega)), if_pos (show (2400 : Int32) ≤ nI a' from nI_le (a := 2400) (by omega) (by omega))]
theorem emwT {a : Nat} (y : Int32) (e : Nat) : ∀ w S, w ≤ 32 → S.1 5 = nI w → (∃ a', a ≤ a' ∧ a' ≤ 2400 ∧ S.1 2 = nI a') → ∃ S', x2_emitWaiting_h0 (w + 1 + e) S y = some S' ∧ g3 [2, 5] [1] [] S S' ∧ (∀ i, i < a → S'.2.1 1 i = S.2.1 1 i) ∧ bdX a S' := by
  intro w
  induction w with
  | zero =>
    intro S hw h5 h2
    refine ⟨S, ?_, g3_rfl _ _ _ _, fun _ _ => rfl, h2, 0, by omega, h5⟩
    rw [show 0 + 1 + e = e + 1 by omega, x2_emitWaiting_h0, h5, if_pos (by decide)]
  | succ w ih =>
    intro S hw h5 h2
    obtain ⟨b, hb⟩ := bat_t (S.2.1 12 w) y
    rw [show w + 1 + 1 + e = (w + 1 + e) + 1 by omega, x2_emitWaiting_h0, h5, if_neg (show ¬ nI (w + 1) ≤ 0 from nI_ge (a := 0) (by omega) (by omega)), nI_p, G_in (by omega) (by decide), nI_clamp (by omega), hb, chk]
    cases b
    · rw [if_neg (by decide)]
      exact ⟨S, rfl, g3_rfl _ _ _ _, fun _ _ => rfl, h2, w + 1, hw, h5⟩
    · rw [if_pos rfl]
      obtain ⟨a', q1, q2, q3⟩ := h2
      simp only [show (sI S 5 (nI w)).1 5 = nI w from rfl, nI_clamp (show w < 2 ^ 31 by omega), G_in (show w < 32 by omega) (by decide : 32 < 2 ^ 31)]
      obtain ⟨S1, g1, g2, g3', g4⟩ := emT (S := sI S 5 (nI w)) q1 q2 q3 (20000 + (sI S 5 (nI w)).2.1 12 w)
      rw [g1, calV_s]
      obtain ⟨S2, k1, k2, k3, k4⟩ := ih S1 (by omega) ((g2.1 5 (by decide)).trans rfl) g4
      exact ⟨S2, k1, g3_tr (g3_tr (g3_I _ _ (by decide)) (g3_sub (by decide) (by decide) (by decide) g2)) k2, fun i hi => (k3 i hi).trans (g3' i hi), k4⟩
theorem emw_T {a : Nat} {S : ST} (h : bdX a S) (y : Int32) : ∃ S', x2_emitWaiting S y = some S' ∧ XE a S S' ∧ g3 [2, 5] [1] [] S S' ∧ bdX a S' := by
  obtain ⟨h2, w, hw, h5⟩ := h
  obtain ⟨e, he⟩ := FU_s (w + 1) (by omega)
  obtain ⟨S', g1, g2, g3', g4⟩ := emwT (a := a) y e w S hw h5 h2
  exact ⟨S', by unfold x2_emitWaiting; rw [he]; exact g1, ⟨g3_sub (by decide) (by decide) (by decide) g2, g3'⟩, g2, g4⟩
theorem cmoT {d : Nat} (l1 : Int32) (e : Nat) : ∀ w T, w ≤ 63 → T.1 14 = nI w → (∃ d', d ≤ d' ∧ d' + w ≤ 2600 ∧ T.1 13 = nI d') → ∃ T', m_comesOut_h0 (w + 1 + e) T l1 = some T' ∧ g3 [13, 14] [18, 19] [] T T' ∧ ∀ i, i < d → T'.2.1 18 i = T.2.1 18 i ∧ T'.2.1 19 i = T.2.1 19 i := by
  intro w
  induction w with
  | zero =>
    intro T hw h5 _
    refine ⟨T, ?_, g3_rfl _ _ _ _, fun _ _ => ⟨rfl, rfl⟩⟩
    rw [show 0 + 1 + e = e + 1 by omega, m_comesOut_h0, h5, if_pos (by decide)]
  | succ w ih =>
    intro T hw h5 h2
    rw [show w + 1 + 1 + e = (w + 1 + e) + 1 by omega, m_comesOut_h0, h5, if_neg (show ¬ nI (w + 1) ≤ 0 from nI_ge (a := 0) (by omega) (by omega)), nI_p, G_in (by omega) (by decide), nI_clamp (by omega)]
    have go : ∀ x, ∃ T', m_comesOut_j42 (m_comesOut_h0 (w + 1 + e)) T l1 x = some T' ∧ g3 [13, 14] [18, 19] [] T T' ∧ ∀ i, i < d → T'.2.1 18 i = T.2.1 18 i ∧ T'.2.1 19 i = T.2.1 19 i := by
      intro x
      obtain ⟨d', q1, q2, q3⟩ := h2
      have j84 : ∀ v, ∃ T', m_comesOut_j84 (m_comesOut_h0 (w + 1 + e)) (sI T 14 (nI w)) l1 v = some T' ∧ g3 [13, 14] [18, 19] [] T T' ∧ ∀ i, i < d → T'.2.1 18 i = T.2.1 18 i ∧ T'.2.1 19 i = T.2.1 19 i := fun v => by
        unfold m_comesOut_j84
        rw [emM (T := sI T 14 (nI w)) (d := d') (by omega) q3, calV_s]
        obtain ⟨T', g1, g2, g3'⟩ := ih (sI (sA (sA (sI T 14 (nI w)) 18 (upd (T.2.1 18) d' v)) 19 (upd (T.2.1 19) d' 0)) 13 (nI (d' + 1))) (by omega) rfl ⟨d' + 1, by omega, by omega, rfl⟩
        refine ⟨T', g1, g3_tr (g3_tr (g3_I _ _ (by decide)) (g3_tr (g3_A _ _ (by decide)) (g3_tr (g3_A _ _ (by decide)) (g3_I _ _ (by decide))))) g2, fun i hi => ⟨?_, ?_⟩⟩
        · rw [(g3' i hi).1]; exact pk_un (by omega)
        · rw [(g3' i hi).2]; exact pk_un (by omega)
      unfold m_comesOut_j42
      rw [h5, nI_p]
      dsimp only
      repeat' split
      all_goals exact j84 _
    dsimp only
    repeat' split
    all_goals first | exact go _ | exact ⟨T, rfl, g3_rfl _ _ _ _, fun _ _ => ⟨rfl, rfl⟩⟩
theorem cmo_T {d : Nat} {T : ST} (h : bdM d T) (l1 : Int32) : ∃ T', m_comesOut T l1 = some T' ∧ ME d T T' ∧ g3 [13, 14] [18, 19] [] T T' := by
  obtain ⟨⟨d', h1, h2, h3⟩, w, hw, h5⟩ := h
  obtain ⟨e, he⟩ := FU_s (w + 1) (by omega)
  obtain ⟨T', g1, g2, g3'⟩ := cmoT (d := d) l1 e w T hw h5 ⟨d', h1, by omega, h3⟩
  exact ⟨T', by unfold m_comesOut; rw [he]; exact g1, ⟨g3_sub (by decide) (by decide) (by decide) g2, g3'⟩, g2⟩
def eIV (z : TZ) (a d p0 h : Nat) (S T : ST) (p : Nat) (ws : List Nat) (o : List OP) : Prop := lvX z S p ∧ lvM z T p ∧ S.1 5 = nI ws.length ∧ rlA (S.2.1 12) ws ∧ T.1 14 = nI ws.length ∧ rlA (T.2.1 20) (ws.map kM) ∧ T.1 5 = nI (opens ws) ∧ S.1 2 = nI (a + o.length) ∧ sgN (S.2.1 1) a (o.map xen) ∧ T.1 13 = nI (d + o.length) ∧ sgM (T.2.1 18) (T.2.1 19) d o ∧ wfP o 0 (nops ws + h) ∧ (∃ s, stt ws s) ∧ opens ws ≤ 6 ∧ o.length + nops ws + p0 ≤ p
def DD (a d : Nat) (S T : ST) : Prop := ∃ f q, okD f q ∧ dX f q S ∧ dM f q T ∧ bdX a S ∧ bdM d T
theorem eIV_b {z : TZ} {a d p0 h p : Nat} {S T : ST} {ws : List Nat} {o : List OP} (hz : okZ z) (ha : a ≤ 2000 + p0) (hd : d ≤ 2000 + p0) (hE : eIV z a d p0 h S T p ws o) : ws.length ≤ 20 ∧ a + o.length + nops ws ≤ 2400 ∧ d + o.length + nops ws ≤ 2400 ∧ nops ws ≤ 20 ∧ p ≤ 400 := by
  obtain ⟨h1, -, -, -, -, -, -, -, -, -, -, -, ⟨s, hs⟩, h14, h15⟩ := hE
  have := stt_len hs
  have := lv_4 hz h1
  omega
theorem opn {z : TZ} {a d p0 : Nat} (hz : okZ z) (ha : a ≤ 2000 + p0) (hd : d ≤ 2000 + p0) (K : ST → Int32 → Option ST) (l1 : Int32) (e e' : Nat) : ∀ r ws p S T o, opens ws + r = 6 → eIV z a d p0 0 S T p ws o → ∃ l S' T', x2_parseOpenings_h2 x2_parseOpenings_j38 (r + 1 + e) S (nI (opens ws)) = some (nI l, S') ∧ m_expression_h23 K (r + 2 + e') T l1 = K T' l1 ∧ XE a S S' ∧ ME d T T' ∧ ((∃ p' ws', eIV z a d p0 0 S' T' p' ws' o ∧ l = opens ws' ∧ zK z p' ≠ 35 ∧ p ≤ p') ∨ DD a d S' T') := by
  intro r
  induction r with
  | zero =>
    intro ws p S T o hr hE
    obtain ⟨b1, b2, b3, b4, b5⟩ := eIV_b hz ha hd hE
    obtain ⟨hX, hM, e5, e12, m14, m20, m5, e2, e1, m13, m18, hw, ⟨s, hs⟩, ho, hp⟩ := id hE
    have hP := hz.2.2.2.1 p
    have h38 := hz.2.2.1 p
    have ho6 : opens ws = 6 := by omega
    rw [show 0 + 1 + e = e + 1 by omega, show 0 + 2 + e' = (e' + 1) + 1 by omega, x2_parseOpenings_h2, m_expression_h23, if_pos (show (6 : Int32) ≤ nI (opens ws) from by rw [ho6]; decide), show (6 : Int32) = nI (kM 35) from rfl, is_l hz hM (by decide), chkS]
    unfold x2_parseOpenings_j38
    by_cases c : zK z p = 35
    · rw [if_pos (show S.1 7 = 35 from by rw [hX.2.2.2.1, c]; rfl), ref_y hX.2.2.2.2.2.2, calV_s, decide_eq_true c, if_pos rfl, if_pos (show T.1 5 = nI (kM 35) from by rw [m5, ho6]; rfl), fai_y hz hM, calV_s, hX.2.2.2.2.1]
      have hD : dM 2 (zP z p) (sI (sI (sI T 6 2) 7 (nI (zP z p))) 5 (nI 7)) := ⟨rfl, rfl, p, b5, hM.2.2.1⟩
      have hokd : okD 2 (zP z p) := ⟨by decide, by decide, hP⟩
      unfold m_expression_j46
      rw [show (sI (sI T 6 2) 7 (nI (zP z p))).1 5 + 1 = nI 7 from by show T.1 5 + 1 = _; rw [m5, ho6]; rfl]
      obtain ⟨T2, n1, n2, n3⟩ := nxt_d hokd hD
      dsimp only
      rw [n1, calV_s]
      have e14 : T2.1 14 = nI ws.length := (n2.1 14 (by decide)).trans m14
      rw [e14, G_in (by omega) (by decide), nI_clamp (by omega)]
      have n3' : dM 2 (zP z p) (sI (sA T2 20 (upd (T2.2.1 20) ws.length 6)) 14 (nI (ws.length + 1))) := n3
      rw [show (sA T2 20 (upd (T2.2.1 20) ws.length 6)).1 14 + 1 = nI (ws.length + 1) from by show T2.1 14 + 1 = _; rw [e14, nI_1], m_expression_h23, is_d (dM0 hokd n3'), cal_s, if_pos rfl]
      refine ⟨opens ws, _, _, rfl, rfl, XE_g (by decide) (by decide) (by decide) (g3_tr (g3_I (I := [9, 10]) (A := []) (L := []) _ _ (by decide)) (g3_I _ _ (by decide))), ME_g (I := [4, 5, 6, 7, 14]) (A := [20]) (L := []) (by decide) (by decide) (by decide) (g3_tr (g3_tr (g3_I _ _ (by decide)) (g3_tr (g3_I _ _ (by decide)) (g3_I _ _ (by decide)))) (g3_tr (g3_sub (by decide) (by decide) (by decide) n2) (g3_tr (g3_A _ _ (by decide)) (g3_I _ _ (by decide))))), Or.inr ⟨2, zP z p, hokd, ⟨rfl, rfl⟩, n3', ⟨⟨a + o.length, Nat.le_add_right _ _, by omega, e2⟩, _, by omega, e5⟩, ⟨d + o.length, Nat.le_add_right _ _, by omega, ?_⟩, ws.length + 1, by omega, rfl⟩⟩
      exact (n2.1 13 (by decide)).trans m13
    · rw [if_neg (show ¬ S.1 7 = 35 from by rw [hX.2.2.2.1]; exact fun q => c ((nI_eq (b := 35) (by omega) (by decide)).mp q)), decide_eq_false c, if_neg (by decide)]
      exact ⟨opens ws, S, T, rfl, rfl, XE_rfl _ _, ME_rfl _ _, Or.inl ⟨p, ws, hE, rfl, c, Nat.le_refl _⟩⟩
  | succ r ih =>
    intro ws p S T o hr hE
    obtain ⟨b1, b2, b3, b4, b5⟩ := eIV_b hz ha hd hE
    obtain ⟨hX, hM, e5, e12, m14, m20, m5, e2, e1, m13, m18, hw, ⟨s, hs⟩, ho, hp⟩ := id hE
    have h38 := hz.2.2.1 p
    rw [show r + 1 + 1 + e = (r + 1 + e) + 1 by omega, show r + 1 + 2 + e' = (r + 2 + e') + 1 by omega, x2_parseOpenings_h2, m_expression_h23, if_neg (show ¬ (6 : Int32) ≤ nI (opens ws) from nI_ge (b := 6) (by omega) (by decide)), show (6 : Int32) = nI (kM 35) from rfl, is_l hz hM (by decide), chkS]
    by_cases c : zK z p = 35
    · rw [if_pos (show S.1 7 = 35 from by rw [hX.2.2.2.1, c]; rfl), decide_eq_true c, if_pos rfl, if_neg (show ¬ T.1 5 = nI (kM 35) from by rw [m5]; exact fun q => absurd ((nI_eq (b := 6) (by omega) (by decide)).mp q) (by omega))]
      unfold m_expression_j46
      rw [m5, nI_1]
      have hM' : lvM z (sI T 5 (nI (opens ws + 1))) p := ⟨hM.1, hM.2.1, hM.2.2.1, hM.2.2.2⟩
      obtain ⟨bb, S1, T1, q1, q2, q3, q4, q5⟩ := nxt2 hz hX hM' c (by decide)
      dsimp only
      rw [q2, calV_s, show x2_accept S 35 = _ from q1]
      have e14 : T1.1 14 = nI ws.length := (q4.1 14 (by decide)).trans m14
      rw [e14, G_in (by omega) (by decide), nI_clamp (by omega), show (sA T1 20 (upd (T1.2.1 20) ws.length 6)).1 14 + 1 = nI (ws.length + 1) from by show T1.1 14 + 1 = _; rw [e14, nI_1]]
      have fT : ME d T (sI (sA T1 20 (upd (T1.2.1 20) ws.length 6)) 14 (nI (ws.length + 1))) := ME_g (I := [4, 5, 6, 7, 14]) (A := [20]) (L := []) (by decide) (by decide) (by decide) (g3_tr (g3_I _ _ (by decide)) (g3_tr (g3_sub (by decide) (by decide) (by decide) q4) (g3_tr (g3_A _ _ (by decide)) (g3_I _ _ (by decide)))))
      have fS1 : XE a S S1 := XE_g (by decide) (by decide) (by decide) q3
      have e13 : T1.1 13 = nI (d + o.length) := (q4.1 13 (by decide)).trans m13
      have x5 : S1.1 5 = nI ws.length := (q3.1 5 (by decide)).trans e5
      have x2' : S1.1 2 = nI (a + o.length) := (q3.1 2 (by decide)).trans e2
      rcases q5 with ⟨rfl, l1', l2'⟩ | ⟨rfl, f, q, k1, k2, k3⟩
      · rw [cal_s, if_neg (show ¬ bit true = 0 from by decide), hoX (by omega) x5, calV_s]
        have hE2 : eIV z a d p0 0 (sI (sA S1 12 (upd (S1.2.1 12) ws.length 35)) 5 (nI (ws.length + 1))) (sI (sA T1 20 (upd (T1.2.1 20) ws.length 6)) 14 (nI (ws.length + 1))) (p + 1) (35 :: ws) o := by
          refine ⟨l1', l2', rfl, ⟨pk_us, rlA_u (Nat.le_refl _) ?_⟩, rfl, ⟨?_, rlA_u (by rw [List.length_map]; exact Nat.le_refl _) ?_⟩, ?_, x2', ?_, e13, ?_, ?_, ⟨0, Or.inl ⟨rfl, rfl, s, hs⟩⟩, ?_, ?_⟩
          · rw [q3.2.1 12 (by decide)]; exact e12
          · rw [List.length_map]; exact pk_us
          · rw [q4.2.1 20 (by decide)]; exact m20
          · show T1.1 5 = _; rw [q4.1 5 (by decide)]; simp only [opens, if_true]; rw [Nat.add_comm]; rfl
          · show sgN (S1.2.1 1) _ _; rw [q3.2.1 1 (by decide)]; exact e1
          · show sgM (T1.2.1 18) (T1.2.1 19) _ _; rw [q4.2.1 18 (by decide), q4.2.1 19 (by decide)]; exact m18
          · simp only [nops, if_true]; rw [show 0 + nops ws + 0 = nops ws + 0 by omega]; exact hw
          · simp only [opens, if_true]; omega
          · simp only [nops, if_true]; omega
        obtain ⟨l, S', T', g1, g2, g3', g4, g5⟩ := ih (35 :: ws) (p + 1) _ _ o (by simp only [opens, if_true]; omega) hE2
        refine ⟨l, S', T', ?_, g2, XE_tr fS1 (XE_tr (XE_g (I := [5]) (A := [12]) (L := []) (by decide) (by decide) (by decide) (g3_tr (g3_A _ _ (by decide)) (g3_I _ _ (by decide)))) g3'), ME_tr fT g4, ?_⟩
        · rw [← g1]; simp only [opens, if_true]; rw [Nat.add_comm 1]
        · rcases g5 with ⟨p', ws', k1, k2, k3, k4⟩ | k
          · exact Or.inl ⟨p', ws', k1, k2, k3, by omega⟩
          · exact Or.inr k
      · rw [cal_s, if_pos (show bit false = 0 from rfl)]
        unfold x2_parseOpenings_j38
        have k3' : dM f q (sI (sA T1 20 (upd (T1.2.1 20) ws.length 6)) 14 (nI (ws.length + 1))) := k3
        rw [show r + 2 + e' = (r + 1 + e') + 1 by omega, m_expression_h23, is_d (dM0 k1 k3'), cal_s, if_pos rfl, ref_d (dX0 k1 k2), calV_s, ite_self]
        exact ⟨opens ws, S1, _, rfl, rfl, fS1, fT, Or.inr ⟨f, q, k1, k2, k3', ⟨⟨a + o.length, Nat.le_add_right _ _, by omega, x2'⟩, _, by omega, x5⟩, ⟨d + o.length, Nat.le_add_right _ _, by omega, e13⟩, ws.length + 1, by omega, rfl⟩⟩
    · rw [if_neg (show ¬ S.1 7 = 35 from by rw [hX.2.2.2.1]; exact fun q => c ((nI_eq (b := 35) (by omega) (by decide)).mp q)), decide_eq_false c, if_neg (by decide)]
      unfold x2_parseOpenings_j38
      rw [if_neg (show ¬ S.1 7 = 35 from by rw [hX.2.2.2.1]; exact fun q => c ((nI_eq (b := 35) (by omega) (by decide)).mp q))]
      exact ⟨opens ws, S, T, rfl, rfl, XE_rfl _ _, ME_rfl _ _, Or.inl ⟨p, ws, hE, rfl, c, Nat.le_refl _⟩⟩
