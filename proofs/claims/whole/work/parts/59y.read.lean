theorem factR_z {Sx Sm S T : ST} {f : Nat} (hx : ∀ k, k ∈ [13, 14, 15, 16, 17, 18, 19, 20, 21, 22] → S.2.1 k = Sx.2.1 k) (hm : ∀ k, k ∈ [24, 25, 26, 27, 28, 29, 30, 31] → T.2.1 k = Sm.2.1 k) (h : factR Sx Sm f) : factR S T f := by
  unfold factR lineOf at h ⊢
  rw [hx 13 (by decide), hx 14 (by decide), hx 15 (by decide), hx 16 (by decide), hx 17 (by decide), hx 18 (by decide), hx 19 (by decide), hx 20 (by decide), hx 21 (by decide), hx 22 (by decide), hm 24 (by decide), hm 25 (by decide), hm 26 (by decide), hm 27 (by decide), hm 28 (by decide), hm 29 (by decide), hm 30 (by decide), hm 31 (by decide)]
  exact h
theorem cpy22 {Sm : ST} {t : Nat} (ht : t ≤ 2000) (K : ST → Option (Int32 × ST)) (e : Nat) : ∀ j i, i + j = t → ∀ T, T.1 2 = nI t → T.2.1 0 = Sm.2.1 0 → (∀ x, x < i → T.2.1 1 x = vp_nar .byte (Sm.2.1 0 x)) → ∃ T', m_read_h22 K (j + 1 + e) T (nI i) = K T' ∧ g3 [] [1] [] T T' ∧ ∀ x, x < t → T'.2.1 1 x = vp_nar .byte (Sm.2.1 0 x) := by
  intro j
  induction j with
  | zero =>
    intro i h T h2 h0 h1
    refine ⟨T, ?_, g3_rfl _ _ _ _, fun x hx => h1 x (by omega)⟩
    rw [show 0 + 1 + e = e + 1 by omega, m_read_h22, h2, if_pos (nI_le (by omega) (by omega))]
  | succ j ih =>
    intro i h T h2 h0 h1
    obtain ⟨T', g1, g2, g3'⟩ := ih (i + 1) (by omega) (sA T 1 (upd (T.2.1 1) i (vp_nar .byte (Sm.2.1 0 i)))) h2 h0 (fun x hx => by
      show upd (T.2.1 1) i _ x = _
      by_cases c : x = i
      · rw [c, pk_us]
      · rw [pk_un c]; exact h1 x (by omega))
    refine ⟨T', ?_, g3_tr (g3_A _ _ (by decide)) g2, g3'⟩
    rw [← g1, show j + 1 + 1 + e = (j + 1 + e) + 1 by omega, m_read_h22, h2, if_neg (nI_ge (by omega) (by omega)), G_in (by omega) (by decide), G_in (by omega) (by decide), nI_clamp (by omega), h0, nI_1]
theorem BX3_fr {S S' : ST} {b : BK} {ce : Nat → Nat} (h : fr [] [10, 11] S S') (g : BX3 S b ce) : BX3 S' b ce := by
  refine ⟨(h.1 4 (by decide)).trans g.1, fun k hk => ?_, g.2.2.1, g.2.2.2.1, fun k hk i hi => ?_⟩
  · rw [h.2.1 8 (by decide), h.2.1 9 (by decide)]; exact g.2.1 k hk
  · unfold rX1
    rw [h.2.1 1 (by decide), h.2.1 2 (by decide), h.2.1 3 (by decide), h.2.1 4 (by decide), h.2.1 5 (by decide), h.2.1 6 (by decide), h.2.1 7 (by decide), h.2.2]
    exact g.2.2.2.2 k hk i hi
noncomputable def xhd (S31 : ST) : Option (Int32 × ST) := if (S31.1 7) = 0 then (cal (x2_accept S31 0) fun r43 S43 =>
  if r43 = 0 then (x2_parse_j74 S43 0 ((-1))) else (let v54 := (Int64.toInt32 (S43.2.2 1 0))
  let v59 := (S43.1 8)
  cal (x2_accept S43 25) fun r63 S63 =>
  cal (x2_accept S63 26) fun r70 S70 =>
  x2_parse_j74 S70 v54 v59)) else (x2_parse_j74 S31 0 ((-1)))
noncomputable def mhd (S118 : ST) : Option (Int32 × ST) := cal (m_is S118 20) fun r124 S124 =>
  if r124 = 0 then (m_read_h200 (m_read_j222) FU S124) else (calV (m_next S124) fun S131 =>
  let v138 := (S131.1 4)
  cal (m_is S131 2) fun r141 S141 =>
  if r141 = 0 then (m_read_j160 S141 v138 0) else (G (inb (S141.1 4) 403) <|
  m_read_j160 S141 v138 ((S141.2.1 4 (Int32.toNatClampNeg (S141.1 4))))))
theorem hdr {z : TZ} {N : Nat} {S T : ST} (hz : okZ z) (hN : N ≤ 5) (hX : lvX z S 0) (hM : lvM z T 0) (m11 : T.1 11 = nI N) (m8 : T.1 8 = 0) (m5 : T.2.1 5 N = nI 0) : ∃ S' T' l2 l3, xhd S = x2_parse_j74 S' l2 l3 ∧ mhd T = m_read_h200 m_read_j222 FU T' ∧ g3 [6, 7, 8, 9, 10] [] [1] S S' ∧ g3 [4, 6, 7, 8, 9] [5] [] T T' ∧ (∀ k, k ≠ N → T'.2.1 5 k = T.2.1 5 k) ∧ ((∃ p v, p ≤ 400 ∧ lvX z S' p ∧ lvM z T' p ∧ l2 = nI v ∧ v < 10000 ∧ T'.2.1 5 N = nI v ∧ ((v < 100 ∧ T'.1 8 = 0) ∨ (100 ≤ v ∧ T'.1 8 = nI 5 ∧ ∃ pl, pl ≤ 2000 ∧ l3 = nI pl ∧ T'.1 9 = nI pl))) ∨ ∃ f q, okD f q ∧ dX f q S' ∧ dM f q T') := by
  have h38 := hz.2.2.1 0
  unfold xhd mhd
  rw [show (20 : Int32) = nI (kM 0) from rfl, is_l hz hM (by decide), chkS, hX.2.2.2.1]
  by_cases c0 : zK z 0 = 0
  · rw [decide_eq_true c0, if_pos rfl, if_pos (show nI (zK z 0) = 0 from by rw [c0]; rfl)]
    obtain ⟨a1, a2⟩ := acc_y hz hX c0 (by decide) (by decide)
    obtain ⟨b1, b2⟩ := nxt_y hz hM (by omega) (by decide)
    rw [show x2_accept S 0 = _ from a1, cal_s, if_neg (show ¬ (1 : Int32) = 0 from by decide), b1, calV_s]
    dsimp only
    rw [show (2 : Int32) = nI (kM 25) from rfl, is_l hz b2 (by decide), cal_s]
    have fS1 : g3 [6, 7, 8, 9, 10] [] [1] S (mvX S 1) := g3_sub (by decide) (by decide) (by decide) (mvX_g S 1)
    have fT1 : g3 [4, 6, 7, 8, 9] [5] [] T (sI T 4 (nI 1)) := g3_I _ _ (by decide)
    have hP1 := hz.2.2.2.1 1
    obtain ⟨bb, S2, T2, q1, q2, q3, q4, q5⟩ := acc2 hz a2 b2 (k := 25) (by decide)
    have j160 : ∀ l1 s0, m_read_j160 (sI T 4 (nI 1)) l1 s0 = (if (T2.1 6) = 0 then (if s0 < 100 then (m_read_j185 T2 s0) else (calV (m_wrong T2 5 l1) fun S182 => m_read_j185 S182 s0)) else (m_read_j185 T2 s0)) := fun l1 s0 => by
      unfold m_read_j160
      rw [show m_must (sI T 4 (nI 1)) 2 = _ from q2, calV_s]
    rw [show x2_accept (mvX S 1) 25 = _ from q1, cal_s, show (sI T 4 (nI 1)).1 4 = nI 1 from rfl, G_in (by decide) (by decide), nI_clamp (by decide), j160, j160]
    have fS2 : g3 [6, 7, 8, 9, 10] [] [1] S S2 := g3_tr fS1 q3
    have fT2 : g3 [4, 6, 7, 8, 9] [5] [] T T2 := g3_tr fT1 (g3_sub (by decide) (by decide) (by decide) q4)
    have t11 : T2.1 11 = nI N := by rw [q4.1 11 (by decide)]; exact m11
    have t8 : T2.1 8 = 0 := by rw [q4.1 8 (by decide)]; exact m8
    rcases q5 with ⟨rfl, k25, hX2, hM2⟩ | ⟨rfl, f, q, k1, k2, k3⟩
    · have hv := hz.2.2.2.2.1 1 k25
      have hL : (mvX S 1).2.2 1 0 = lN (zV z 1) := by rw [a2.2.2.2.2.2.1]; exact (a2.1.2 1 a2.2.1).2.2.1 k25
      have hA : (sI T 4 (nI 1)).2.1 4 1 = nI (zV z 1) := (b2.1 1 b2.2.1).2.2.1 k25
      have h8 : (mvX S 1).1 8 = nI (zP z 1) := a2.2.2.2.2.1
      rw [hL, lN_i, hA, h8, k25, decide_eq_true rfl, if_neg (show ¬ bit true = 0 from by decide), if_pos hM2.2.2.2]
      obtain ⟨b3, S3, T3, r1, r2, r3, r4, r5⟩ := acc2 hz hX2 (show lvM z (sA T2 5 (upd (T2.2.1 5) N (nI (zV z 1)))) 2 from lvM_g hM2 (I := []) (A := [5]) (L := []) (g3_A _ _ (by decide)) (by decide) (by decide) (by decide) (by decide) (by decide) (by decide)) (k := 26) (by decide)
      rw [show x2_accept S2 26 = _ from r1, cal_s]
      have fS3 := g3_tr fS2 r3
      by_cases c100 : zV z 1 < 100
      · rw [if_pos (show nI (zV z 1) < 100 from nI_lt (b := 100) c100 (by decide))]
        unfold m_read_j185
        rw [t11, G_in (by omega) (by decide), nI_clamp (by omega)]
        dsimp only
        rw [show m_must (sA T2 5 (upd (T2.2.1 5) N (nI (zV z 1)))) 4 = _ from r2, calV_s]
        have fT3 : g3 [4, 6, 7, 8, 9] [5] [] T T3 := g3_tr fT2 (g3_tr (g3_A _ _ (by decide)) (g3_sub (by decide) (by decide) (by decide) r4))
        refine ⟨S3, T3, _, _, rfl, rfl, fS3, fT3, fun k hk => ?_, ?_⟩
        · rw [r4.2.1 5 (by decide)]; show upd (T2.2.1 5) N _ k = _; rw [pk_un hk, q4.2.1 5 (by decide)]; rfl
        · rcases r5 with ⟨-, -, w1, w2⟩ | ⟨-, w⟩
          · refine Or.inl ⟨3, zV z 1, by decide, w1, w2, rfl, hv, ?_, Or.inl ⟨c100, ?_⟩⟩
            · rw [r4.2.1 5 (by decide)]; exact pk_us
            · rw [r4.1 8 (by decide)]; exact t8
          · exact Or.inr w
      · rw [if_neg (show ¬ nI (zV z 1) < 100 from nI_nlt (b := 100) (by omega) (by omega))]
        have hwr : m_wrong T2 5 (nI 1) = some (sI (sI T2 8 5) 9 (nI (zP z 1))) := by
          unfold m_wrong
          rw [G_in (by decide) (by decide), nI_clamp (by decide)]
          dsimp only
          rw [if_neg (show ¬ 0 < T2.1 6 from by rw [hM2.2.2.2]; decide), if_pos t8, show T2.2.1 3 1 = nI (zP z 1) from (hM2.1 1 (by have := hM2.2.1; omega)).2.1]
        rw [hwr, calV_s]
        obtain ⟨b4, S4, T4, s1, s2, s3, s4, s5⟩ := acc2 hz hX2 (show lvM z (sA (sI (sI T2 8 5) 9 (nI (zP z 1))) 5 (upd (T2.2.1 5) N (nI (zV z 1)))) 2 from lvM_g hM2 (I := [8, 9]) (A := [5]) (L := []) (g3_tr (g3_I _ _ (by decide)) (g3_tr (g3_I _ _ (by decide)) (g3_A _ _ (by decide)))) (by decide) (by decide) (by decide) (by decide) (by decide) (by decide)) (k := 26) (by decide)
        have hsr : S4 = S3 := (Prod.mk.inj (Option.some.inj (r1.symm.trans s1))).2.symm
        subst hsr
        unfold m_read_j185
        rw [show (sI (sI T2 8 5) 9 (nI (zP z 1))).1 11 = nI N from t11, G_in (by omega) (by decide), nI_clamp (by omega)]
        dsimp only
        rw [show m_must (sA (sI (sI T2 8 5) 9 (nI (zP z 1))) 5 (upd ((sI (sI T2 8 5) 9 (nI (zP z 1))).2.1 5) N (nI (zV z 1)))) 4 = _ from s2, calV_s]
        have fT4 : g3 [4, 6, 7, 8, 9] [5] [] T T4 := g3_tr fT2 (g3_tr (g3_tr (g3_I _ _ (by decide)) (g3_tr (g3_I _ _ (by decide)) (g3_A _ _ (by decide)))) (g3_sub (by decide) (by decide) (by decide) s4))
        refine ⟨S4, T4, _, _, rfl, rfl, fS3, fT4, fun k hk => ?_, ?_⟩
        · rw [s4.2.1 5 (by decide)]; show upd (T2.2.1 5) N _ k = _; rw [pk_un hk, q4.2.1 5 (by decide)]; rfl
        · rcases s5 with ⟨-, -, w1, w2⟩ | ⟨-, w⟩
          · refine Or.inl ⟨3, zV z 1, by decide, w1, w2, rfl, hv, ?_, Or.inr ⟨by omega, ?_, zP z 1, hP1, rfl, ?_⟩⟩
            · rw [s4.2.1 5 (by decide)]; exact pk_us
            · rw [s4.1 8 (by decide)]; rfl
            · rw [s4.1 9 (by decide)]; rfl
          · exact Or.inr w
    · have fin : ∀ s0, ∃ T', m_read_j185 T2 s0 = m_read_h200 m_read_j222 FU T' ∧ g3 [4, 6, 7, 8, 9] [5] [] T T' ∧ (∀ k, k ≠ N → T'.2.1 5 k = T.2.1 5 k) ∧ dM f q T' := fun s0 => by
        unfold m_read_j185
        rw [t11, G_in (by omega) (by decide), nI_clamp (by omega)]
        dsimp only
        have k3' : dM f q (sA T2 5 (upd (T2.2.1 5) N s0)) := k3
        rw [mus_d k1 k3', calV_s]
        exact ⟨_, rfl, g3_tr fT2 (g3_A _ _ (by decide)), fun k hk => by show upd (T2.2.1 5) N _ k = _; rw [pk_un hk, q4.2.1 5 (by decide)]; rfl, k3'⟩
      rw [if_neg (dM0 k1 k3), if_neg (dM0 k1 k3), acc_d (dX0 k1 k2), cal_s]
      by_cases w : bit (decide (zK z 1 = 25)) = 0
      · rw [if_pos w]
        obtain ⟨T', g1, g2, g3', g4⟩ := fin 0
        rw [g1]
        exact ⟨S2, T', _, _, rfl, rfl, fS2, g2, g3', Or.inr ⟨f, q, k1, k2, g4⟩⟩
      · rw [if_neg w]
        obtain ⟨T', g1, g2, g3', g4⟩ := fin ((sI T 4 (nI 1)).2.1 4 1)
        rw [g1]
        exact ⟨S2, T', _, _, rfl, rfl, fS2, g2, g3', Or.inr ⟨f, q, k1, k2, g4⟩⟩
  · rw [decide_eq_false c0, if_neg (show ¬ (false = true) from by decide), if_neg (show ¬ nI (zK z 0) = 0 from fun w => c0 ((nI_eq (b := 0) (by omega) (by decide)).mp w))]
    exact ⟨S, T, 0, -1, rfl, rfl, g3_rfl _ _ _ _, g3_rfl _ _ _ _, fun _ _ => rfl, Or.inl ⟨0, 0, by decide, hX, hM, rfl, by decide, m5, Or.inl ⟨by decide, m8⟩⟩⟩
