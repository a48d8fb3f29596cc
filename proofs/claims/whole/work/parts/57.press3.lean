def VXw (S : ST) (v : Nat → Int32) : Prop := ∀ i, i < 12 → i ≠ 0 → i ≠ 7 → i ≠ 8 → i ≠ 10 → S.2.1 23 i = v i
def VMw (T : ST) (v : Nat → Int32) : Prop := ∀ i, i < 12 → i ≠ 0 → i ≠ 7 → i ≠ 8 → i ≠ 10 → T.2.1 21 i = v i
theorem setW {S : ST} {v : Nat → Int32} (hv : VXw S v) (dd nx : Int32) : ∃ S', x3_setVariables S dd nx = some S' ∧ fr [] [23] S S' ∧ VX S' (sv v (S.1 12) dd (S.1 14) nx) := by
  refine ⟨_, rfl, fr_tr (fr_A _ _ (by decide)) (fr_tr (fr_A _ _ (by decide)) (fr_tr (fr_A _ _ (by decide)) (fr_A _ _ (by decide)))), lt12 rfl ?_ ?_ ?_ ?_ ?_ ?_ rfl rfl ?_ rfl ?_⟩
  · exact hv 1 (by decide) (by decide) (by decide) (by decide) (by decide)
  · exact hv 2 (by decide) (by decide) (by decide) (by decide) (by decide)
  · exact hv 3 (by decide) (by decide) (by decide) (by decide) (by decide)
  · exact hv 4 (by decide) (by decide) (by decide) (by decide) (by decide)
  · exact hv 5 (by decide) (by decide) (by decide) (by decide) (by decide)
  · exact hv 6 (by decide) (by decide) (by decide) (by decide) (by decide)
  · exact hv 9 (by decide) (by decide) (by decide) (by decide) (by decide)
  · exact hv 11 (by decide) (by decide) (by decide) (by decide) (by decide)
def svS (T : ST) (w dd l nx : Int32) : ST := sA (sA (sA (sA T 21 (upd (T.2.1 21) 0 w)) 21 (upd (upd (T.2.1 21) 0 w) 8 l)) 21 (upd (upd (upd (T.2.1 21) 0 w) 8 l) 7 dd)) 21 (upd (upd (upd (upd (T.2.1 21) 0 w) 8 l) 7 dd) 10 nx)
theorem svS_v {T : ST} {v : Nat → Int32} (hv : VMw T v) (w dd l nx : Int32) : VM (svS T w dd l nx) (sv v w dd l nx) := by
  refine lt12 rfl ?_ ?_ ?_ ?_ ?_ ?_ rfl rfl ?_ rfl ?_
  · exact hv 1 (by decide) (by decide) (by decide) (by decide) (by decide)
  · exact hv 2 (by decide) (by decide) (by decide) (by decide) (by decide)
  · exact hv 3 (by decide) (by decide) (by decide) (by decide) (by decide)
  · exact hv 4 (by decide) (by decide) (by decide) (by decide) (by decide)
  · exact hv 5 (by decide) (by decide) (by decide) (by decide) (by decide)
  · exact hv 6 (by decide) (by decide) (by decide) (by decide) (by decide)
  · exact hv 9 (by decide) (by decide) (by decide) (by decide) (by decide)
  · exact hv 11 (by decide) (by decide) (by decide) (by decide) (by decide)
theorem svS_fr (T : ST) (w dd l nx : Int32) : fr [] [21] T (svS T w dd l nx) := fr_tr (fr_A _ _ (by decide)) (fr_tr (fr_A _ _ (by decide)) (fr_tr (fr_A _ _ (by decide)) (fr_A _ _ (by decide))))
theorem sv_w {v : Nat → Int32} {w dd l nx : Int32} : ∀ i, i < 12 → i ≠ 0 → i ≠ 7 → i ≠ 8 → i ≠ 10 → sv v w dd l nx i = v i := by
  intro i _ h0 h7 h8 h10
  unfold sv
  rw [if_neg h10, if_neg h8, if_neg h7, if_neg h0]
theorem CM_15 {T T' : ST} {b : BK} (h : fr [15] [22] T T') (hc : CM T b) : CM T' b := by
  rcases hc with q | ⟨d, hd, q1, q2⟩
  · exact Or.inl ((h.1 16 (by decide)).trans q)
  · exact Or.inr ⟨d, hd, (h.1 16 (by decide)).trans q1, inM_fr h q2⟩
theorem FD_15 {T T' : ST} {b : BK} {d : Nat} (h : fr [15] [22] T T') (g : FD T b d) : FD T' b d := ⟨(h.1 16 (by decide)).trans g.1, inM_fr h g.2⟩
theorem VM_15 {T T' : ST} {v : Nat → Int32} (h : fr [15] [22] T T') (g : VM T v) : VM T' v := fun i hi => by rw [h.2.1 21 (by decide)]; exact g i hi
theorem VM_16 {T T' : ST} {v : Nat → Int32} (h : fr [16, 17] [23] T T') (g : VM T v) : VM T' v := fun i hi => by rw [h.2.1 21 (by decide)]; exact g i hi
theorem VX_25 {T T' : ST} {v : Nat → Int32} (h : fr [25, 26] [34] T T') (g : VX T v) : VX T' v := fun i hi => by rw [h.2.1 23 (by decide)]; exact g i hi
theorem put_rel {S T : ST} {b : BK} {n m f : Nat} (h : CT S T b n) (hm : m ≤ n) (hfm : f < m) (hl : T.2.1 24 f = 0) : ∃ S' T' r w v, x3_putRight S (nI f) (nI m) = some S' ∧ fr xI xA S S' ∧ (∀ l2 l4, m_prints T (nI f) l2 (nI m) l4 = m_prints_j108 T' (nI f) l2 (nI m) l4) ∧ fr mI mA T T' ∧ CM T' b ∧ PS S' T' w 0 v ∧ S'.1 13 = s2 (T'.1 21) ∧ S'.1 18 = s2 r ∧ m_whoIn T (T.2.1 28 f) (T.2.1 25 f) (nI m) = some (r, T) := by
  obtain ⟨hb, hX, hM, hC, hn, hf⟩ := h
  obtain ⟨-, ⟨d, hd, ed⟩, -, -, -, -, hw0, -⟩ := (hf f (by omega)).2.1 hl
  obtain ⟨r, w1, w2, w3⟩ := who_rel hn hm hf (T.2.1 28 f) (T.2.1 25 f)
  obtain ⟨S1, s1, s2', s3, s4, s5, s6⟩ := put_x hn hm hfm hf hl w1 w3
  obtain ⟨T1, t1, t2, t3⟩ := fil_m (show m ≤ 180 by omega) hfm w2
  have fT2 : fr mI mA T (sI (sI T1 19 (T.2.1 29 f)) 20 0) := fr_tr (fr_sub (by decide) (by decide) t2) (fr_tr (fr_I _ _ (by decide)) (fr_I _ _ (by decide)))
  have cT2 : CM (sI (sI T1 19 (T.2.1 29 f)) 20 0) b := by
    rcases hC with q | ⟨d, hd, q1, q2, q3⟩
    · exact Or.inl ((t2.1 16 (by decide)).trans q)
    · exact Or.inr ⟨d, hd, (t2.1 16 (by decide)).trans q1, (t2.1 17 (by decide)).trans q2, fun i hi => by rw [show (sI (sI T1 19 (T.2.1 29 f)) 20 0).2.1 23 = T1.2.1 23 from rfl, t2.2.1 23 (by decide)]; exact q3 i hi⟩
  obtain ⟨T3, f1, f2, f3⟩ := frc hb (BM_k (p2_x fT2) hM) cT2 hd
  have vT3 : VM T3 (v0 T f m r) := VM_16 f2 t3
  obtain ⟨T4, k1, k2⟩ := fst_M hb (BM_k (p2_x (fr_tr fT2 (fr_sub (by decide) (by decide) f2))) hM) f3.2 (s := 0) (by decide) vT3
  obtain ⟨S2, x1, x2⟩ := fst_X hb (BX_k (pX_x s2') hX) hd (s := 0) (by decide) s6
  have fT4 : fr mI mA T T4 := fr_tr fT2 (fr_tr (fr_sub (by decide) (by decide) f2) (fr_sub (by decide) (by decide) k1))
  have fS2 : fr xI xA S S2 := fr_tr s2' (fr_sub (by decide) (by decide) x1)
  have hFD := FD_15 k1 f3
  have h19 : T4.1 19 = T.2.1 29 f := by rw [k1.1 19 (by decide), f2.1 19 (by decide)]; rfl
  have h20 : T4.1 20 = 0 := by rw [k1.1 20 (by decide), f2.1 20 (by decide)]; rfl
  have y12 : S2.1 12 = T.2.1 29 f := by rw [x1.1 12 (by decide)]; exact s3
  have y14 : S2.1 14 = 0 := by rw [x1.1 14 (by decide)]; exact s4
  have y18 : S2.1 18 = s2 r := by rw [x1.1 18 (by decide)]; exact s5
  have pre : ∀ l2 l4, m_prints T (nI f) l2 (nI m) l4 = (let S37 := sI T4 21 (if fdx (v0 T f m r) b 0 (AL b (d + 1)) < (AL b (d + 1)).1 then nI (fdx (v0 T f m r) b 0 (AL b (d + 1))) else -1)
    if (S37.1 21) = (-1) then (m_prints_j108 S37 (nI f) l2 (nI m) l4) else (G (inb (S37.1 21) 144) <|
    let v57 := (S37.2.1 23 (Int32.toNatClampNeg (S37.1 21)))
    G (inb v57 168) <|
    G (inb v57 168) <|
    cal (m_termOf S37 ((S37.2.1 8 (Int32.toNatClampNeg v57))) ((S37.2.1 9 (Int32.toNatClampNeg v57)))) fun r74 S74 =>
    if 0 ≤ r74 then (if r74 ≤ 999 then (m_prints_j105 S74 (nI f) l2 (nI m) l4 r74) else (m_prints_j105 S74 (nI f) l2 (nI m) l4 999)) else (m_prints_j105 S74 (nI f) l2 (nI m) l4 0))) := fun l2 l4 => by
    unfold m_prints
    rw [t1, calV_s, G_in (show f < 180 by omega) (by decide), nI_clamp (by omega)]
    simp only [t2.2.1 29 (by decide), G_in (show f < 180 by omega) (by decide : 180 < 2 ^ 31)]
    have e25 : (sI (sI T1 19 (T.2.1 29 f)) 20 0).2.1 25 f = nI d := by rw [fT2.2.1 25 (by decide)]; exact ed
    rw [e25, f1, calV_s, show m_first T3 0 = _ from k2, cal_s]
  have hx : x3_putRight S (nI f) (nI m) = (let S214 := sI S2 13 (if fdx (v0 T f m r) b 0 (AL b (d + 1)) < (AL b (d + 1)).1 then nI (fdx (v0 T f m r) b 0 (AL b (d + 1))) else -2)
    if (S214.1 13) = (-2) then (some S214) else (cal (x7_valueOf S214 (nI d) ((S214.1 13))) fun r239 S239 =>
    let S257 := sI S239 12 (if 0 < (if r239 < 999 then r239 else 999) then (if r239 < 999 then r239 else 999) else 0)
    some S257)) := by
    rw [s1]
    unfold puK
    rw [ed, show x7_firstThatHolds S1 0 (nI d) = _ from x2, cal_s]
  have vS2 : VX S2 (v0 T f m r) := VX_25 x1 s6
  have vT4 : VM T4 (v0 T f m r) := VM_15 k1 vT3
  have h144 := AL_le hb (d + 1)
  generalize hp : fdx (v0 T f m r) b 0 (AL b (d + 1)) = p at pre hx k2 x2
  by_cases c : p < (AL b (d + 1)).1
  · simp only [if_pos c] at pre hx
    have hy := fnd_yes (fun i => decide (bkS b ((AL b (d + 1)).2 i) = 0) && cnd (v0 T f m r) (bkL b ((AL b (d + 1)).2 i))) (AL b (d + 1)).1 0 (by unfold fdx at hp; rw [hp]; omega)
    rw [show fnd (fun i => decide (bkS b ((AL b (d + 1)).2 i) = 0) && cnd (v0 T f m r) (bkL b ((AL b (d + 1)).2 i))) (AL b (d + 1)).1 0 = p from hp, Bool.and_eq_true] at hy
    have h0 := of_decide_eq_true hy.1
    have u := (AL_ok hb (d + 1)).1.1 p c
    have hu := used_lt hb u
    have fT5 : fr mI mA T (sI T4 21 (nI p)) := fr_tr fT4 (fr_I _ _ (by decide))
    have fS5 : fr xI xA S (sI S2 13 (nI p)) := fr_tr fS2 (fr_I _ _ (by decide))
    obtain ⟨S3, z1, z2⟩ := val_X (v := v0 T f m r) hb (BX_k (pX_x fS5) hX) hd c h0 vS2
    obtain ⟨T6, q1, q2⟩ := val_M (v := v0 T f m r) hb (BM_k (p2_x fT5) hM) u h0 vT4
    obtain ⟨cl1, cl2⟩ := clampW (evV (v0 T f m r) (bkV b ((AL b (d + 1)).2 p)))
    refine ⟨sI S3 12 (if 0 ≤ evV (v0 T f m r) (bkV b ((AL b (d + 1)).2 p)) then (if evV (v0 T f m r) (bkV b ((AL b (d + 1)).2 p)) ≤ 999 then evV (v0 T f m r) (bkV b ((AL b (d + 1)).2 p)) else 999) else 0), sI T6 19 (if 0 ≤ evV (v0 T f m r) (bkV b ((AL b (d + 1)).2 p)) then (if evV (v0 T f m r) (bkV b ((AL b (d + 1)).2 p)) ≤ 999 then evV (v0 T f m r) (bkV b ((AL b (d + 1)).2 p)) else 999) else 0), r, _, v0 T f m r, ?_, fr_tr fS5 (fr_tr (fr_sub (by decide) (by decide) z1) (fr_I _ _ (by decide))), fun l2 l4 => ?_, fr_tr fT5 (fr_tr (fr_sub (by decide) (by decide) q1) (fr_I _ _ (by decide))), ?_, ⟨rfl, rfl, ?_, ?_, ?_, ?_, cl2⟩, ?_, ?_, w2⟩
    · rw [hx]
      simp only [show (sI S2 13 (nI p)).1 13 = nI p from rfl]
      rw [if_neg (show ¬ nI p = -2 from fun q => absurd (nI_pos (show p < 2 ^ 31 by omega)) (by rw [q]; decide)), z2, cal_s, cl1]
    · rw [pre l2 l4]
      simp only [show (sI T4 21 (nI p)).1 21 = nI p from rfl]
      have e23 : (sI T4 21 (nI p)).2.1 23 p = nI ((AL b (d + 1)).2 p) := hFD.2.2 p c
      rw [if_neg (nI_m1 (by omega)), G_in (by omega) (by decide), nI_clamp (by omega)]
      simp only [e23, G_in (show (AL b (d + 1)).2 p < 168 by omega) (by decide : 168 < 2 ^ 31), nI_clamp (show (AL b (d + 1)).2 p < 2 ^ 31 by omega), q2, cal_s]
      unfold m_prints_j105
      by_cases a1 : 0 ≤ evV (v0 T f m r) (bkV b ((AL b (d + 1)).2 p))
      · by_cases a2 : evV (v0 T f m r) (bkV b ((AL b (d + 1)).2 p)) ≤ 999
        · simp only [a1, a2, if_true]
        · simp only [a1, a2, if_true, if_false]
      · simp only [a1, if_false]
    · exact Or.inr ⟨d, hd, (q1.1 16 (by decide)).trans hFD.1, (q1.1 17 (by decide)).trans hFD.2.1, fun i hi => by rw [show (sI T6 19 _).2.1 23 = T6.2.1 23 from rfl, q1.2.1 23 (by decide)]; exact hFD.2.2 i hi⟩
    · show S3.1 14 = 0; rw [z1.1 14 (by decide)]; exact y14
    · show T6.1 20 = 0; rw [q1.1 20 (by decide)]; exact h20
    · exact fun i hi => by rw [show (sI S3 12 _).2.1 23 = S3.2.1 23 from rfl, z1.2.1 23 (by decide)]; exact vS2 i hi
    · exact fun i hi => by rw [show (sI T6 19 _).2.1 21 = T6.2.1 21 from rfl, q1.2.1 21 (by decide)]; exact vT4 i hi
    · show S3.1 13 = s2 (T6.1 21)
      rw [z1.1 13 (by decide), q1.1 21 (by decide)]
      show nI p = s2 (nI p)
      unfold s2; rw [if_neg (nI_m1 (by omega))]
    · show S3.1 18 = _; rw [z1.1 18 (by decide)]; exact y18
  · simp only [if_neg c] at pre hx
    refine ⟨sI S2 13 (-2), sI T4 21 (-1), r, T.2.1 29 f, v0 T f m r, ?_, fr_tr fS2 (fr_I _ _ (by decide)), fun l2 l4 => ?_, fr_tr fT4 (fr_I _ _ (by decide)), FD_CM hd hFD, ⟨y12, h19, y14, h20, vS2, vT4, hw0⟩, rfl, y18, w2⟩
    · rw [hx]; rfl
    · rw [pre l2 l4]; rfl
