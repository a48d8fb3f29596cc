theorem fate_rel {S T : ST} {b : BK} {n m k : Nat} (h : CT S T b n) (hm : m ≤ n) (hk : k < m) (hl : T.2.1 24 k = 4) {w l : Int32} {v : Nat → Int32} (e1 : S.1 12 = w) (e2 : T.1 19 = w) (e3 : S.1 14 = l) (e4 : T.1 20 = l) (hv : VXw S v) (hvm : VMw T v) : ∃ r S' T', x3_fate S (nI k) (nI m) = some (r, S') ∧ m_fateOf T (nI k) (nI m) = some (r, T') ∧ fr [17, 25, 26] [23, 34] S S' ∧ fr [15, 16, 17] [21, 22, 23] T T' ∧ CM T' b ∧ VXw S' v ∧ VMw T' v ∧ (r = 4 → ∃ p T'', S'.1 17 = nI p ∧ m_first T' 2 = some (nI p, T'') ∧ fr [15] [22] T' T'') ∧ (r = 0 ∨ r = 1 ∨ r = 2 ∨ r = 3 ∨ r = 4) := by
  obtain ⟨hb, hX, hM, hC, hn, hf⟩ := h
  obtain ⟨q1, ⟨g, hg, eg, lg⟩, q3, ⟨dk, hdk, edk⟩, q5, -⟩ := (hf k (by omega)).2.2.2.2.2.1 hl
  obtain ⟨g1, ⟨dg, hdg, edg⟩, -⟩ := (hf g (by omega)).2.1 lg
  unfold x3_fate m_fateOf
  simp only [G_in (show k < 180 by omega) (by decide : 180 < 2 ^ 31), nI_clamp (show k < 2 ^ 31 by omega), q1, eg, q3, edk, G_in (show g < 180 by omega) (by decide : 180 < 2 ^ 31), nI_clamp (show g < 2 ^ 31 by omega), g1, edg, sx_eq hn hm (show g < m by omega) hf, sm_eq (show m ≤ 180 by omega) (show g < m by omega)]
  by_cases c1 : dg ≤ dk
  · rw [if_pos (nI_le c1 (by omega)), if_pos (nI_le c1 (by omega)), chkS, chkS]
    cases anyF (stP T g (nI dk)) (m - (g + 1)) (g + 1)
    · simp only [Bool.false_eq_true, if_false]
      obtain ⟨S1, s1, s2, s3⟩ := setW hv (nI dk - nI dg) (T.2.1 27 k)
      rw [e1, e3] at s3
      have e17 : S.2.1 17 k = T.2.1 27 k := q5
      rw [g1, edg, e17, s1, calV_s]
      have t1 : svS T w (nI dk - nI dg) l (T.2.1 27 k) = sA (sA (sA (sA T 21 (upd (T.2.1 21) (Int32.toNatClampNeg 0) (T.1 19))) 21 (upd ((sA T 21 (upd (T.2.1 21) (Int32.toNatClampNeg 0) (T.1 19))).2.1 21) (Int32.toNatClampNeg 8) (T.1 20))) 21 (upd ((sA (sA T 21 (upd (T.2.1 21) (Int32.toNatClampNeg 0) (T.1 19))) 21 (upd ((sA T 21 (upd (T.2.1 21) (Int32.toNatClampNeg 0) (T.1 19))).2.1 21) (Int32.toNatClampNeg 8) (T.1 20))).2.1 21) (Int32.toNatClampNeg 7) (nI dk - nI dg))) 21 (upd ((sA (sA (sA T 21 (upd (T.2.1 21) (Int32.toNatClampNeg 0) (T.1 19))) 21 (upd ((sA T 21 (upd (T.2.1 21) (Int32.toNatClampNeg 0) (T.1 19))).2.1 21) (Int32.toNatClampNeg 8) (T.1 20))) 21 (upd ((sA (sA T 21 (upd (T.2.1 21) (Int32.toNatClampNeg 0) (T.1 19))) 21 (upd ((sA T 21 (upd (T.2.1 21) (Int32.toNatClampNeg 0) (T.1 19))).2.1 21) (Int32.toNatClampNeg 8) (T.1 20))).2.1 21) (Int32.toNatClampNeg 7) (nI dk - nI dg))).2.1 21) (Int32.toNatClampNeg 10) (T.2.1 27 k)) := by rw [e2, e4]; rfl
      have fS1 : fr [17, 25, 26] [23, 34] S S1 := fr_sub (by decide) (by decide) s2
      have fT1 : fr [15, 16, 17] [21, 22, 23] T (svS T w (nI dk - nI dg) l (T.2.1 27 k)) := fr_sub (by decide) (by decide) (svS_fr T w (nI dk - nI dg) l (T.2.1 27 k))
      have vT1 := svS_v hvm w (nI dk - nI dg) l (T.2.1 27 k)
      have cT1 : CM (svS T w (nI dk - nI dg) l (T.2.1 27 k)) b := hC
      have pT : ∀ {U : ST}, fr [15, 16, 17] [21, 22, 23] T U → BM U b := fun hU => BM_k (p2_fr (by decide) (by decide) hU) hM
      have pS : ∀ {U : ST}, fr [17, 25, 26] [23, 34] S U → BX U b := fun hU => BX_k (pX_fr (by decide) (by decide) hU) hX
      obtain ⟨T2, f1, f2, f3⟩ := frc hb (pT fT1) cT1 hdk
      have fT2 := fr_tr fT1 (fr_sub (I' := [15, 16, 17]) (A' := [21, 22, 23]) (by decide) (by decide) f2)
      obtain ⟨T3, k1, k2⟩ := fst_M hb (pT fT2) f3.2 (s := 1) (by decide) (VM_16 f2 vT1)
      have fT3 := fr_tr fT2 (fr_sub (I' := [15, 16, 17]) (A' := [21, 22, 23]) (by decide) (by decide) k1)
      obtain ⟨S2, x1, x2⟩ := fst_X hb (pS fS1) hdk (s := 1) (by decide) s3
      have fS2 := fr_tr fS1 (fr_sub (I' := [17, 25, 26]) (A' := [23, 34]) (by decide) (by decide) x1)
      have vS2 := VX_25 x1 s3
      have vT3 := VM_15 k1 (VM_16 f2 vT1)
      have wS : ∀ {U : ST}, VX U (sv v w (nI dk - nI dg) l (T.2.1 27 k)) → VXw U v := fun hU i hi a1 a2 a3 a4 => (hU i hi).trans (sv_w i hi a1 a2 a3 a4)
      have wT : ∀ {U : ST}, VM U (sv v w (nI dk - nI dg) l (T.2.1 27 k)) → VMw U v := fun hU i hi a1 a2 a3 a4 => (hU i hi).trans (sv_w i hi a1 a2 a3 a4)
      have e25 : ∀ (a c d e : Nat → Int32), (sA (sA (sA (sA T 21 a) 21 c) 21 d) 21 e).2.1 25 k = nI dk := fun _ _ _ _ => edk
      have e25b : ∀ (a c : Nat → Int32), (sA (sA T 21 a) 21 c).2.1 25 k = nI dk := fun _ _ => edk
      have e25c : ∀ (a c : Nat → Int32), (sA (sA T 21 a) 21 c).2.1 25 g = nI dg := fun _ _ => edg
      have e27 : ∀ (a c d : Nat → Int32), (sA (sA (sA T 21 a) 21 c) 21 d).2.1 27 k = T.2.1 27 k := fun _ _ _ => rfl
      have g0 : ∀ {α : Type} (x : Option α), G (inb 0 12) x = x := fun _ => rfl
      have g8 : ∀ {α : Type} (x : Option α), G (inb 8 12) x = x := fun _ => rfl
      have g7 : ∀ {α : Type} (x : Option α), G (inb 7 12) x = x := fun _ => rfl
      have g10 : ∀ {α : Type} (x : Option α), G (inb 10 12) x = x := fun _ => rfl
      have y20 : ∀ (a : Nat → Int32), (sA T 21 a).1 20 = T.1 20 := fun _ => rfl
      simp only [g0, g8, g7, g10, e25, e25b, e25c, e27, y20]
      rw [← t1, f1, calV_s, show m_first T2 1 = _ from k2, show x7_firstThatHolds S1 1 (nI dk) = _ from x2, cal_s, cal_s]
      have h144 := AL_le hb (dk + 1)
      by_cases c2 : fdx (sv v w (nI dk - nI dg) l (T.2.1 27 k)) b 1 (AL b (dk + 1)) < (AL b (dk + 1)).1
      · simp only [if_pos c2]
        rw [if_neg (nI_m1 (by omega)), if_neg (show ¬ nI _ = -2 from fun q => absurd (nI_pos (show fdx (sv v w (nI dk - nI dg) l (T.2.1 27 k)) b 1 (AL b (dk + 1)) < 2 ^ 31 by omega)) (by rw [q]; decide))]
        have FD3 := FD_15 k1 f3
        obtain ⟨T4, m1, m2⟩ := fst_M hb (pT fT3) FD3.2 (s := 2) (by decide) vT3
        obtain ⟨S3, z1, z2⟩ := fst_X hb (pS fS2) hdk (s := 2) (by decide) vS2
        have vS3 : VXw S3 v := wS (VX_25 z1 vS2)
        have fT4 := fr_tr fT3 (fr_sub (I' := [15, 16, 17]) (A' := [21, 22, 23]) (by decide) (by decide) m1)
        rw [show m_first T3 2 = _ from m2, show x7_firstThatHolds S2 2 (nI dk) = _ from z2, cal_s, cal_s]
        by_cases c3 : fdx (sv v w (nI dk - nI dg) l (T.2.1 27 k)) b 2 (AL b (dk + 1)) < (AL b (dk + 1)).1
        · simp only [if_pos c3]
          have fS3 : fr [17, 25, 26] [23, 34] S (sI S3 17 (nI (fdx (sv v w (nI dk - nI dg) l (T.2.1 27 k)) b 2 (AL b (dk + 1))))) := fr_tr fS2 (fr_tr (fr_sub (by decide) (by decide) z1) (fr_I _ _ (by decide)))
          obtain ⟨T5, n1, n2⟩ := fst_M hb (pT fT4) (FD_15 m1 FD3).2 (s := 2) (by decide) (VM_15 m1 vT3)
          rw [if_neg (show ¬ (sI S3 17 (nI _)).1 17 = -2 from fun q => absurd (nI_pos (show fdx (sv v w (nI dk - nI dg) l (T.2.1 27 k)) b 2 (AL b (dk + 1)) < 2 ^ 31 by omega)) (by rw [show nI _ = (-2 : Int32) from q]; decide)), if_neg (nI_m1 (by omega))]
          refine ⟨4, _, T4, rfl, rfl, fS3, fT4, FD_CM hdk (FD_15 m1 FD3), vS3, wT (VM_15 m1 vT3), fun _ => ⟨_, T5, rfl, ?_, n1⟩, by simp⟩
          rw [show m_first T4 2 = _ from n2, if_pos c3]
        · simp only [if_neg c3]
          have fS3 : fr [17, 25, 26] [23, 34] S (sI S3 17 (-2)) := fr_tr fS2 (fr_tr (fr_sub (by decide) (by decide) z1) (fr_I _ _ (by decide)))
          rw [if_pos (show (sI S3 17 (-2)).1 17 = -2 from rfl)]
          simp only [if_true]
          exact ⟨0, _, T4, rfl, rfl, fS3, fT4, FD_CM hdk (FD_15 m1 FD3), vS3, wT (VM_15 m1 vT3), fun q => absurd q (by decide), by simp⟩
      · simp only [if_neg c2, if_true]
        exact ⟨3, S2, T3, rfl, rfl, fS2, fT3, FD_CM hdk (FD_15 k1 f3), wS vS2, wT vT3, fun q => absurd q (by decide), by simp⟩
    · simp only [if_true]
      exact ⟨2, S, T, rfl, rfl, fr_rfl _ _ _, fr_rfl _ _ _, hC, hv, hvm, fun q => absurd q (by decide), by simp⟩
  · rw [if_neg (nI_ge (by omega) (by omega)), if_neg (nI_ge (by omega) (by omega))]
    exact ⟨1, S, T, rfl, rfl, fr_rfl _ _ _, fr_rfl _ _ _, hC, hv, hvm, fun q => absurd q (by decide), by simp⟩
def mdP (T : ST) (f : Nat) (d : Int32) (k : Nat) : Bool := decide (T.2.1 24 k = 4) && (decide (T.2.1 26 k = nI f) && !decide (d < T.2.1 25 k))
theorem mby_x {S T : ST} {i : Nat} (hi : i < 180) (hR : factR S T i) (f : Nat) (d : Int32) : x0_isMendBy S (nI i) (nI f) d = some (bit (mdP T f d i), S) := by
  unfold x0_isMendBy mdP
  rw [isAbout_b hi, chkS, FK_0 hR.1, G_in hi (by decide), nI_clamp (by omega)]
  by_cases c : T.2.1 24 i = 4
  · obtain ⟨q1, -, q3, -⟩ := hR.2.2.2.2.2.1 c
    rw [q1, q3]
    by_cases c2 : T.2.1 26 i = nI f
    · by_cases c3 : d < T.2.1 25 i
      · simp [c, c2, c3, bit]
      · simp [c, c2, c3, bit]
    · simp [c2, bit]
  · simp [c, bit]
theorem mnd_lp {b : BK} {n m f en : Nat} (hm : m ≤ n) (hen : en ≤ m) (d : Int32) (K : ST → Int32 → Int32 → Int32 → Option ST) (e : Nat) : ∀ j i, i + j = en → ∀ S T w l v, CT S T b n → S.1 12 = w → T.1 19 = w → S.1 14 = l → T.1 20 = l → VXw S v → VMw T v → rng w 1000 → ∃ S' T' w' l', x3_mendAll_h11 (j + 1 + e) S (nI f) d (nI m) (nI en) (nI i) = some S' ∧ m_prints_h113 K (j + 1 + e) T (nI f) d (nI m) (nI en) (nI i) = K T' (nI f) d (nI m) ∧ fr [12, 14, 17, 25, 26] [23, 34] S S' ∧ fr [15, 16, 17, 19, 20] [21, 22, 23] T T' ∧ CM T' b ∧ S'.1 12 = w' ∧ T'.1 19 = w' ∧ S'.1 14 = l' ∧ T'.1 20 = l' ∧ VXw S' v ∧ VMw T' v ∧ rng w' 1000 := by
  intro j
  induction j with
  | zero =>
    intro i h S T w l v hC e1 e2 e3 e4 hv hvm hw
    have hn := hC.2.2.2.2.1
    refine ⟨S, T, w, l, ?_, ?_, fr_rfl _ _ _, fr_rfl _ _ _, hC.2.2.2.1, e1, e2, e3, e4, hv, hvm, hw⟩
    · rw [show 0 + 1 + e = e + 1 by omega, x3_mendAll_h11, if_pos (nI_le (by omega) (by omega))]
    · rw [show 0 + 1 + e = e + 1 by omega, m_prints_h113]
      by_cases c : m ≤ i
      · rw [if_pos (nI_le c (by omega))]
      · rw [if_neg (nI_ge (by omega) (by omega)), if_pos (nI_le (by omega) (by omega))]
  | succ j ih =>
    intro i h S T w l v hC e1 e2 e3 e4 hv hvm hw
    have hn := hC.2.2.2.2.1
    have hR := hC.2.2.2.2.2 i (by omega)
    rw [show j + 1 + 1 + e = (j + 1 + e) + 1 by omega, x3_mendAll_h11, m_prints_h113, if_neg (nI_ge (by omega) (by omega)), if_neg (nI_ge (by omega) (by omega)), if_neg (nI_ge (by omega) (by omega)), mby_x (by omega) hR, chkS]
    have em : ∀ (A B : Option ST), (if T.2.1 24 i = 4 then (if T.2.1 26 i = nI f then (if d < T.2.1 25 i then A else B) else A) else A) = if mdP T f d i = true then B else A := fun A B => by
      unfold mdP
      by_cases c : T.2.1 24 i = 4 <;> by_cases c2 : T.2.1 26 i = nI f <;> by_cases c3 : d < T.2.1 25 i <;> simp [c, c2, c3]
    unfold x3_mendAll_j66 m_prints_j193
    simp only [G_in (show i < 180 by omega) (by decide : 180 < 2 ^ 31), nI_clamp (show i < 2 ^ 31 by omega), nI_1]
    rw [em]
    cases c : mdP T f d i
    · simp only [Bool.false_eq_true, if_false]
      exact ih (i + 1) (by omega) S T w l v hC e1 e2 e3 e4 hv hvm hw
    · simp only [if_true]
      have c4 : T.2.1 24 i = 4 := by unfold mdP at c; rw [Bool.and_eq_true] at c; exact of_decide_eq_true c.1
      obtain ⟨-, -, -, -, q17, hrw⟩ := hR.2.2.2.2.2.1 c4
      obtain ⟨r, S1, T1, f1, f2, f3, f4, f5, f6, f7, -, f9⟩ := fate_rel hC hm (show i < m by omega) c4 e1 e2 e3 e4 hv hvm
      have hC1 : CT S1 T1 b n := CT_k hC (fr_sub (by decide) (by decide) f3) (fr_sub (by decide) (by decide) f4) f5
      rw [f1, f2, cal_s, cal_s]
      by_cases cr : r = 0
      · rw [if_pos cr, if_pos cr]
        have e17 : S1.2.1 17 i = T.2.1 27 i := by rw [f3.2.1 17 (by decide)]; exact q17
        have e27 : T1.2.1 27 i = T.2.1 27 i := by rw [f4.2.1 27 (by decide)]
        have e14 : (sI S1 12 (T.2.1 27 i)).1 14 = l := (f3.1 14 (by decide)).trans e3
        have e20 : (sI T1 19 (T.2.1 27 i)).1 20 = l := (f4.1 20 (by decide)).trans e4
        rw [e17, e27]
        simp only [e14, e20]
        have hC2 : CT (sI (sI S1 12 (T.2.1 27 i)) 14 (l + 1)) (sI (sI T1 19 (T.2.1 27 i)) 20 (l + 1)) b n := CT_k hC1 (fr_tr (fr_I _ _ (by decide)) (fr_I _ _ (by decide))) (fr_tr (fr_I _ _ (by decide)) (fr_I _ _ (by decide))) hC1.2.2.2.1
        obtain ⟨S', T', w', l', g1, g2, g3, g4, g5⟩ := ih (i + 1) (by omega) _ _ (T.2.1 27 i) (l + 1) v hC2 rfl rfl rfl rfl f6 f7 hrw
        exact ⟨S', T', w', l', g1, g2, fr_tr (fr_sub (by decide) (by decide) f3) (fr_tr (fr_tr (fr_I _ _ (by decide)) (fr_I _ _ (by decide))) g3), fr_tr (fr_sub (by decide) (by decide) f4) (fr_tr (fr_tr (fr_I _ _ (by decide)) (fr_I _ _ (by decide))) g4), g5⟩
      · rw [if_neg cr, if_neg cr]
        obtain ⟨S', T', w', l', g1, g2, g3, g4, g5⟩ := ih (i + 1) (by omega) S1 T1 w l v hC1 ((f3.1 12 (by decide)).trans e1) ((f4.1 19 (by decide)).trans e2) ((f3.1 14 (by decide)).trans e3) ((f4.1 20 (by decide)).trans e4) f6 f7 hw
        exact ⟨S', T', w', l', g1, g2, fr_tr (fr_sub (by decide) (by decide) f3) g3, fr_tr (fr_sub (by decide) (by decide) f4) g4, g5⟩
/-- a line put right and its mends let -/
theorem mnd_rel {S T : ST} {b : BK} {n m f en : Nat} (h : CT S T b n) (hm : m ≤ n) (hfe : f < en) (hen : en ≤ m) (hl : T.2.1 24 f = 0) (d : Int32) : ∃ S' T' w l v r, x3_mendAll S (nI f) d (nI m) (nI en) = some S' ∧ m_prints T (nI f) d (nI m) (nI en) = m_prints_j199 T' (nI f) d (nI m) ∧ fr xI xA S S' ∧ fr mI mA T T' ∧ CM T' b ∧ S'.1 12 = w ∧ T'.1 19 = w ∧ S'.1 14 = l ∧ T'.1 20 = l ∧ VXw S' v ∧ VMw T' v ∧ rng w 1000 ∧ S'.1 13 = s2 (T'.1 21) ∧ S'.1 18 = s2 r ∧ m_whoIn T (T.2.1 28 f) (T.2.1 25 f) (nI m) = some (r, T) := by
  have hn := h.2.2.2.2.1
  obtain ⟨S1, T1, r, w, v, p1, p2, p3, p4, p5, ⟨a1, a2, a3, a4, a5, a6, a7⟩, p7, p8, p9⟩ := put_rel h hm (show f < m by omega) hl
  obtain ⟨e, he⟩ := FU_s (en - (f + 1) + 1) (by omega)
  obtain ⟨S', T', w', l', g1, g2, g3, g4, g5, g6, g7, g8, g9, g10, g11, g12⟩ := mnd_lp (f := f) hm hen d m_prints_j199 e (en - (f + 1)) (f + 1) (by omega) S1 T1 w 0 v (CT_k h p2 p4 p5) a1 a2 a3 a4 (fun i hi _ _ _ _ => a5 i hi) (fun i hi _ _ _ _ => a6 i hi) a7
  refine ⟨S', T', w', l', v, r, ?_, ?_, fr_tr p2 (fr_sub (by decide) (by decide) g3), fr_tr p4 (fr_sub (by decide) (by decide) g4), g5, g6, g7, g8, g9, g10, g11, g12, ?_, ?_, p9⟩
  · unfold x3_mendAll
    rw [p1, calV_s, nI_1, he]
    exact g1
  · rw [p3]
    unfold m_prints_j108
    rw [nI_1, he]
    exact g2
  · rw [g3.1 13 (by decide), g4.1 21 (by decide)]; exact p7
  · rw [g3.1 18 (by decide)]; exact p8
theorem g012 {α : Type} (x : Option α) : G (inb 0 12) x = x := rfl
theorem g812 {α : Type} (x : Option α) : G (inb 8 12) x = x := rfl
theorem g712 {α : Type} (x : Option α) : G (inb 7 12) x = x := rfl
theorem g1012 {α : Type} (x : Option α) : G (inb 10 12) x = x := rfl
/-- the reference's later -/
theorem lat_m {T : ST} {b : BK} (hb : okB b) (hM : BM T b) (hC : CM T b) {f d : Nat} (hf : f < 180) (hd : d < 100) {v : Nat → Int32} (hv : VMw T v) : ∃ T', m_later T (nI f) (nI d) = some T' ∧ fr [16, 17] [21, 23] T T' ∧ FD T' b d ∧ VM T' (sv v (T.1 19) (nI d - T.2.1 25 f) (T.1 20) 0) := by
  obtain ⟨T2, f1, f2, f3⟩ := frc (S := svS T (T.1 19) (nI d - T.2.1 25 f) (T.1 20) 0) hb hM hC hd
  refine ⟨T2, ?_, fr_tr (fr_sub (by decide) (by decide) (svS_fr T (T.1 19) (nI d - T.2.1 25 f) (T.1 20) 0)) (fr_sub (by decide) (by decide) f2), f3, VM_16 f2 (svS_v hv _ _ _ _)⟩
  unfold m_later
  rw [g012, g812, G_in hf (by decide), g712, g1012, nI_clamp (by omega)]
  show calV (m_forces (svS T (T.1 19) (nI d - T.2.1 25 f) (T.1 20) 0) (nI d)) _ = _
  rw [f1, calV_s]
/-- the reference's end of a print -/
theorem j199_m {T : ST} {b : BK} (hb : okB b) (hM : BM T b) (hC : CM T b) {m f d : Nat} (hm : m ≤ 180) (hfm : f < m) (hd : d < 100) {v : Nat → Int32} (hv : VMw T v) : ∃ T', m_prints_j199 T (nI f) (nI d) (nI m) = some T' ∧ fr [15, 16, 17, 22, 23] [21, 22, 23] T T' ∧ FD T' b d ∧ T'.1 22 = bit (anyF (stP T f (nI d)) (m - (f + 1)) (f + 1)) ∧ VM T' (sv v (T.1 19) (nI d - T.2.1 25 f) (T.1 20) 0) ∧ T'.1 23 = (if fdx (sv v (T.1 19) (nI d - T.2.1 25 f) (T.1 20) 0) b 3 (AL b (d + 1)) < (AL b (d + 1)).1 then nI (fdx (sv v (T.1 19) (nI d - T.2.1 25 f) (T.1 20) 0) b 3 (AL b (d + 1))) else -1) := by
  obtain ⟨T2, f1, f2, f3, f4⟩ := lat_m (T := sI T 22 (bit (anyF (stP T f (nI d)) (m - (f + 1)) (f + 1)))) hb hM hC (show f < 180 by omega) hd hv
  have fT2 : fr [15, 16, 17, 22, 23] [21, 22, 23] T T2 := fr_tr (fr_I _ _ (by decide)) (fr_sub (by decide) (by decide) f2)
  obtain ⟨T3, k1, k2⟩ := fst_M hb (BM_k (p2_fr (by decide) (by decide) fT2) hM) f3.2 (s := 3) (by decide) f4
  have vT3 := VM_15 k1 f4
  have fd3 := FD_15 k1 f3
  refine ⟨sI T3 23 (if fdx (sv v (T.1 19) (nI d - T.2.1 25 f) (T.1 20) 0) b 3 (AL b (d + 1)) < (AL b (d + 1)).1 then nI (fdx (sv v (T.1 19) (nI d - T.2.1 25 f) (T.1 20) 0) b 3 (AL b (d + 1))) else -1), ?_, fr_tr fT2 (fr_tr (fr_sub (by decide) (by decide) k1) (fr_I _ _ (by decide))), fd3, ?_, vT3, rfl⟩
  · unfold m_prints_j199
    rw [sm_eq hm hfm, cal_s, G_t (by cases anyF (stP T f (nI d)) (m - (f + 1)) (f + 1) <;> decide)]
    simp only []
    rw [f1, calV_s, show m_first T2 3 = _ from k2, cal_s]
    rfl
  · show T3.1 22 = _
    rw [k1.1 22 (by decide), f2.1 22 (by decide)]; rfl
/-- a line printed -/
theorem prt_rel {S T : ST} {b : BK} {n m f d : Nat} (h : CT S T b n) (hm : m ≤ n) (hfm : f < m) (hl : T.2.1 24 f = 0) (hd : d < 100) : ∃ S' T' w l v r, x3_print S (nI f) (nI d) (nI m) = some S' ∧ m_prints T (nI f) (nI d) (nI m) (nI m) = some T' ∧ fr xI xA S S' ∧ fr mI mA T T' ∧ FD T' b d ∧ S'.1 12 = w ∧ T'.1 19 = w ∧ S'.1 14 = l ∧ T'.1 20 = l ∧ VX S' v ∧ VM T' v ∧ rng w 1000 ∧ S'.1 15 = T'.1 22 ∧ (∃ q, T'.1 22 = bit q) ∧ S'.1 16 = s2 (T'.1 23) ∧ S'.1 13 = s2 (T'.1 21) ∧ S'.1 18 = s2 r ∧ m_whoIn T (T.2.1 28 f) (T.2.1 25 f) (nI m) = some (r, T) ∧ v 7 = nI d - T.2.1 25 f ∧ v 0 = w ∧ v 8 = l ∧ v 10 = 0 ∧ (T'.1 23 = -1 ∨ ∃ p, p < 144 ∧ T'.1 23 = nI p) := by
  have hn := h.2.2.2.2.1
  obtain ⟨S1, T1, w, l, v, r, p1, p2, p3, p4, p5, p6, p7, p8, p9, p10, p11, p12, p13, p14, p15⟩ := mnd_rel h hm hfm (Nat.le_refl m) hl (nI d)
  have hC1 : CT S1 T1 b n := CT_k h p3 p4 p5
  obtain ⟨hb, hX1, hM1, -, -, hf1⟩ := hC1
  obtain ⟨T2, q1, q2, q3, q4, q5, q6⟩ := j199_m hb hM1 p5 (show m ≤ 180 by omega) hfm hd p11
  obtain ⟨g1, -⟩ := (hf1 f (by omega)).2.1 (by rw [p4.2.1 24 (by decide)]; exact hl)
  have e25 : T1.2.1 25 f = T.2.1 25 f := by rw [p4.2.1 25 (by decide)]
  rw [p7, p9, e25] at q5 q6
  obtain ⟨S2, s1, s2', s3⟩ := setW (S := sI S1 15 (bit (anyF (stP T1 f (nI d)) (m - (f + 1)) (f + 1)))) (v := v) p10 (nI d - T.2.1 25 f) 0
  rw [show (sI S1 15 (bit (anyF (stP T1 f (nI d)) (m - (f + 1)) (f + 1)))).1 12 = w from p6, show (sI S1 15 (bit (anyF (stP T1 f (nI d)) (m - (f + 1)) (f + 1)))).1 14 = l from p8] at s3
  have fS2 : fr xI xA S S2 := fr_tr p3 (fr_tr (fr_I _ _ (by decide)) (fr_sub (by decide) (by decide) s2'))
  obtain ⟨S3, x1, x2⟩ := fst_X hb (BX_k (pX_x fS2) h.2.1) hd (s := 3) (by decide) s3
  have h144 := AL_le hb (d + 1)
  have vS3 := VX_25 x1 s3
  refine ⟨sI S3 16 (if fdx (sv v w (nI d - T.2.1 25 f) l 0) b 3 (AL b (d + 1)) < (AL b (d + 1)).1 then nI (fdx (sv v w (nI d - T.2.1 25 f) l 0) b 3 (AL b (d + 1))) else -2), T2, w, l, sv v w (nI d - T.2.1 25 f) l 0, r, ?_, p2.trans q1, fr_tr fS2 (fr_tr (fr_sub (by decide) (by decide) x1) (fr_I _ _ (by decide))), fr_tr p4 (fr_sub (by decide) (by decide) q2), q3, ?_, ?_, ?_, ?_, vS3, q5, p12, ?_, ⟨_, q4⟩, ?_, ?_, ?_, p15, rfl, rfl, rfl, rfl, ?_⟩
  · unfold x3_print
    rw [p1, calV_s, sx_eq hn hm hfm hf1, cal_s, G_t (by cases anyF (stP T1 f (nI d)) (m - (f + 1)) (f + 1) <;> decide), G_in (by omega) (by decide), nI_clamp (by omega)]
    simp only []
    rw [show (sI S1 15 (bit (anyF (stP T1 f (nI d)) (m - (f + 1)) (f + 1)))).2.1 14 f = T.2.1 25 f from by show S1.2.1 14 f = _; rw [g1, e25], s1, calV_s, show x7_firstThatHolds S2 3 (nI d) = _ from x2, cal_s]
  · show S3.1 12 = w; rw [x1.1 12 (by decide), s2'.1 12 (by decide)]; exact p6
  · rw [q2.1 19 (by decide)]; exact p7
  · show S3.1 14 = l; rw [x1.1 14 (by decide), s2'.1 14 (by decide)]; exact p8
  · rw [q2.1 20 (by decide)]; exact p9
  · show S3.1 15 = _; rw [x1.1 15 (by decide), s2'.1 15 (by decide), q4]; rfl
  · rw [q6]
    show (if _ then _ else _) = _
    by_cases c : fdx (sv v w (nI d - T.2.1 25 f) l 0) b 3 (AL b (d + 1)) < (AL b (d + 1)).1
    · rw [if_pos c, if_pos c]; unfold s2; rw [if_neg (nI_m1 (by omega))]
    · rw [if_neg c, if_neg c]; rfl
  · show S3.1 13 = _; rw [x1.1 13 (by decide), s2'.1 13 (by decide), q2.1 21 (by decide)]; exact p13
  · show S3.1 18 = _; rw [x1.1 18 (by decide), s2'.1 18 (by decide)]; exact p14
  · rw [q6]
    by_cases c : fdx (sv v w (nI d - T.2.1 25 f) l 0) b 3 (AL b (d + 1)) < (AL b (d + 1)).1
    · rw [if_pos c]; exact Or.inr ⟨_, by omega, rfl⟩
    · rw [if_neg c]; exact Or.inl rfl
