theorem XR_T {c rb row : Nat} {S T : ST} (hr : rb ≤ row) (h : XT c row S T) : XR c rb S T := ⟨g3_sub (by decide) (by decide) (by decide) h.1, h.2.1, fun i hi => by
  rw [h.1.2.1 2 (by decide), h.1.2.1 3 (by decide), h.1.2.1 4 (by decide), h.1.2.1 5 (by decide), h.1.2.1 6 (by decide), h.1.2.2 0 (by decide)]
  exact ⟨rfl, rfl, rfl, rfl, rfl, h.2.2 i (by omega), rfl⟩⟩
theorem MR_T {d f r row N : Nat} {S T : ST} (hr : r ≤ row) (h : MT d f row N S T) : MR d f r N S T := ⟨g3_sub (by decide) (by decide) (by decide) h.1, h.2.1, h.2.2.1, fun i hi => by
  obtain ⟨a1, a2, a3⟩ := h.2.2.2.1 i (by omega)
  rw [h.1.2.1 7 (by decide), h.1.2.1 8 (by decide), h.1.2.2 2 (by decide)]
  exact ⟨rfl, rfl, a1, a2, a3, rfl⟩, h.2.2.2.2⟩
def rwX (S : ST) (k i row c c' s : Nat) (m : List Nat) (v : List OP) (l : List LIT) : Prop := S.2.1 2 row = nI s ∧ S.2.2 0 row = lN (e32 m) ∧ S.2.1 3 row = nI k ∧ S.2.1 4 row = nI i ∧ S.2.1 5 row = nI c ∧ S.2.1 6 row = nI (c + v.length) ∧ S.2.1 7 row = nI c' ∧ c' = c + (v.map xen ++ ccX true l).length ∧ sgN (S.2.1 1) c (v.map xen ++ ccX true l)
def rwM (T : ST) (row d f s : Nat) (m : List Nat) (v : List OP) (l : List LIT) : Prop := T.2.1 7 row = nI s ∧ T.2.2 2 row = lN (e27 m) ∧ (∃ a, T.2.1 8 row = nI a ∧ T.2.1 9 row = nI (a + v.length) ∧ a + v.length ≤ d ∧ sgM (T.2.1 18) (T.2.1 19) a v) ∧ ∃ f0, T.2.1 10 row = nI f0 ∧ T.2.1 11 row = nI (f0 + l.length) ∧ f0 + l.length ≤ f ∧ lsM T d f0 l
def okRr (s : Nat) (m : List Nat) (v : List OP) (l : List LIT) : Prop := s ≤ 5 ∧ lets m ∧ m.length ≤ 8 ∧ (s = 0 → wfO v 0) ∧ okLs l ∧ orFirst l
theorem rul {z : TZ} {N R0 i c d f C0 D0 F0 p : Nat} {S T : ST} (hz : okZ z) (hC0 : C0 ≤ 2000) (hD0 : D0 ≤ 2000) (hF0 : F0 ≤ 700) (hN : N ≤ 5) (hR : R0 + 24 ≤ 144) (hi : i ≤ 24) (hX : lvX z S p) (hM : lvM z T p) (m5 : T.1 5 = 0) (x3 : S.1 3 = nI (R0 + i)) (x4 : S.1 4 = nI N) (x2 : S.1 2 = nI c) (m13 : T.1 13 = nI d) (m12 : T.1 12 = nI f) (m11 : T.1 11 = nI N) (m6 : T.2.1 6 N = nI i) (bc : c ≤ C0 + p) (bd : d ≤ D0 + p) (bf : F0 ≤ f) (b4 : 4 * f ≤ 4 * F0 + p) : ∃ S' T', x2_parseRule S (nI i) = some S' ∧ m_tellRule T = some T' ∧ XR c (R0 + i) S S' ∧ MR d f (24 * N + i) N T T' ∧ ((∃ p' s m v l c' d' f', p < p' ∧ lvX z S' p' ∧ lvM z T' p' ∧ T'.1 5 = 0 ∧ S'.1 3 = nI (R0 + (i + 1)) ∧ S'.1 2 = nI c' ∧ T'.1 13 = nI d' ∧ T'.1 12 = nI f' ∧ T'.2.1 6 N = nI (i + 1) ∧ rwX S' N i (R0 + i) c c' s m v l ∧ rwM T' (24 * N + i) d' f' s m v l ∧ okRr s m v l ∧ c' ≤ C0 + p' ∧ d' ≤ D0 + p' ∧ d ≤ d' ∧ f ≤ f' ∧ 4 * f' ≤ 4 * F0 + p' ∧ i < 24) ∨ ∃ fq q, okD fq q ∧ dX fq q S' ∧ dM fq q T') := by
  have h38 := hz.2.2.1 p
  have hp4 := lv_4 hz hX
  have hP := hz.2.2.2.1 p
  have h6 := sub6 (k := zK z p) (by omega)
  rw [tel0 hz hM]
  unfold x2_parseRule
  dsimp only
  rw [hX.2.2.2.1]
  have deadF : ∀ fn : Nat, 1 ≤ fn → fn ≤ 5 → XR c (R0 + i) S (sI (sI S 9 (nI fn)) 10 (nI (zP z p))) ∧ MR d f (24 * N + i) N T (sI (sI T 6 (nI fn)) 7 (nI (zP z p))) ∧ okD fn (zP z p) ∧ dX fn (zP z p) (sI (sI S 9 (nI fn)) 10 (nI (zP z p))) ∧ dM fn (zP z p) (sI (sI T 6 (nI fn)) 7 (nI (zP z p))) := fun fn h1 h2 => ⟨XR_E (Nat.le_refl c) (XE_g (I := [9, 10]) (A := []) (L := []) (by decide) (by decide) (by decide) (g3_tr (g3_I _ _ (by decide)) (g3_I _ _ (by decide)))), MR_g (I := [6, 7]) (A := []) (L := []) (by decide) (by decide) (by decide) (g3_tr (g3_I _ _ (by decide)) (g3_I _ _ (by decide))), ⟨h1, h2, hP⟩, ⟨rfl, rfl⟩, ded_m hz hM fn⟩
  by_cases ck : 6 ≤ zK z p ∧ zK z p ≤ 11
  · have hv7 : nI (zK z p) - 6 = nI (zK z p - 6) := pk_sub (b := 6) ck.1
    rw [if_neg (fun w => by have := h6.1.mp w; omega), if_pos (h6.2.mpr ck.2), if_pos ck, hv7]
    unfold m_tellRule_j65
    rw [if_neg (nI_m1 (by omega)), m11, G_in (by omega) (by decide), nI_clamp (by omega), m6]
    unfold m_tellRule_j98
    by_cases i24 : i = 24
    · obtain ⟨d1, d2, d3, d4, d5⟩ := deadF 2 (by decide) (by decide)
      rw [if_neg (show ¬ nI i < 24 from nI_nlt (b := 24) (by omega) (by omega)), ref_y hX.2.2.2.2.2.2, calV_s, hX.2.2.2.2.1, if_pos (show nI i = 24 from by rw [i24]; rfl), fai_y hz hM, calV_s, if_neg (show ¬ (sI (sI T 6 2) 7 (nI (zP z p))).1 6 ≤ 0 from dM1 d3 d5)]
      exact ⟨_, _, rfl, rfl, d1, d2, Or.inr ⟨2, zP z p, d3, d4, d5⟩⟩
    · rw [if_pos (show nI i < 24 from nI_lt (b := 24) (by omega) (by decide)), if_neg (show ¬ nI i = 24 from fun w => i24 ((nI_eq (b := 24) (by omega) (by decide)).mp w)), if_pos (show T.1 6 ≤ 0 from by rw [hM.2.2.2]; decide), m11, G_in (by omega) (by decide), nI_clamp (by omega), m6]
      obtain ⟨bb, S1, T1, q1, q2, q3, q4, q5⟩ := nxt2 hz hX hM rfl (by omega)
      dsimp only
      rw [show (24 : Int32) * nI N + nI i = nI (24 * N + i) from by rw [show (24 : Int32) = nI 24 from rfl, pk_mul, nI_add], q1, cal_s, q2, calV_s, G_in (by omega) (by decide), G_in (by omega) (by decide), nI_clamp (by omega)]
      have y3 : S1.1 3 = nI (R0 + i) := (q3.1 3 (by decide)).trans x3
      have y4 : S1.1 4 = nI N := (q3.1 4 (by decide)).trans x4
      have y2 : S1.1 2 = nI c := (q3.1 2 (by decide)).trans x2
      rw [opX (by omega) y3, calV_s]
      have fS1 : XR c (R0 + i) S S1 := XR_E (Nat.le_refl c) (XE_g (by decide) (by decide) (by decide) q3)
      have fT1 : MR d f (24 * N + i) N T T1 := MR_g (by decide) (by decide) (by decide) q4
      have fS2 := XR_tr fS1 (opS_X (c := c) S1 (Nat.le_refl (R0 + i)) (nI (zK z p - 6)) (S1.2.2 1 0) (nI i))
      have fT2 : MR d f (24 * N + i) N T (sA T1 7 (upd (T1.2.1 7) (24 * N + i) (nI (zK z p - 6)))) := MR_tr fT1 (MR_7 T1 (by simp) (Nat.le_refl _) _)
      have hA8 : ∀ (U : ST) (l2 : Int32), (G (inb (nI (24 * N + i)) 168) <| (let S164 := sA U 8 (upd (U.2.1 8) (24 * N + i) (U.1 13)); if l2 = 0 then (calV (m_must S164 22) fun S172 => calV (m_expression S172) fun S176 => m_tellRule_j179 S176 l2 (nI (24 * N + i))) else (m_tellRule_j179 S164 l2 (nI (24 * N + i))))) = mA8 U (nI (24 * N + i)) l2 := fun U l2 => by unfold mA8; rw [nI_clamp (by omega)]
      rcases q5 with ⟨rfl, hX1, hM1⟩ | ⟨rfl, fq, q, k1, k2, k3⟩
      · rw [show (sA T1 7 (upd (T1.2.1 7) (24 * N + i) (nI (zK z p - 6)))).1 4 = nI (p + 1) from hM1.2.2.1, G_in (show p + 1 < 403 by omega) (by decide), nI_clamp (show p + 1 < 2 ^ 31 by omega)]
        have hp14 := lv_4 hz hX1
        have hP1 := hz.2.2.2.1 (p + 1)
        generalize hT3 : sL (sA T1 7 (upd (T1.2.1 7) (24 * N + i) (nI (zK z p - 6)))) 2 (vp_updL ((sA T1 7 (upd (T1.2.1 7) (24 * N + i) (nI (zK z p - 6)))).2.2 2) (24 * N + i) ((sA T1 7 (upd (T1.2.1 7) (24 * N + i) (nI (zK z p - 6)))).2.2 0 (p + 1))) = T3
        have gT3 : g3 [] [7] [2] T1 T3 := by rw [← hT3]; exact g3_tr (g3_A _ _ (by decide)) (g3_L _ _ (by decide))
        have fT3 : MR d f (24 * N + i) N T T3 := by rw [← hT3]; exact MR_tr fT2 (MR_L _ (Nat.le_refl _) _)
        have r7 : T3.2.1 7 (24 * N + i) = nI (zK z p - 6) := by rw [← hT3]; exact pk_us
        have rL : T3.2.2 2 (24 * N + i) = T1.2.2 0 (p + 1) := by rw [← hT3]; exact pk_uLs
        have hM3 : lvM z T3 (p + 1) := lvM_g hM1 gT3 (by decide) (by decide) (by decide) (by decide) (by decide) (by decide)
        generalize hS2 : opS S1 (R0 + i) (nI (zK z p - 6)) (S1.2.2 1 0) (nI i) = S2 at fS2
        have gS2 : g3 [] [2, 3, 4, 5, 6] [0] S1 S2 := by rw [← hS2]; exact opS_g _ _ _ _ _
        have hX2 : lvX z S2 (p + 1) := lvX_g hX1 gS2 (by decide) (by decide) (by decide) (by decide) (by decide) (by decide) (by decide) (by decide) (by decide)
        have s2 : S2.2.1 2 (R0 + i) = nI (zK z p - 6) := by rw [← hS2]; exact pk_us
        have s0 : S2.2.2 0 (R0 + i) = S1.2.2 1 0 := by rw [← hS2]; exact pk_uLs
        have s3 : S2.2.1 3 (R0 + i) = nI N := by rw [← hS2, ← y4]; exact pk_us
        have s4 : S2.2.1 4 (R0 + i) = nI i := by rw [← hS2]; exact pk_us
        have s5 : S2.2.1 5 (R0 + i) = nI c := by rw [← hS2, ← y2]; exact pk_us
        have s6 : S2.2.1 6 (R0 + i) = nI c := by rw [← hS2, ← y2]; exact pk_us
        obtain ⟨b2, S3, T4, w1, w2, w3, w4, w5⟩ := acc2 hz hX2 hM3 (k := 24) (by decide)
        rw [show x2_accept S2 24 = _ from w1, show m_must T3 1 = _ from w2, cal_s, calV_s, hA8]
        have fS3 : XR c (R0 + i) S S3 := XR_tr fS2 (XR_E (Nat.le_refl c) (XE_g (by decide) (by decide) (by decide) w3))
        have fT4 : MR d f (24 * N + i) N T T4 := MR_tr fT3 (MR_g (by decide) (by decide) (by decide) w4)
        have z3 : S3.1 3 = nI (R0 + i) := by rw [w3.1 3 (by decide), gS2.1 3 (by decide)]; exact y3
        have z2 : S3.1 2 = nI c := by rw [w3.1 2 (by decide), gS2.1 2 (by decide)]; exact y2
        rcases w5 with ⟨rfl, kn, hX3, hM4⟩ | ⟨rfl, fq, q, k1, k2, k3⟩
        · have hnm := hz.2.2.2.2.2.1 (p + 1) kn
          have hnX : S1.2.2 1 0 = lN (e32 (zN z (p + 1))) := by rw [hX1.2.2.2.2.2.1]; exact (hX1.1.2 (p + 1) hX1.2.1).2.2.2 kn
          have hnM : T1.2.2 0 (p + 1) = lN (e27 (zN z (p + 1))) := (hM1.1 (p + 1) hM1.2.1).2.2.2 kn
          have n13 : T4.1 13 = nI d := by rw [w4.1 13 (by decide), gT3.1 13 (by decide), q4.1 13 (by decide)]; exact m13
          have n12 : T4.1 12 = nI f := by rw [w4.1 12 (by decide), gT3.1 12 (by decide), q4.1 12 (by decide)]; exact m12
          have n11 : T4.1 11 = nI N := by rw [w4.1 11 (by decide), gT3.1 11 (by decide), q4.1 11 (by decide)]; exact m11
          have n5 : T4.1 5 = 0 := by rw [w4.1 5 (by decide), gT3.1 5 (by decide), q4.1 5 (by decide)]; exact m5
          have n6 : T4.2.1 6 N = nI i := by rw [w4.2.1 6 (by decide), gT3.2.1 6 (by decide), q4.2.1 6 (by decide)]; exact m6
          have n7 : T4.2.1 7 (24 * N + i) = nI (zK z p - 6) := by rw [w4.2.1 7 (by decide)]; exact r7
          have nL : T4.2.2 2 (24 * N + i) = lN (e27 (zN z (p + 1))) := by rw [w4.2.2 2 (by decide), rL]; exact hnM
          have t2 : S3.2.1 2 (R0 + i) = nI (zK z p - 6) := by rw [w3.2.1 2 (by decide)]; exact s2
          have t0 : S3.2.2 0 (R0 + i) = lN (e32 (zN z (p + 1))) := by rw [w3.2.2 0 (by decide), s0]; exact hnX
          have t3 : S3.2.1 3 (R0 + i) = nI N := by rw [w3.2.1 3 (by decide)]; exact s3
          have t4 : S3.2.1 4 (R0 + i) = nI i := by rw [w3.2.1 4 (by decide)]; exact s4
          have t5 : S3.2.1 5 (R0 + i) = nI c := by rw [w3.2.1 5 (by decide)]; exact s5
          have t6 : S3.2.1 6 (R0 + i) = nI c := by rw [w3.2.1 6 (by decide)]; exact s6
          unfold mA8
          rw [G_in (by omega) (by decide), nI_clamp (by omega)]
          dsimp only
          generalize hT5 : sA T4 8 (upd (T4.2.1 8) (24 * N + i) (T4.1 13)) = T5
          have gT5 : g3 [] [8] [] T4 T5 := by rw [← hT5]; exact g3_A _ _ (by decide)
          have fT5 : MR d f (24 * N + i) N T T5 := by rw [← hT5]; exact MR_tr fT4 (MR_7 T4 (by simp) (Nat.le_refl _) _)
          have r8 : T5.2.1 8 (24 * N + i) = nI d := by rw [← hT5, ← n13]; exact pk_us
          have hM5 : lvM z T5 (p + 1 + 1) := lvM_g hM4 gT5 (by decide) (by decide) (by decide) (by decide) (by decide) (by decide)
          -- the end, from the condition on
          have tail : ∀ (S6 T6 : ST) (p6 : Nat) (v : List OP), p < p6 → lvX z S6 p6 → lvM z T6 p6 → T6.1 5 = 0 → S6.1 2 = nI (c + v.length) → T6.1 13 = nI (d + v.length) → (zK z p - 6 = 0 → wfO v 0) → v.length + (p + 1) ≤ p6 → g3 [2, 5, 6, 7, 8, 9, 10] [1, 6, 12] [1] S3 S6 → (∀ j, j < c → S6.2.1 1 j = S3.2.1 1 j) → (∀ j, j ≠ R0 + i → S6.2.1 6 j = S3.2.1 6 j) → S6.2.1 6 (R0 + i) = nI (c + v.length) → sgN (S6.2.1 1) c (v.map xen) → ME d T5 T6 → sgM (T6.2.1 18) (T6.2.1 19) d v → ∃ S' T', x2_parseRule_j85 S6 (nI (zK z p - 6)) = some S' ∧ m_tellRule_j179 T6 (nI (zK z p - 6)) (nI (24 * N + i)) = some T' ∧ XR c (R0 + i) S S' ∧ MR d f (24 * N + i) N T T' ∧ ((∃ p' s m v l c' d' f', p < p' ∧ lvX z S' p' ∧ lvM z T' p' ∧ T'.1 5 = 0 ∧ S'.1 3 = nI (R0 + (i + 1)) ∧ S'.1 2 = nI c' ∧ T'.1 13 = nI d' ∧ T'.1 12 = nI f' ∧ T'.2.1 6 N = nI (i + 1) ∧ rwX S' N i (R0 + i) c c' s m v l ∧ rwM T' (24 * N + i) d' f' s m v l ∧ okRr s m v l ∧ c' ≤ C0 + p' ∧ d' ≤ D0 + p' ∧ d ≤ d' ∧ f ≤ f' ∧ 4 * f' ≤ 4 * F0 + p' ∧ i < 24) ∨ ∃ fq q, okD fq q ∧ dX fq q S' ∧ dM fq q T') := by
            intro S6 T6 p6 v hp6 hX6 hM6 a5 a2 a13 hwf hvl gS6 gS6a gS6b a6 asg gT6 msg
            have b3 : S6.1 3 = nI (R0 + i) := (gS6.1 3 (by decide)).trans z3
            have b12 : T6.1 12 = nI f := by rw [gT6.1.1 12 (by decide), gT5.1 12 (by decide)]; exact n12
            have b11 : T6.1 11 = nI N := by rw [gT6.1.1 11 (by decide), gT5.1 11 (by decide)]; exact n11
            have b6 : T6.2.1 6 N = nI i := by rw [gT6.1.2.1 6 (by decide), gT5.2.1 6 (by decide)]; exact n6
            obtain ⟨S', T', g1, g2, g3', g4, g5⟩ := rtl (R := R0 + i) (row := 24 * N + i) hz hC0 hD0 hF0 hN (by omega) (by omega) (show zK z p - 6 ≤ 5 by omega) hX6 hM6 a5 b3 a2 a13 b12 b11 b6 (by omega) (by omega) bf (by omega)
            have fS6 : XR c (R0 + i) S S6 := XR_tr fS3 ⟨g3_sub (by decide) (by decide) (by decide) gS6, gS6a, fun j hj => by
              rw [gS6.2.1 2 (by decide), gS6.2.1 3 (by decide), gS6.2.1 4 (by decide), gS6.2.1 5 (by decide), gS6b j (by omega), gS6.2.1 7 (by decide), gS6.2.2 0 (by decide)]
              exact ⟨rfl, rfl, rfl, rfl, rfl, rfl, rfl⟩⟩
            have fT6 : MR d f (24 * N + i) N T T6 := MR_tr fT5 (MR_C (MC_E gT6))
            refine ⟨S', T', g1, g2, XR_tr fS6 (XR_T (Nat.le_refl _) ⟨g3'.1, fun j hj => g3'.2.1 j (by omega), g3'.2.2⟩), MR_tr fT6 (MR_le (by omega) (Nat.le_refl _) (Nat.le_refl _) (MR_T (Nat.le_refl _) g4)), ?_⟩
            rcases g5 with ⟨p', l, d', e1, e2, e3, e4, e5, e6, e7, e8, e9, e10, e11, e12, e13, e14, e15, e16, e17, e18, e19, e20, e21⟩ | w
            · have hcl : (v.map xen ++ ccX true l).length = v.length + (ccX true l).length := by simp
              refine Or.inl ⟨p', zK z p - 6, zN z (p + 1), v, l, c + v.length + (ccX true l).length, d', f + l.length, by omega, e2, e3, e4, e5, e7, e10, e11, e9, ⟨?_, ?_, ?_, ?_, ?_, ?_, e6, by rw [hcl]; omega, ?_⟩, ⟨?_, ?_, ⟨d, ?_, e12, by omega, ?_⟩, f, e13, e14, Nat.le_refl _, e15⟩, ⟨by omega, hnm.1, hnm.2, hwf, e16, e17⟩, e18, e19, by omega, by omega, e21, by omega⟩
              · rw [g3'.1.2.1 2 (by decide), gS6.2.1 2 (by decide)]; exact t2
              · rw [g3'.1.2.2 0 (by decide), gS6.2.2 0 (by decide)]; exact t0
              · rw [g3'.1.2.1 3 (by decide), gS6.2.1 3 (by decide)]; exact t3
              · rw [g3'.1.2.1 4 (by decide), gS6.2.1 4 (by decide)]; exact t4
              · rw [g3'.1.2.1 5 (by decide), gS6.2.1 5 (by decide)]; exact t5
              · rw [g3'.1.2.1 6 (by decide)]; exact a6
              · refine sgN_mk (sgN_c (fun j h1 h2 => ?_) asg) (by rw [List.length_map]; exact e8)
                rw [List.length_map] at h2
                exact g3'.2.1 j (by omega)
              · rw [g4.1.2.1 7 (by decide), gT6.1.2.1 7 (by decide), gT5.2.1 7 (by decide)]; exact n7
              · rw [g4.1.2.2 2 (by decide), gT6.1.2.2 2 (by decide), gT5.2.2 2 (by decide)]; exact nL
              · rw [g4.1.2.1 8 (by decide), gT6.1.2.1 8 (by decide)]; exact r8
              · exact sgM_c (fun j h1 h2 => g4.2.1 j (by omega)) msg
            · exact Or.inr w
          by_cases c0 : zK z p - 6 = 0
          · rw [if_pos (show nI (zK z p - 6) = 0 from by rw [c0]; rfl), if_pos (show nI (zK z p - 6) = 0 from by rw [c0]; rfl)]
            obtain ⟨b5, S4, T6, u1, u2, u3, u4, u5⟩ := acc2 hz hX3 hM5 (k := 1) (by decide)
            rw [show x2_accept S3 1 = _ from u1, show m_must T5 22 = _ from u2, cal_s, calV_s]
            have fS4 : XR c (R0 + i) S S4 := XR_tr fS3 (XR_E (Nat.le_refl c) (XE_g (by decide) (by decide) (by decide) u3))
            have fT6 : MR d f (24 * N + i) N T T6 := MR_tr fT5 (MR_g (by decide) (by decide) (by decide) u4)
            have o3 : S4.1 3 = nI (R0 + i) := (u3.1 3 (by decide)).trans z3
            rcases u5 with ⟨rfl, -, hX4, hM6⟩ | ⟨rfl, fq, q, k1, k2, k3⟩
            · obtain ⟨S5, T7, v1, v2, v3, v4, v5⟩ := expr hz (a := c) (d := d) (by omega) (by omega) hX4 hM6 (by rw [u4.1 5 (by decide), gT5.1 5 (by decide)]; exact n5) ((u3.1 2 (by decide)).trans z2) (by rw [u4.1 13 (by decide), gT5.1 13 (by decide)]; exact n13)
              have o5 : S5.1 3 = nI (R0 + i) := (v3.1.1 3 (by decide)).trans o3
              rw [v1, calV_s, v2, calV_s, begX (by omega) o5, calV_s]
              rcases v5 with ⟨p5, v, h1, h2, h3, h4, h5, h6', h7, h8, h9, h10⟩ | ⟨fq, q, k1, k2, k3, -⟩
              · have hb : g3 [] [6] [] S5 (sA S5 6 (upd (S5.2.1 6) (R0 + i) (S5.1 2))) := g3_A _ _ (by decide)
                refine tail _ T7 p5 v (by omega) (lvX_g h2 hb (by decide) (by decide) (by decide) (by decide) (by decide) (by decide) (by decide) (by decide) (by decide)) h3 h4 h7 h9 (fun _ => h5) (by omega) (g3_tr (g3_sub (by decide) (by decide) (by decide) u3) (g3_tr (g3_sub (by decide) (by decide) (by decide) v3.1) (g3_sub (by decide) (by decide) (by decide) hb))) (fun j hj => ?_) (fun j hj => ?_) ?_ h6' (ME_tr (ME_g (by decide) (by decide) (by decide) u4) v4) h8
                · show S5.2.1 1 j = _; rw [v3.2 j hj, u3.2.1 1 (by decide)]
                · show upd (S5.2.1 6) (R0 + i) _ j = _; rw [pk_un hj, v3.1.2.1 6 (by decide), u3.2.1 6 (by decide)]
                · show upd (S5.2.1 6) (R0 + i) (S5.1 2) (R0 + i) = _; rw [pk_us, h7]
              · have kb : dX fq q (sA S5 6 (upd (S5.2.1 6) (R0 + i) (S5.1 2))) := k2
                obtain ⟨T', g1, g2, g3'⟩ := mj179_d (d := d) (f' := f) (N := N) (r := 24 * N + i) (Nat.le_refl _) (show 24 * N + i < 168 by omega) k1 k3 (nI (zK z p - 6))
                rw [xj85_d (dX0 k1 kb), g1]
                exact ⟨_, T', rfl, rfl, XR_tr fS4 (XR_tr (XR_E (Nat.le_refl c) v3) ⟨g3_A _ _ (by decide), fun _ _ => rfl, fun j hj => ⟨rfl, rfl, rfl, rfl, pk_un (by omega), rfl, rfl⟩⟩), MR_tr fT6 (MR_tr (MR_C (MC_E v4)) g2), Or.inr ⟨fq, q, k1, kb, g3'⟩⟩
            · obtain ⟨S', g1, g2, g3'⟩ := xrt_d (c := c) (rb := R0 + i) (Nat.le_refl _) (by omega) o3 k1 k2 0
              rw [if_pos rfl, acc_d (dX0 k1 k2), cal_s] at g1
              obtain ⟨-, hx2⟩ := expr_d k1 k2 k3
              have k3' : dM fq q (sI T6 14 0) := k3
              obtain ⟨T', h1, h2, h3⟩ := mj179_d (d := d) (f' := f) (N := N) (r := 24 * N + i) (Nat.le_refl _) (show 24 * N + i < 168 by omega) k1 k3' (nI (zK z p - 6))
              rw [hx2, calV_s, h1, show nI (zK z p - 6) = 0 from by rw [c0]; rfl, g1]
              exact ⟨S', T', rfl, rfl, XR_tr fS4 g2, MR_tr fT6 (MR_tr (MR_g (I := [14]) (A := []) (L := []) (by decide) (by decide) (by decide) (g3_I _ _ (by decide))) h2), Or.inr ⟨fq, q, k1, g3', h3⟩⟩
          · have cn0 : ¬ nI (zK z p - 6) = 0 := fun w => c0 ((nI_eq (b := 0) (by omega) (by decide)).mp w)
            rw [if_neg cn0, if_neg cn0]
            exact tail S3 T5 (p + 1 + 1) [] (by omega) hX3 hM5 (by rw [gT5.1 5 (by decide)]; exact n5) z2 (by rw [gT5.1 13 (by decide)]; exact n13) (fun w => absurd w c0) (by show 0 + (p + 1) ≤ _; omega) (g3_rfl _ _ _ _) (fun _ _ => rfl) (fun _ _ => rfl) t6 trivial (ME_rfl _ _) trivial
        · obtain ⟨S', g1, g2, g3'⟩ := xrt_d (c := c) (rb := R0 + i) (Nat.le_refl _) (by omega) z3 k1 k2 (nI (zK z p - 6))
          obtain ⟨T', h1, h2, h3⟩ := mA8_d (d := d) (f' := f) (N := N) (r := 24 * N + i) (Nat.le_refl _) (show 24 * N + i < 168 by omega) k1 k3 (nI (zK z p - 6))
          rw [g1, h1]
          exact ⟨S', T', rfl, rfl, XR_tr fS3 g2, MR_tr fT4 h2, Or.inr ⟨fq, q, k1, g3', h3⟩⟩
      · obtain ⟨p1, hp1, e4⟩ := k3.2.2
        rw [show (sA T1 7 (upd (T1.2.1 7) (24 * N + i) (nI (zK z p - 6)))).1 4 = nI p1 from e4, G_in (show p1 < 403 by omega) (by decide), nI_clamp (show p1 < 2 ^ 31 by omega)]
        have k2' : dX fq q (opS S1 (R0 + i) (nI (zK z p - 6)) (S1.2.2 1 0) (nI i)) := k2
        have k3' : dM fq q (sL (sA T1 7 (upd (T1.2.1 7) (24 * N + i) (nI (zK z p - 6)))) 2 (vp_updL ((sA T1 7 (upd (T1.2.1 7) (24 * N + i) (nI (zK z p - 6)))).2.2 2) (24 * N + i) ((sA T1 7 (upd (T1.2.1 7) (24 * N + i) (nI (zK z p - 6)))).2.2 0 p1))) := k3
        rw [acc_d (dX0 k1 k2'), cal_s, mus_d k1 k3', calV_s, hA8]
        obtain ⟨S', g1, g2, g3'⟩ := xrt_d (c := c) (rb := R0 + i) (Nat.le_refl _) (by omega) (show (opS S1 (R0 + i) (nI (zK z p - 6)) (S1.2.2 1 0) (nI i)).1 3 = nI (R0 + i) from y3) k1 k2' (nI (zK z p - 6))
        obtain ⟨T', h1, h2, h3⟩ := mA8_d (d := d) (f' := f) (N := N) (r := 24 * N + i) (Nat.le_refl _) (show 24 * N + i < 168 by omega) k1 k3' (nI (zK z p - 6))
        rw [g1, h1]
        exact ⟨S', T', rfl, rfl, XR_tr fS2 g2, MR_tr (MR_tr fT2 (MR_L _ (Nat.le_refl _) _)) h2, Or.inr ⟨fq, q, k1, g3', h3⟩⟩
  · obtain ⟨d1, d2, d3, d4, d5⟩ := deadF 1 (by decide) (by decide)
    rw [if_neg ck]
    unfold m_tellRule_j65 m_tellRule_j98
    rw [if_pos rfl, fai_y hz hM, calV_s, if_neg (show ¬ (sI (sI T 6 1) 7 (nI (zP z p))).1 6 ≤ 0 from dM1 d3 d5), ref_y hX.2.2.2.2.2.2, calV_s, hX.2.2.2.2.1]
    by_cases c6 : nI (zK z p) - 6 < 0
    · rw [if_pos c6]
      exact ⟨_, _, rfl, rfl, d1, d2, Or.inr ⟨1, zP z p, d3, d4, d5⟩⟩
    · rw [if_neg c6, if_neg (fun w => by have h1 := h6.2.mp w; have h2 : ¬ zK z p < 6 := fun y => c6 (h6.1.mpr y); omega)]
      exact ⟨_, _, rfl, rfl, d1, d2, Or.inr ⟨1, zP z p, d3, d4, d5⟩⟩
