theorem RR_fin {Sx Sm S T : ST} {b : BK} (h : RR Sx Sm) (hx11 : S.1 11 = Sx.1 11) (hx24 : S.1 24 = Sx.1 24) (hxA : ∀ k, 13 ≤ k → k ≤ 33 → S.2.1 k = Sx.2.1 k) (hm18 : T.1 18 = Sm.1 18) (hm26 : T.1 26 = Sm.1 26) (hmA : ∀ k, 24 ≤ k → T.2.1 k = Sm.2.1 k) (h1 : S.1 1 = 0) (h2 : T.1 1 = 0) (h3 : S.1 0 = T.1 10) (hb : okB b) (hX : BX S b) (hM : BM T b) (hC : CM T b) : RR S T := by
  obtain ⟨-, -, ⟨n, hn, f1, f2, hf⟩, hK, hW, -⟩ := h
  have hr : RB S T := ⟨b, hb, hX, hM, hC⟩
  refine ⟨⟨0, by decide, h1, h2, fun j hj => absurd hj (Nat.not_lt_zero j)⟩, h3, ⟨n, hn, hx11.trans f1, hm18.trans f2, fun f hf' => factR_z (fun k hk => hxA k ?_ ?_) (fun k hk => hmA k ?_) (hf f hf')⟩, fun w hw => ?_, ⟨fun k hk => ?_, ?_⟩, hr⟩
  · simp at hk; omega
  · simp at hk; omega
  · simp at hk; omega
  · rw [hxA 27 (by decide) (by decide), hxA 26 (by decide) (by decide), hmA 34 (by decide), hmA 33 (by decide)]; exact hK w hw
  · rw [hxA 29 (by decide) (by decide), hxA 30 (by decide) (by decide), hmA 36 (by decide), hmA 37 (by decide)]; exact hW.1 k hk
  · rw [hx24, hm26, hxA 33 (by decide) (by decide), hmA 39 (by decide)]; exact hW.2
theorem sim_read {Sx Sm : ST} (h : RR Sx Sm) : ∃ r Sx' Sm', x11_read Sx = some (r, Sx') ∧ m_read Sm = some (r, Sm') ∧ RR Sx' Sm' := by
  obtain ⟨hZ, b, hb, hX, hM, hC⟩ := RR_un h
  obtain ⟨t, ht, e1, e2, hby⟩ := h.1
  have h6 := hb.1
  unfold x11_read m_read
  rw [hX.1, hM.1]
  by_cases cN : bkN b = 6
  · rw [cN, if_neg (show ¬ nI 6 < 6 from by decide), if_pos (show nI 6 = 6 from rfl)]
    exact ⟨_, _, _, rfl, rfl, h⟩
  have hN : bkN b ≤ 5 := by omega
  rw [if_pos (show nI (bkN b) < 6 from nI_lt (b := 6) (by omega) (by decide)), if_neg (show ¬ nI (bkN b) = 6 from fun w => cN ((nI_eq (b := 6) (by omega) (by decide)).mp w))]
  -- the bytes
  let c : Nat → Nat := fun i => (Sm.2.1 0 i &&& 255).toNatClampNeg
  have hcb : ∀ i, Sm.2.1 0 i &&& 255 = nI (c i) ∧ c i < 256 := fun i => by
    obtain ⟨j, hj, e⟩ := by255 (Sm.2.1 0 i)
    have : c i = j := by show (Sm.2.1 0 i &&& 255).toNatClampNeg = j; rw [e, nI_clamp (by omega)]
    rw [this]; exact ⟨e, hj⟩
  have hBX : BYX c t Sx := ⟨e1, ht, fun i hi => by rw [hby i hi]; exact hcb i⟩
  obtain ⟨e, he⟩ := FU_s (t + 1) (by omega)
  obtain ⟨T2, g1, g2, g3'⟩ := cpy22 (Sm := Sm) ht m_read_j48 e t 0 (by omega) (sI Sm 2 (nI t)) rfl rfl (fun x hx => absurd hx (Nat.not_lt_zero x))
  rw [e2]
  dsimp only
  rw [he, show (0 : Int32) = nI 0 from rfl, g1]
  have hBM : BYM c t (sI T2 1 0) := ⟨(g2.1 2 (by decide)).trans rfl, ht, fun i hi => by
    show T2.2.1 1 i &&& 255 = _ ∧ _
    rw [g3' i hi, vp_nar_byte, bp_b]; exact hcb i⟩
  have hkeys : ∀ k, k < 24 → (sI T2 1 0).2.2 1 k = lN (keyT.getD k 0) := fun k hk => by show T2.2.2 1 k = _; rw [g2.2.2 1 (by decide)]; exact hM.2.2.2 k hk
  obtain ⟨T3, n', c1, c2, c3, c4, c5⟩ := mcut hBM hkeys
  obtain ⟨S1, nx, d1, d2, d3, d4, d5, d6, d7, d8⟩ := xcut hBX
  let z : TZ := (tK c t, tP c t, tV c t, tN c t, nx)
  have hz : okZ z := ⟨d4, d5, fun q => tK_le c t q, fun q => Nat.le_trans (tP_le c t q) ht, fun q hq => tV_lt hq, fun q hq => tN_ok hq, d8⟩
  have hn' : nx ≤ n' := by
    rcases c5 with q | ⟨q1, q2⟩
    · omega
    · rcases Nat.lt_or_ge n' nx with w | w
      · exact absurd q2 (d7 (n' - 1) (by omega)).1
      · exact w
  obtain ⟨ce, hB3⟩ := BX_3 hX
  have k01 : kpX (ce (tb b (bkN b))) (tb b (bkN b)) Sx S1 := ⟨d2.1 4 (by decide), fun k hk => d2.2.1 k (by simp at hk; simp; omega), fun i _ => by rw [d2.2.1 1 (by decide)], fun i _ => by rw [d2.2.1 2 (by decide), d2.2.1 3 (by decide), d2.2.1 4 (by decide), d2.2.1 5 (by decide), d2.2.1 6 (by decide), d2.2.1 7 (by decide), d2.2.2 0 (by decide)]; exact ⟨rfl, rfl, rfl, rfl, rfl, rfl, rfl⟩⟩
  obtain ⟨S2, o1, o2⟩ := opn_t hb (BX3_k k01 hB3)
  have htb := tb_le hb (bkN b) (Nat.le_refl _)
  have hce := hB3.2.2.2.1 (bkN b) (Nat.le_refl _)
  have hS3t : tabX z (sI (sI S2 9 0) 10 (-1)) := ⟨⟨by rw [o2]; exact d3, rfl⟩, fun q hq => by rw [o2]; exact d6 q hq⟩
  have hX4 : lvX z (mvX (sI (sI S2 9 0) 10 (-1)) 0) 0 := mv_l hS3t (by show 0 < nx; omega) rfl
  have hmv := mv_y (p := 0) hz hS3t (by show 0 < nx; omega)
  -- the reference's start
  have t11 : T3.1 11 = nI (bkN b) := by rw [c2.1 11 (by decide)]; show T2.1 11 = _; rw [g2.1 11 (by decide)]; exact hM.1
  have hj48 : m_read_j48 T2 = mhd (sI (sI (sA (sA (sI (sI (sI (sI T3 4 0) 5 0) 6 0) 8 0) 5 (upd (T3.2.1 5) (bkN b) 0)) 6 (upd (T3.2.1 6) (bkN b) 0)) 12 (nI (140 * bkN b))) 13 (nI (400 * bkN b))) := by
    unfold m_read_j48
    dsimp only
    rw [c1, calV_s, show (sI (sI (sI (sI T3 4 0) 5 0) 6 0) 8 0).1 11 = nI (bkN b) from t11, G_in (by omega) (by decide), nI_clamp (by omega)]
    have w1 : ∀ U : Nat → Int32, (sA (sI (sI (sI (sI T3 4 0) 5 0) 6 0) 8 0) 5 U).1 11 = nI (bkN b) := fun _ => t11
    have w2 : ∀ U V : Nat → Int32, (sA (sA (sI (sI (sI (sI T3 4 0) 5 0) 6 0) 8 0) 5 U) 6 V).1 11 = nI (bkN b) := fun _ _ => t11
    have w3 : ∀ (U V : Nat → Int32) (x : Int32), (sI (sA (sA (sI (sI (sI (sI T3 4 0) 5 0) 6 0) 8 0) 5 U) 6 V) 12 x).1 11 = nI (bkN b) := fun _ _ _ => t11
    rw [w1, G_in (by omega) (by decide), nI_clamp (by omega), w2, show (140 : Int32) * nI (bkN b) = nI (140 * bkN b) from by rw [show (140 : Int32) = nI 140 from rfl, pk_mul], w3, show (400 : Int32) * nI (bkN b) = nI (400 * bkN b) from by rw [show (400 : Int32) = nI 400 from rfl, pk_mul]]
    rfl
  generalize hT4 : (sI (sI (sA (sA (sI (sI (sI (sI T3 4 0) 5 0) 6 0) 8 0) 5 (upd (T3.2.1 5) (bkN b) 0)) 6 (upd (T3.2.1 6) (bkN b) 0)) 12 (nI (140 * bkN b))) 13 (nI (400 * bkN b))) = T4 at hj48
  have gT4 : g3 [4, 5, 6, 8, 12, 13] [5, 6] [] T3 T4 := by rw [← hT4]; exact g3_tr (g3_I _ _ (by decide)) (g3_tr (g3_I _ _ (by decide)) (g3_tr (g3_I _ _ (by decide)) (g3_tr (g3_I _ _ (by decide)) (g3_tr (g3_A _ _ (by decide)) (g3_tr (g3_A _ _ (by decide)) (g3_tr (g3_I _ _ (by decide)) (g3_I _ _ (by decide))))))))
  have hM4 : lvM z T4 0 := ⟨fun q hq => by rw [gT4.2.1 2 (by decide), gT4.2.1 3 (by decide), gT4.2.1 4 (by decide), gT4.2.2 0 (by decide)]; exact c4 q (Nat.lt_of_lt_of_le hq hn'), by show 0 < nx; omega, by rw [← hT4]; rfl, by rw [← hT4]; rfl⟩
  have u11 : T4.1 11 = nI (bkN b) := (gT4.1 11 (by decide)).trans t11
  have u5 : T4.2.1 5 (bkN b) = nI 0 := by rw [← hT4]; exact pk_us
  have u6 : T4.2.1 6 (bkN b) = nI 0 := by rw [← hT4]; exact pk_us
  have o5 : ∀ k, k ≠ bkN b → T4.2.1 5 k = T3.2.1 5 k ∧ T4.2.1 6 k = T3.2.1 6 k := fun k hk => by rw [← hT4]; exact ⟨pk_un hk, pk_un hk⟩
  obtain ⟨S5, T5, l2, l3, h1, h2, h3, h4, h5, h6'⟩ := hdr hz hN hX4 hM4 u11 (by rw [← hT4]; rfl) u5
  have hparse : x2_parse Sx = x2_parse_j74 S5 l2 l3 := by
    rw [← h1]
    unfold x2_parse
    rw [d1, calV_s, o1, calV_s]
    dsimp only
    rw [show x2_moveTo (sI (sI S2 9 0) 10 (-1)) 0 = _ from hmv, calV_s]
    rfl
  rw [hparse, hj48, h2]
  unfold x2_parse_j74
  obtain ⟨e3, he3⟩ := FU_s (25 + 1) (by decide)
  -- frames of the starts
  have fS5 : g3 [2, 3, 6, 7, 8, 9, 10, 27] [35, 36] [1, 2] Sx S5 := g3_tr (g3_sub (by decide) (by decide) (by decide) d2) (g3_tr (by rw [o2]; exact g3_tr (g3_tr (g3_I _ _ (by decide)) (g3_I _ _ (by decide))) (g3_tr (g3_tr (g3_I _ _ (by decide)) (g3_I _ _ (by decide))) (g3_sub (by decide) (by decide) (by decide) (mvX_g _ 0)))) (g3_sub (by decide) (by decide) (by decide) h3))
  have fT5 : g3 [1, 2, 3, 4, 5, 6, 7, 8, 9, 12, 13] [1, 2, 3, 4, 5, 6] [0] Sm T5 := g3_tr (g3_I _ _ (by decide)) (g3_tr (g3_sub (by decide) (by decide) (by decide) g2) (g3_tr (g3_I _ _ (by decide)) (g3_tr (g3_sub (by decide) (by decide) (by decide) c2) (g3_tr (g3_sub (by decide) (by decide) (by decide) gT4) (g3_sub (by decide) (by decide) (by decide) h4)))))
  have x3 : S5.1 3 = nI (tb b (bkN b)) := by rw [h3.1 3 (by decide)]; show S2.1 3 = _; rw [o2]; rfl
  have x2' : S5.1 2 = nI (ce (tb b (bkN b))) := by rw [h3.1 2 (by decide)]; show S2.1 2 = _; rw [o2]; rfl
  have x4 : S5.1 4 = nI (bkN b) := by rw [fS5.1 4 (by decide)]; exact hX.1
  have y13 : T5.1 13 = nI (400 * bkN b) := by rw [h4.1 13 (by decide), ← hT4]; rfl
  have y12 : T5.1 12 = nI (140 * bkN b) := by rw [h4.1 12 (by decide), ← hT4]; rfl
  have y11 : T5.1 11 = nI (bkN b) := by rw [h4.1 11 (by decide)]; exact u11
  have y5 : T5.1 5 = 0 := by rw [h4.1 5 (by decide), ← hT4]; rfl
  have y6 : T5.2.1 6 (bkN b) = nI 0 := by rw [h4.2.1 6 (by decide)]; exact u6
  have y1 : T5.1 1 = 0 := by rw [h4.1 1 (by decide), gT4.1 1 (by decide), c2.1 1 (by decide)]; rfl
  have kT5 : kpM (400 * bkN b) (140 * bkN b) (24 * bkN b) (bkN b) Sm T5 := by
    refine ⟨fun i _ => by rw [fT5.2.1 18 (by decide), fT5.2.1 19 (by decide)]; exact ⟨rfl, rfl⟩, fun i _ => by rw [fT5.2.1 12 (by decide), fT5.2.1 13 (by decide), fT5.2.1 14 (by decide), fT5.2.1 15 (by decide), fT5.2.1 16 (by decide), fT5.2.1 17 (by decide)]; exact ⟨rfl, rfl, rfl, rfl, rfl, rfl⟩, fun i _ => by rw [fT5.2.1 7 (by decide), fT5.2.1 8 (by decide), fT5.2.1 9 (by decide), fT5.2.1 10 (by decide), fT5.2.1 11 (by decide), fT5.2.2 2 (by decide)]; exact ⟨rfl, rfl, rfl, rfl, rfl, rfl⟩, fun i hi => ⟨?_, ?_⟩, fT5.2.2 1 (by decide)⟩
    · rw [h5 i (by omega), (o5 i (by omega)).1, c2.2.1 5 (by decide)]; show T2.2.1 5 i = _; rw [g2.2.1 5 (by decide)]; rfl
    · rw [h4.2.1 6 (by decide), (o5 i (by omega)).2, c2.2.1 6 (by decide)]; show T2.2.1 6 i = _; rw [g2.2.1 6 (by decide)]; rfl
  -- the rest, from a fault or the text's end on
  have loop : ∃ S6 T6, x2_parse_h77 x2_parse_j112 FU S5 l2 l3 0 = x2_parse_j112 S6 l2 l3 ∧ m_read_h200 m_read_j222 FU T5 = m_read_j222 T6 ∧ XR (ce (tb b (bkN b))) (tb b (bkN b)) S5 S6 ∧ MR (400 * bkN b) (140 * bkN b) (24 * bkN b) (bkN b) T5 T6 ∧ ((∃ p v p' i' d' f' q', p ≤ 400 ∧ l2 = nI v ∧ v < 10000 ∧ T5.2.1 5 (bkN b) = nI v ∧ ((v < 100 ∧ T5.1 8 = 0) ∨ (100 ≤ v ∧ T5.1 8 = nI 5 ∧ ∃ pl, pl ≤ 2000 ∧ l3 = nI pl ∧ T5.1 9 = nI pl)) ∧ tIV z (bkN b) (tb b (bkN b)) (ce (tb b (bkN b))) (400 * bkN b) (140 * bkN b) S6 T6 p' i' d' f' q') ∨ ∃ f q, okD f q ∧ dX f q S6 ∧ dM f q T6) := by
    rw [he3]
    rcases h6' with ⟨p, v, w1, w2, w3, w4, w5, w6, w7⟩ | ⟨f, q, w1, w2, w3⟩
    · have hI : tIV z (bkN b) (tb b (bkN b)) (ce (tb b (bkN b))) (400 * bkN b) (140 * bkN b) S5 T5 p 0 (400 * bkN b) (140 * bkN b) (fun _ => ce (tb b (bkN b)), fun _ => 0, fun _ => [], fun _ => [], fun _ => []) := ⟨w2, w3, y5, x3, x4, x2', y13, y12, y11, y6, rfl, Nat.le_refl _, by show ce (tb b (bkN b)) ≤ _; omega, by omega, Nat.le_refl _, Nat.le_refl _, by omega, by decide, fun j hj => absurd hj (Nat.not_lt_zero j)⟩
      obtain ⟨S6, T6, i1, i2, i3, i4, i5⟩ := txl hz (by omega) (by omega) (by omega) hN (by omega) x2_parse_j112 m_read_j222 l2 l3 e3 e3 25 0 p S5 T5 _ _ _ (by omega) hI
      refine ⟨S6, T6, i1, i2, i3, i4, ?_⟩
      rcases i5 with ⟨p', i', d', f', q', i5⟩ | i5
      · exact Or.inl ⟨p, v, p', i', d', f', q', w1, w4, w5, w6, w7, i5⟩
      · exact Or.inr i5
    · obtain ⟨k1, k2⟩ := txd w1 w2 w3 x2_parse_j112 m_read_j222 l2 l3 (25 + e3) (25 + e3)
      rw [show 25 + 1 + e3 = 25 + e3 + 1 by omega]
      exact ⟨S5, T5, k1, k2, XR_rfl _ _ _, MR_rfl _ _ _ _ _, Or.inr ⟨f, q, w1, w2, w3⟩⟩
  obtain ⟨S6, T6, i1, i2, i3, i4, i5⟩ := loop
  rw [i1, i2]
  have kM6 : kpM (400 * bkN b) (140 * bkN b) (24 * bkN b) (bkN b) Sm T6 := kpM_tr kT5 (kpM_R i4)
  have k11 : T6.1 11 = nI (bkN b) := (i4.1.1 11 (by decide)).trans y11
  have xA6 : ∀ k, 8 ≤ k → k ≠ 12 → k ≤ 33 → S6.2.1 k = Sx.2.1 k := fun k hk hk2 hk3 => by rw [i3.1.2.1 k (by simp; omega), fS5.2.1 k (by simp; omega)]
  have xI6 : ∀ k, k ∈ [0, 1, 4, 11, 24] → S6.1 k = Sx.1 k := fun k hk => by
    have : k = 0 ∨ k = 1 ∨ k = 4 ∨ k = 11 ∨ k = 24 := by simpa using hk
    rw [i3.1.1 k (by simp; omega), fS5.1 k (by simp; omega)]
  have x1c : ∀ i, i < ce (tb b (bkN b)) → S6.2.1 1 i = Sx.2.1 1 i := fun i hi => by rw [i3.2.1 i hi, fS5.2.1 1 (by decide)]
  have x1r : ∀ i, i < tb b (bkN b) → S6.2.1 2 i = Sx.2.1 2 i ∧ S6.2.1 3 i = Sx.2.1 3 i ∧ S6.2.1 4 i = Sx.2.1 4 i ∧ S6.2.1 5 i = Sx.2.1 5 i ∧ S6.2.1 6 i = Sx.2.1 6 i ∧ S6.2.1 7 i = Sx.2.1 7 i ∧ S6.2.2 0 i = Sx.2.2 0 i := fun i hi => by
    obtain ⟨a1, a2, a3, a4, a5, a6, a7⟩ := i3.2.2 i hi
    rw [a1, a2, a3, a4, a5, a6, a7, fS5.2.1 2 (by decide), fS5.2.1 3 (by decide), fS5.2.1 4 (by decide), fS5.2.1 5 (by decide), fS5.2.1 6 (by decide), fS5.2.1 7 (by decide), fS5.2.2 0 (by decide)]
    exact ⟨rfl, rfl, rfl, rfl, rfl, rfl, rfl⟩
  have mA6 : ∀ k, 21 ≤ k → T6.2.1 k = Sm.2.1 k := fun k hk => by rw [i4.1.2.1 k (by simp; omega), fT5.2.1 k (by simp; omega)]
  have mI6 : ∀ k, 15 ≤ k → T6.1 k = Sm.1 k := fun k hk => by rw [i4.1.1 k (by simp; omega), fT5.1 k (by simp; omega)]
  have m16 : T6.1 1 = 0 := (i4.1.1 1 (by decide)).trans y1
  have hCm : ∀ T', T'.1 16 = T6.1 16 → T'.1 17 = T6.1 17 → T'.2.1 23 = T6.2.1 23 → CM T' b := fun T' a1 a2 a3 => by
    rcases hC with q | ⟨d, hd, q1, q2, q3⟩
    · exact Or.inl (by rw [a1, mI6 16 (by decide)]; exact q)
    · exact Or.inr ⟨d, hd, by rw [a1, mI6 16 (by decide)]; exact q1, by rw [a2, mI6 17 (by decide)]; exact q2, fun i hi => by rw [a3, mA6 23 (by decide)]; exact q3 i hi⟩
  -- a text that is refused
  have bad : ∀ (f : Int32) (pl : Int32) (S' : ST), (∀ k, k ∈ [4, 11, 24] → S'.1 k = S6.1 k) → S'.2 = S6.2 → S'.1 10 = pl → RR (sI (sI S' 0 (S'.1 10)) 1 0) (sI T6 10 pl) := by
    intro f pl S' a1 a2 a3
    have a2' : ∀ k, S'.2.1 k = S6.2.1 k := fun k => by rw [a2]
    have a2L : ∀ k, S'.2.2 k = S6.2.2 k := fun k => by rw [a2]
    refine RR_fin (b := b) h ?_ ?_ (fun k k1 k2 => ?_) (mI6 18 (by decide)) (mI6 26 (by decide)) (fun k hk => mA6 k (by omega)) rfl m16 a3 hb ?_ ?_ (hCm _ rfl rfl rfl)
    · exact (a1 11 (by decide)).trans (xI6 11 (by decide))
    · exact (a1 24 (by decide)).trans (xI6 24 (by decide))
    · show S'.2.1 k = _; rw [a2' k]; exact xA6 k (by omega) (by omega) k2
    · refine BX_kp hB3 hX ⟨?_, fun k hk => ?_, fun i hi => ?_, fun i hi => ?_⟩
      · exact (a1 4 (by decide)).trans (xI6 4 (by decide))
      · show S'.2.1 k = _
        rw [a2' k]
        have : k = 8 ∨ k = 9 ∨ k = 10 ∨ k = 11 := by simpa using hk
        exact xA6 k (by omega) (by omega) (by omega)
      · show S'.2.1 1 i = _; rw [a2' 1]; exact x1c i hi
      · show S'.2.1 2 i = _ ∧ S'.2.1 3 i = _ ∧ S'.2.1 4 i = _ ∧ S'.2.1 5 i = _ ∧ S'.2.1 6 i = _ ∧ S'.2.1 7 i = _ ∧ S'.2.2 0 i = _
        rw [a2' 2, a2' 3, a2' 4, a2' 5, a2' 6, a2' 7, a2L 0]
        exact x1r i hi
    · exact BM_kp hb hM kM6 (k11.trans hM.1.symm)
  unfold x2_parse_j112 x2_parse_j135 m_read_j222 m_read_j252
  dsimp only
  rcases i5 with ⟨p, v, p', i', d', f', q', w1, w4, w5, w6, w7, w8⟩ | ⟨f, q, w1, w2, w3⟩
  · obtain ⟨hX6, hM6, -, z3, z4, z2, z13, z12, z11, z6, zq0, zc0, zbc, zbd, zbd0, zbf, zb4, z24, zrs⟩ := w8
    have hp' := lv_4 hz hX6
    have r8 : T6.1 8 = T5.1 8 := i4.1.1 8 (by decide)
    have r9 : T6.1 9 = T5.1 9 := i4.1.1 9 (by decide)
    have rA5 : T6.2.1 5 (bkN b) = nI v := by rw [i4.1.2.1 5 (by decide)]; exact w6
    have r66 : ∀ s0 : Int32, (sI T6 10 s0).1 6 ≤ 0 := fun s0 => by show T6.1 6 ≤ 0; rw [hM6.2.2.2]; decide
    rw [if_pos hX6.2.2.2.2.2.2, if_pos (show T6.1 6 ≤ 0 from by rw [hM6.2.2.2]; decide), if_pos (r66 _), if_pos (r66 _), w4]
    rcases w7 with ⟨v1, v2⟩ | ⟨v1, v2, pl, v3, v4, v5⟩
    · have r80 : T6.1 8 ≤ 0 := by rw [r8, v2]; decide
      rw [if_pos (show nI v < 100 from nI_lt (b := 100) v1 (by decide)), if_pos r80, if_pos (show (sI T6 10 (-1)).1 8 ≤ 0 from r80), if_pos hX6.2.2.2.2.2.2]
      unfold x7_closeText
      rw [z4, if_neg (nI_pos (by omega)), if_pos (show nI (bkN b) < 6 from nI_lt (b := 6) (by omega) (by decide)), G_in (by omega) (by decide), nI_clamp (by omega)]
      dsimp only
      have w9 : ∀ U : Nat → Int32, (sA S6 8 U).1 4 = nI (bkN b) := fun _ => z4
      have w10 : ∀ U : Nat → Int32, (sA S6 8 U).1 3 = nI (tb b (bkN b) + i') := fun _ => z3
      have w11 : ∀ U V : Nat → Int32, (sA (sA S6 8 U) 9 V).1 4 = nI (bkN b) := fun _ _ => z4
      rw [w9, w10, G_in (by omega) (by decide), nI_clamp (by omega), w11, nI_1]
      generalize hS7 : sI (sA (sA S6 8 (upd (S6.2.1 8) (bkN b) (nI v))) 9 (upd ((sA S6 8 (upd (S6.2.1 8) (bkN b) (nI v))).2.1 9) (bkN b) (nI (tb b (bkN b) + i')))) 4 (nI (bkN b + 1)) = S7
      have gS7 : g3 [4] [8, 9] [] S6 S7 := by rw [← hS7]; exact g3_tr (g3_A _ _ (by decide)) (g3_tr (g3_A _ _ (by decide)) (g3_I _ _ (by decide)))
      have hb' : okB (bx b v i' q') := bx_ok hb hN v1 z24 (fun j hj => (zrs j hj).2.2.2)
      obtain ⟨ce', hB7⟩ := BX3_bx (S' := S7) (day := v) (n := i') (p := p') (q := q') hb hB3 (by rw [← hS7]; rfl) (fun k hk => by
        rw [← hS7]
        show upd (S6.2.1 8) (bkN b) _ k = _ ∧ upd (S6.2.1 9) (bkN b) _ k = _
        rw [pk_un (by omega), pk_un (by omega), xA6 8 (by decide) (by decide) (by decide), xA6 9 (by decide) (by decide) (by decide)]
        exact ⟨rfl, rfl⟩) (by rw [← hS7]; exact pk_us) (by rw [← hS7]; exact pk_us) (fun i hi => by rw [gS7.2.1 1 (by decide)]; exact x1c i hi) (fun i hi => by
        rw [gS7.2.1 2 (by decide), gS7.2.1 3 (by decide), gS7.2.1 4 (by decide), gS7.2.1 5 (by decide), gS7.2.1 6 (by decide), gS7.2.1 7 (by decide), gS7.2.2 0 (by decide)]
        exact x1r i hi) hp' zq0 zbc (fun j hj => by
        have := (zrs j hj).2.1
        unfold rwX at this ⊢
        rw [gS7.2.1 1 (by decide), gS7.2.1 2 (by decide), gS7.2.1 3 (by decide), gS7.2.1 4 (by decide), gS7.2.1 5 (by decide), gS7.2.1 6 (by decide), gS7.2.1 7 (by decide), gS7.2.2 0 (by decide)]
        exact this)
      have h110 : S7.2.1 11 0 = 0 := by
        rw [gS7.2.1 11 (by decide), xA6 11 (by decide) (by decide) (by decide)]
        have := (hX.2.2.2 0 (by decide)).1
        rw [lvD_0] at this
        exact this
      obtain ⟨S8, a1, a2, a3⟩ := xall hb' (BX3_E hb' hB7) h110
      rw [a1, calV_s, calV_s, cal_s]
      have b9 : S8.1 9 = 0 := by rw [a2.1 9 (by decide), gS7.1 9 (by decide)]; exact hX6.2.2.2.2.2.2
      have b10 : S8.1 10 = -1 := by rw [a2.1 10 (by decide), gS7.1 10 (by decide)]; exact hX6.1.1.2
      have k11' : (sI T6 10 (-1)).1 11 + 1 = nI (bkN b + 1) := by show T6.1 11 + 1 = _; rw [k11, nI_1]
      rw [k11', b9, b10]
      unfold m_changed
      rw [calV_s]
      refine ⟨0, _, _, rfl, rfl, ?_⟩
      refine RR_fin (b := bx b v i' q') h ?_ ?_ (fun k k1 k2 => ?_) (mI6 18 (by decide)) (mI6 26 (by decide)) (fun k hk => mA6 k (by omega)) rfl m16 rfl hb' ?_ ?_ (Or.inl rfl)
      · show S8.1 11 = _; rw [a2.1 11 (by decide), gS7.1 11 (by decide)]; exact xI6 11 (by decide)
      · show S8.1 24 = _; rw [a2.1 24 (by decide), gS7.1 24 (by decide)]; exact xI6 24 (by decide)
      · show S8.2.1 k = _; rw [a2.2.1 k (by simp; omega), gS7.2.1 k (by simp; omega)]; exact xA6 k (by omega) (by omega) k2
      · have := BX_of (BX3_fr a2 hB7) a3
        exact this
      · exact BM_bx (T' := sI (sI (sI T6 10 (-1)) 11 (nI (bkN b + 1))) 16 (-1)) hb hM kM6 rfl rA5 z6 (d := d') (f := f') (by omega) (by omega) (fun j hj => (zrs j hj).2.2.1)
    · have r80 : ¬ T6.1 8 ≤ 0 := by rw [r8, v2]; decide
      rw [if_neg (show ¬ nI v < 100 from nI_nlt (b := 100) v1 (by omega)), if_neg r80, if_neg (show ¬ (sI T6 10 (T6.1 9)).1 8 ≤ 0 from r80), if_neg (show ¬ (sI (sI S6 9 5) 10 l3).1 9 = 0 from (show ¬ (5 : Int32) = 0 from by decide)), cal_s, r9, v5, show (sI T6 10 (nI pl)).1 8 = nI 5 from by show T6.1 8 = _; rw [r8, v2]]
      refine ⟨5, _, _, rfl, rfl, ?_⟩
      exact bad 5 (nI pl) (sI (sI S6 9 5) 10 l3) (fun k hk => by
        have : k = 4 ∨ k = 11 ∨ k = 24 := by simpa using hk
        rcases this with rfl | rfl | rfl <;> rfl) rfl v4
  · have r66 : ∀ s0 : Int32, ¬ (sI T6 10 s0).1 6 ≤ 0 := fun s0 => dM1 w1 w3
    rw [if_neg (dX0 w1 w2), if_neg (dX0 w1 w2), cal_s, if_neg (dM1 w1 w3), if_neg (r66 _), w2.1, w3.2.1, show (sI T6 10 (nI q)).1 6 = nI f from w3.1]
    refine ⟨nI f, _, _, rfl, rfl, ?_⟩
    exact bad (nI f) (nI q) S6 (fun k hk => rfl) rfl w2.2
