def RX (Sx Sm S : ST) (t m k : Nat) (a : Nat → Nat) (st : RS) : Prop := qX S = qX Sx ∧ S.1 20 = nI t ∧ S.1 21 = nI m ∧ S.1 22 = nI st.2.1 ∧ S.1 23 = nI st.1 ∧ (∀ i, i < k → S.2.1 32 i = nI (a i)) ∧ (∀ r, r < 4 → S.2.1 31 r = nI (ffr (spN Sm) a r k)) ∧ (st.2.1 ≠ 100 → ∀ i, i < t → S.2.1 33 i = nI (st.2.2 i)) ∧ st.1 ≤ 8 ∧ st.2.1 ≤ 100
def fXr (S : ST) (m d k : Nat) (a : Nat → Nat) : Nat → RS → RS := fun r s => if (okR S a k r && decide (max (endR (spN S) a k) (k + spN S r) < s.2.1)) = true then vX S m d (k + 1) (upn a k r) s else s
def SRCH (Sx Sm : ST) (t m d n : Nat) : Prop := ∀ k, k + d = t → ∀ S a st, RX Sx Sm S t m k a st → ∃ S', x6_searchN n S (nI k) (nI (endR (spN Sm) a k)) = some S' ∧ RX Sx Sm S' t m k a (vX Sm m d k a st)
theorem okX {Sx Sm S : ST} (hV : RV Sx Sm) (hq : qX S = qX Sx) {t m k r : Nat} (hr : r < 4) {a : Nat → Nat} {st : RS} (h : RX Sx Sm S t m k a st) (hk : k < 8) {α : Type} (A B : α) : (if nI k < S.2.1 31 r then A else if ((S.2.1 30 r) >>> (nI k &&& 31)) &&& 1 = 0 then (if nI st.2.1 ≤ nI (max (endR (spN Sm) a k) (k + spN Sm r)) then A else B) else A) = if (okR Sm a k r && decide (max (endR (spN Sm) a k) (k + spN Sm r) < st.2.1)) = true then B else A := by
  have b1 := endR_le Sm a k
  have b2 := spN_le Sm r
  have b3 := ffr_le Sm a r k
  have b4 := h.2.2.2.2.2.2.2.2.2
  rw [h.2.2.2.2.2.2.1 r hr, (qX_A hq).2, (RV_sp hV hr).2.2, okR, ffr_blk _ _ _ _ k (Nat.le_refl _), cbN]
  by_cases c1 : k < ffr (spN Sm) a r k
  · rw [if_pos (nI_lt c1 (by omega)), decide_eq_true c1]; simp
  · rw [if_neg (nI_nlt (by omega) (by omega)), decide_eq_false c1]
    rcases and1 ((Sm.2.1 37 r) >>> (nI k &&& 31)) with z | z
    · rw [if_pos z, z]
      by_cases c2 : max (endR (spN Sm) a k) (k + spN Sm r) < st.2.1
      · rw [if_neg (nI_ge c2 (by omega)), decide_eq_true c2]; rfl
      · rw [if_pos (nI_le (by omega) (by omega)), decide_eq_false c2]; simp
    · rw [z, if_neg (by decide)]; simp
theorem srch_loop {Sx Sm : ST} (hV : RV Sx Sm) {t m d n : Nat} (ht : t ≤ 8) (hm : m ≤ 4) (hR : SRCH Sx Sm t m d n) {k : Nat} (hk : k + d + 1 = t) (e : Nat) : ∀ j r, r + j = m → ∀ S a st, RX Sx Sm S t m k a st → ∃ S', x6_search_h53 (x6_searchN n) (j + 1 + e) S (nI k) (nI (endR (spN Sm) a k)) (nI r) = some S' ∧ RX Sx Sm S' t m k a (lpR (fXr Sm m d k a) j r st) := by
  intro j
  induction j with
  | zero => intro r hr S a st h; exact ⟨S, by rw [show 0 + 1 + e = e + 1 by omega, x6_search_h53, h.2.2.1, if_pos (nI_le (by omega) (by omega))], h⟩
  | succ j ih =>
    intro r hr S a st h
    have hr4 : r < 4 := by omega
    have b1 := endR_le Sm a k
    have b2 := spN_le Sm r
    have e1 : (if nI (endR (spN Sm) a k) < nI (k + spN Sm r) then nI (k + spN Sm r) else nI (endR (spN Sm) a k)) = nI (max (endR (spN Sm) a k) (k + spN Sm r)) := by
      by_cases c : endR (spN Sm) a k < k + spN Sm r
      · rw [if_pos (nI_lt c (by omega)), Nat.max_eq_right (by omega)]
      · rw [if_neg (nI_nlt (by omega) (by omega)), Nat.max_eq_left (by omega)]
    rw [show j + 1 + 1 + e = (j + 1 + e) + 1 by omega, x6_search_h53, h.2.2.1, if_neg (nI_ge (by omega) (by omega)), lpR]
    unfold x6_search_j155
    simp only [G_in hr4 (by decide : 4 < 2 ^ 31), nI_clamp (show r < 2 ^ 31 by omega), (qX_A h.1).1, (RV_sp hV hr4).2.1, nI_add, e1, nI_1, h.2.2.2.1, G_in (show k < 8 by omega) (by decide : 8 < 2 ^ 31), nI_clamp (show k < 2 ^ 31 by omega)]
    rw [okX hV h.1 hr4 h (by omega)]
    by_cases c : (okR Sm a k r && decide (max (endR (spN Sm) a k) (k + spN Sm r) < st.2.1)) = true
    · have ef : fXr Sm m d k a r st = vX Sm m d (k + 1) (upn a k r) st := by unfold fXr; rw [if_pos c]
      rw [if_pos c, ef, ← endR_u]
      obtain ⟨p1, p2, p3, p4, p5, p6, p7, p8, p9, p10⟩ := h
      obtain ⟨S2, g1, g2⟩ := hR (k + 1) (by omega) (sA (sA S 31 (upd (S.2.1 31) r (nI (k + spN Sm r + 1)))) 32 (upd (S.2.1 32) k (nI r))) (upn a k r) st ⟨p1, p2, p3, p4, p5, fun i hi => by
        show upd (S.2.1 32) k (nI r) i = _
        by_cases q : i = k
        · rw [q, pk_us, upn_s]
        · rw [pk_un q, upn_n a q]; exact p6 i (by omega), fun r' hr' => by
        show upd (S.2.1 31) r _ r' = _
        rw [ffr_u]
        by_cases q : r = r'
        · rw [if_pos q, ← q, pk_us]
        · rw [if_neg q, pk_un (fun z => q z.symm)]; exact p7 r' hr', p8, p9, p10⟩
      rw [show (sA S 31 (upd (S.2.1 31) r (nI (k + spN Sm r + 1)))).2.1 32 = S.2.1 32 from rfl, g1, calV_s, p7 r hr4]
      refine ih (r + 1) (by omega) _ a _ ?_
      obtain ⟨q1, q2, q3, q4, q5, q6, q7, q8, q9, q10⟩ := g2
      refine ⟨q1, q2, q3, q4, q5, fun i hi => ?_, fun r' hr' => ?_, q8, q9, q10⟩
      · show S2.2.1 32 i = _
        rw [q6 i (by omega), upn_n a (by omega)]
      · show upd (S2.2.1 31) r _ r' = _
        by_cases q : r' = r
        · rw [q, pk_us]
        · rw [pk_un q, q7 r' hr', ffr_u, if_neg (fun z => q z.symm)]
    · have ef : fXr Sm m d k a r st = st := by unfold fXr; rw [if_neg c]
      rw [if_neg c, ef]
      exact ih (r + 1) (by omega) S a st h
theorem srch {Sx Sm : ST} (hV : RV Sx Sm) {t m : Nat} (ht : t ≤ 8) (hm : m ≤ 4) : ∀ d n, d < n → SRCH Sx Sm t m d n := by
  intro d
  induction d with
  | zero =>
    intro n hn k hk S a st h
    obtain ⟨n, rfl⟩ : ∃ q, n = q + 1 := ⟨n - 1, by omega⟩
    have b1 := endR_le Sm a k
    obtain ⟨p1, p2, p3, p4, p5, p6, p7, p8, p9, p10⟩ := h
    have e1 : (if S.1 23 < nI k then nI k else S.1 23) = nI (max st.1 k) := by
      rw [p5]
      by_cases c : st.1 < k
      · rw [if_pos (nI_lt c (by omega)), Nat.max_eq_right (by omega)]
      · rw [if_neg (nI_nlt (by omega) (by omega)), Nat.max_eq_left (by omega)]
    rw [x6_searchN]
    unfold x6_search
    rw [e1]
    have e20 : (sI S 23 (nI (max st.1 k))).1 20 = nI t := p2
    simp only [e20]
    rw [if_neg (nI_pos (by omega)), if_pos (nI_le (by omega) (by omega))]
    refine ⟨_, rfl, p1, p2, p3, rfl, rfl, p6, p7, fun _ i hi => ?_, by show max st.1 k ≤ 8; omega, by show endR (spN Sm) a k ≤ 100; omega⟩
    show va_cpy (S.2.1 32) (S.2.1 33) 0 0 8 i = nI (a i)
    rw [pk_cpy_in (by omega) (by omega), Nat.zero_add, Nat.sub_zero, p6 i (by omega)]
  | succ d ih =>
    intro n hn k hk S a st h
    obtain ⟨n, rfl⟩ : ∃ q, n = q + 1 := ⟨n - 1, by omega⟩
    obtain ⟨p1, p2, p3, p4, p5, p6, p7, p8, p9, p10⟩ := h
    have e1 : (if S.1 23 < nI k then nI k else S.1 23) = nI (max st.1 k) := by
      rw [p5]
      by_cases c : st.1 < k
      · rw [if_pos (nI_lt c (by omega)), Nat.max_eq_right (by omega)]
      · rw [if_neg (nI_nlt (by omega) (by omega)), Nat.max_eq_left (by omega)]
    obtain ⟨e, he⟩ := FU_s (m + 1) (by omega)
    obtain ⟨S', g1, g2⟩ := srch_loop hV ht hm (ih n (by omega)) (k := k) (by omega) e m 0 (by omega) (sI S 23 (nI (max st.1 k))) a (max st.1 k, st.2) ⟨p1, p2, p3, p4, rfl, p6, p7, p8, by show max st.1 k ≤ 8; omega, p10⟩
    refine ⟨S', ?_, g2⟩
    rw [x6_searchN]
    unfold x6_search
    rw [e1]
    have e20 : (sI S 23 (nI (max st.1 k))).1 20 = nI t := p2
    simp only [e20]
    rw [if_neg (nI_pos (by omega)), if_neg (nI_ge (by omega) (by omega)), if_pos (show nI k < 8 from nI_lt (b := 8) (by omega) (by decide)), he]
    exact g1
theorem arr_h32 (K : ST → Option (Int32 × ST)) (S : ST) : x6_arrange_h32 K FU S 0 = K (sA S 31 (upd (upd (upd (upd (S.2.1 31) 0 0) 1 0) 2 0) 3 0)) := by
  obtain ⟨e, he⟩ := FU_s 5 (by decide)
  rw [he, show 5 + e = e + 1 + 1 + 1 + 1 + 1 by omega]
  show K (sA (sA (sA (sA S 31 (upd (S.2.1 31) 0 0)) 31 (upd (upd (S.2.1 31) 0 0) 1 0)) 31 (upd (upd (upd (S.2.1 31) 0 0) 1 0) 2 0)) 31 (upd (upd (upd (upd (S.2.1 31) 0 0) 1 0) 2 0) 3 0)) = _
  unfold sA
  rw [bx_uu, bx_uu, bx_uu]
theorem sim_roster {Sx Sm : ST} (h : RR Sx Sm) (a0 a1 : Int32) : ∃ r Sx' Sm', x11_roster Sx a0 a1 = some (r, Sx') ∧ m_roster Sm a0 a1 = some (r, Sm') ∧ RR Sx' Sm' := by
  obtain ⟨hT, hP, hF, hK, ⟨hV, q, hq, w1, w2, w3⟩, hB⟩ := id h
  unfold x11_roster m_roster
  by_cases c1 : rn1 a0 8
  · obtain ⟨t, ht1, ht2, rfl⟩ := c1
    rw [if_neg (show ¬ nI t < 1 from nI_nlt (b := 1) ht1 (by omega)), if_neg (show ¬ (8 : Int32) < nI t from nI_nlt (a := 8) ht2 (by decide)), show m_in (nI t) 1 8 = some 1 from in_y ht1 ht2 (by decide), cal0_s, if_neg (show ¬ (1 : Int32) = 0 by decide)]
    by_cases c2 : rn1 a1 4
    · obtain ⟨m, hm1, hm2, rfl⟩ := c2
      rw [if_neg (show ¬ nI m < 1 from nI_nlt (b := 1) hm1 (by omega)), if_pos (show nI m ≤ 4 from nI_le (b := 4) hm2 (by decide)), show m_in (nI m) 1 4 = some 1 from in_y hm1 hm2 (by decide), cal0_s, if_neg (show ¬ (1 : Int32) = 0 by decide)]
      simp only [G_t (show inb 0 8 = true from rfl), z0]
      obtain ⟨S2, g1, g2⟩ := mros_eq hV ht1 ht2 hm2
      rw [show (sI Sm 26 0).2.1 38 = Sm.2.1 38 from rfl, g2]
      unfold x6_arrange
      simp only [if_neg (show ¬ (8 : Int32) < nI t from nI_nlt (a := 8) ht2 (by decide)), if_neg (show ¬ (4 : Int32) < nI m from nI_nlt (a := 4) hm2 (by decide)), arr_h32]
      unfold x6_arrange_j50
      obtain ⟨S3, g3, g4⟩ := srch hV ht2 hm2 t 20 (by omega) 0 (by omega) (sA (sI (sI (sI (sI Sx 20 (nI t)) 21 (nI m)) 22 100) 23 0) 31 (upd (upd (upd (upd (Sx.2.1 31) 0 0) 1 0) 2 0) 3 0)) (fun _ => 0) st0 ⟨rfl, rfl, rfl, rfl, rfl, fun i hi => absurd hi (Nat.not_lt_zero i), fun r hr => by
        rcases (show r = 0 ∨ r = 1 ∨ r = 2 ∨ r = 3 by omega) with rfl | rfl | rfl | rfl <;> rfl, fun q => absurd rfl q, by decide, by decide⟩
      rw [show x6_searchN 20 (sA (sI (sI (sI (sI Sx 20 (nI t)) 21 (nI m)) 22 100) 23 0) 31 (upd (upd (upd (upd ((sI (sI (sI (sI Sx 20 (nI t)) 21 (nI m)) 22 100) 23 0).2.1 31) 0 0) 1 0) 2 0) 3 0)) 0 0 = some S3 from g3, calV_s]
      have key := vMX Sm m t 0 (fun _ => 0) st0 st0 (by omega) (show 0 < 100 by decide) rfl (fun _ => rfl)
      obtain ⟨y1, y2, y3, y4, y5, y6, y7⟩ := g1
      obtain ⟨x1, x2, x3, x4, x5, x6, x7, x8, x9, x10⟩ := g4
      obtain ⟨k1, k2⟩ := key
      have hY : RY Sx Sm := ⟨hT, hP, hF, hK, hV, hB⟩
      unfold x6_arrange_j74 m_roster_j241
      rw [x4]
      by_cases c3 : (vX Sm m t 0 (fun _ => 0) st0).2.1 = 100
      · have c4 : (vM Sm m t 0 (fun _ => 0) st0).2.1 = 100 := by rw [k1]; exact c3
        rw [c3, if_pos (show nI 100 = 100 from rfl), show bN (vM Sm m t 0 (fun _ => 0) st0).2.1 = -1 from by rw [bN, if_pos c4], if_pos rfl]
        have e22 : (sI S3 24 0).1 22 = 100 := by show S3.1 22 = 100; rw [x4, c3]; rfl
        have e23 : (sI S3 24 0).1 23 = nI (vM Sm m t 0 (fun _ => 0) st0).1 := by show S3.1 23 = _; rw [x5, k2 c4]
        simp only [e22, e23, if_true, cal_s]
        obtain ⟨r1, r2, r3, r4, r5, r6⟩ := RY_keep hY (show qX (sI S3 24 0) = qX Sx from x1) y1
        refine ⟨_, _, _, rfl, rfl, r1, r2, r3, r4, ⟨r5, 0, by omega, rfl, ?_, fun i hi => absurd hi (Nat.not_lt_zero i)⟩, r6⟩
        rw [y4, if_pos c4]; rfl
      · have c4 : ¬ (vM Sm m t 0 (fun _ => 0) st0).2.1 = 100 := by rw [k1]; exact c3
        have ne : ¬ nI (vX Sm m t 0 (fun _ => 0) st0).2.1 = 100 := fun z => c3 ((nI_eq (by omega) (by decide)).mp (show _ = nI 100 from z))
        rw [if_neg ne, x2, show bN (vM Sm m t 0 (fun _ => 0) st0).2.1 = nI (vM Sm m t 0 (fun _ => 0) st0).2.1 from by rw [bN, if_neg c4], if_neg (nI_m1 (by omega))]
        have e22 : (sI S3 24 (nI t)).1 22 = nI (vX Sm m t 0 (fun _ => 0) st0).2.1 := x4
        simp only [e22, if_neg ne, cal_s, k1]
        obtain ⟨r1, r2, r3, r4, r5, r6⟩ := RY_keep hY (show qX (sI S3 24 (nI t)) = qX Sx from x1) y1
        refine ⟨_, _, _, rfl, rfl, r1, r2, r3, r4, ⟨r5, t, by omega, rfl, ?_, fun i hi => ?_⟩, r6⟩
        · rw [y4, if_neg c4]
        · show S3.2.1 33 i = _
          rw [x8 c3 i hi, y5 c4 i hi, k1]
    · rw [show m_in a1 1 4 = some 0 from in1_n (by decide) c2, cal0_s, if_pos rfl]
      refine ⟨-100, Sx, Sm, ?_, rfl, h⟩
      rcases rn1_no (by decide) c2 with z | z
      · rw [if_pos (show a1 < 1 from z)]
      · by_cases z2 : a1 < 1
        · rw [if_pos z2]
        · rw [if_neg z2, if_neg (fun q => Int32.not_le.mpr (show (4 : Int32) < a1 from z) q)]
  · rw [show m_in a0 1 8 = some 0 from in1_n (by decide) c1, cal0_s, if_pos rfl]
    refine ⟨-100, Sx, Sm, ?_, rfl, h⟩
    rcases rn1_no (by decide) c1 with z | z
    · rw [if_pos (show a0 < 1 from z)]
    · by_cases z2 : a0 < 1
      · rw [if_pos z2]
      · rw [if_neg z2, if_pos (show (8 : Int32) < a0 from z)]
