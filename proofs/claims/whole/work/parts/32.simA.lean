theorem sim_place {Sx Sm : ST} (h : RR Sx Sm) : ∃ r Sx' Sm', x11_place Sx = some (r, Sx') ∧ m_place Sm = some (r, Sm') ∧ RR Sx' Sm' := ⟨Sx.1 0, Sx, Sm, rfl, by unfold m_place; rw [show Sm.1 10 = Sx.1 0 from h.2.1.symm], h⟩
theorem sim_back {Sx Sm : ST} (h : RR Sx Sm) (a0 : Int32) : ∃ r Sx' Sm', x11_back Sx a0 = some (r, Sx') ∧ m_back Sm a0 = some (r, Sm') ∧ RR Sx' Sm' := by
  obtain ⟨⟨t, ht, e1, e2, hb⟩, hP, hF, hK, hW, hB⟩ := id h
  unfold x11_back m_back
  by_cases c1 : a0 < 0
  · rw [if_pos c1, if_pos c1]; exact ⟨_, _, _, rfl, rfl, h⟩
  · rw [if_neg c1, if_neg c1, e1, e2]
    by_cases c2 : a0 ≤ nI t
    · rw [if_pos c2, if_pos c2]
      obtain ⟨j, hj, rfl⟩ := nI_of c1
      have hjt : j ≤ t := (nI_leI hj (by omega)).mp c2
      refine ⟨nI t - nI j, _, _, rfl, rfl, ⟨t - j, by omega, ?_, ?_, fun i hi => hb i (by omega)⟩, hP, hF, hK, hW, hB⟩
      · show nI t - nI j = nI (t - j); rw [pk_sub hjt]
      · show nI t - nI j = nI (t - j); rw [pk_sub hjt]
    · rw [if_neg c2, if_neg c2]; exact ⟨_, _, _, rfl, rfl, h⟩
theorem FU_s (k : Nat) (h : k ≤ 200000) : ∃ e, FU = k + e := ⟨200000 - k, by unfold FU; omega⟩
theorem x8_empty_eq (S : ST) : x8_empty S = some (sA (sA (sA S 27 (upd (S.2.1 27) 0 0)) 27 (upd (upd (S.2.1 27) 0 0) 1 0)) 27 (upd (upd (upd (S.2.1 27) 0 0) 1 0) 2 0)) := by
  obtain ⟨e, he⟩ := FU_s 4 (by decide)
  unfold x8_empty
  rw [he, show 4 + e = e + 1 + 1 + 1 + 1 by omega]
  rfl
theorem m_clear_eq (S : ST) : m_clear S = some (sA (sA (sA S 34 (upd (S.2.1 34) 0 0)) 34 (upd (upd (S.2.1 34) 0 0) 1 0)) 34 (upd (upd (upd (S.2.1 34) 0 0) 1 0) 2 0)) := by
  obtain ⟨e, he⟩ := FU_s 4 (by decide)
  unfold m_clear
  rw [he, show 4 + e = e + 1 + 1 + 1 + 1 by omega]
  rfl
theorem sim_clear {Sx Sm : ST} (h : RR Sx Sm) : ∃ Sx' Sm', x11_clear Sx = some Sx' ∧ m_clear Sm = some Sm' ∧ RR Sx' Sm' := by
  obtain ⟨hT, hP, hF, hK, hW, hB⟩ := h
  unfold x11_clear
  rw [x8_empty_eq, m_clear_eq, calV_s]
  refine ⟨_, _, rfl, rfl, hT, hP, hF, fun w hw => ⟨0, by omega, ?_, ?_, fun i hi => absurd hi (Nat.not_lt_zero i)⟩, hW, hB⟩
  · rcases (show w = 0 ∨ w = 1 ∨ w = 2 by omega) with rfl | rfl | rfl <;> rfl
  · rcases (show w = 0 ∨ w = 1 ∨ w = 2 by omega) with rfl | rfl | rfl <;> rfl
theorem lengthOf_y (S : ST) {w : Nat} (hw : w < 3) : x8_lengthOf S (nI w) = some (S.2.1 27 w, S) := by
  unfold x8_lengthOf
  rw [if_neg (nI_pos (by omega)), if_neg (show ¬ (3 : Int32) ≤ nI w from nI_ge hw (by decide)), G_in hw (by decide), nI_clamp (by omega)]
theorem sim_count {Sx Sm : ST} (h : RR Sx Sm) (a0 : Int32) : ∃ r Sx' Sm', x11_count Sx a0 = some (r, Sx') ∧ m_count Sm a0 = some (r, Sm') ∧ RR Sx' Sm' := by
  obtain ⟨⟨t, ht, e1, e2, hb⟩, hP, ⟨n, hn, f1, f2, hf⟩, hK, hW, hB⟩ := id h
  obtain ⟨c0, -, k0, l0, -⟩ := hK 0 (by decide)
  obtain ⟨c1, -, k1, l1, -⟩ := hK 1 (by decide)
  obtain ⟨c2, -, k2, l2, -⟩ := hK 2 (by decide)
  unfold x11_count m_count
  have hB1 : Sx.1 4 = Sm.1 11 := by
    rw [RBp_eq] at hB
    obtain ⟨b, -, h1, h2, -⟩ := hB
    rw [h1.1, h2.1]
  by_cases q0 : a0 = 0
  · rw [if_pos q0, if_pos q0, f1, f2]; exact ⟨_, _, _, rfl, rfl, h⟩
  rw [if_neg q0, if_neg q0]
  by_cases q1 : a0 = 1
  · rw [if_pos q1, if_pos q1, hB1]; exact ⟨_, _, _, rfl, rfl, h⟩
  rw [if_neg q1, if_neg q1]
  by_cases q2 : a0 = 2
  · rw [if_pos q2, if_pos q2, e1, e2]; exact ⟨_, _, _, rfl, rfl, h⟩
  rw [if_neg q2, if_neg q2]
  by_cases q3 : a0 = 3
  · subst q3
    rw [if_pos rfl, if_pos rfl, show ((3 : Int32) - 3) = nI 0 from rfl, lengthOf_y Sx (by decide), cal_s, G_t (show inb 0 3 = true from rfl), show Int32.toNatClampNeg 0 = 0 from rfl, k0, l0]
    exact ⟨_, _, _, rfl, rfl, h⟩
  rw [if_neg q3, if_neg q3]
  by_cases q4 : a0 = 4
  · subst q4
    rw [if_pos rfl, if_pos rfl, show ((4 : Int32) - 3) = nI 1 from rfl, lengthOf_y Sx (by decide), cal_s, G_t (show inb 1 3 = true from rfl), show Int32.toNatClampNeg 1 = 1 from rfl, k1, l1]
    exact ⟨_, _, _, rfl, rfl, h⟩
  rw [if_neg q4, if_neg q4]
  by_cases q5 : a0 = 5
  · subst q5
    rw [if_pos rfl, if_pos rfl, show ((5 : Int32) - 3) = nI 2 from rfl, lengthOf_y Sx (by decide), cal_s, G_t (show inb 2 3 = true from rfl), show Int32.toNatClampNeg 2 = 2 from rfl, k2, l2]
    exact ⟨_, _, _, rfl, rfl, h⟩
  rw [if_neg q5, if_neg q5]
  exact ⟨_, _, _, rfl, rfl, h⟩
theorem sim_turn {Sx Sm : ST} (h : RR Sx Sm) (a0 : Int32) : ∃ r Sx' Sm', x11_turn Sx a0 = some (r, Sx') ∧ m_turn Sm a0 = some (r, Sm') ∧ RR Sx' Sm' := by
  obtain ⟨hT, hP, hF, hK, ⟨hw1, q, hq, e1, e2, hw2⟩, hB⟩ := id h
  unfold x11_turn m_turn x6_taker
  rw [e1, e2]
  by_cases c : rng a0 q
  · obtain ⟨j, hj, rfl⟩ := c
    rw [if_neg (nI_pos (by omega)), if_neg (nI_ge hj (by omega)), if_neg (show ¬ (8 : Int32) ≤ nI j from nI_ge (b := 8) (by omega) (by decide)), G_in (by omega) (by decide), cal_s, show nI q - 1 = nI (q - 1) from by rw [show (1 : Int32) = nI 1 from rfl, pk_sub (by omega)], show m_in (nI j) 0 (nI (q - 1)) = some 1 from in_y (Nat.zero_le j) (by omega) (by omega), cal0_s, if_neg (by decide), G_in (by omega) (by decide), nI_clamp (by omega), hw2 j hj]
    exact ⟨_, _, _, rfl, rfl, h⟩
  · have hx : (if a0 < 0 then some ((-1 : Int32), Sx) else if nI q ≤ a0 then some (-1, Sx) else if (8 : Int32) ≤ a0 then some (-1, Sx) else G (inb a0 8) (some (Sx.2.1 33 a0.toNatClampNeg, Sx))) = some (-1, Sx) := by
      rcases not_rng (by omega) c with z | z
      · rw [if_pos z]
      · by_cases z2 : a0 < 0
        · rw [if_pos z2]
        · rw [if_neg z2, if_pos z]
    have hm : m_in a0 0 (nI q - 1) = some 0 := by
      unfold m_in
      rcases not_rng (by omega) c with z | z
      · rw [if_pos z]
      · by_cases z2 : a0 < 0
        · rw [if_pos z2]
        · rw [if_neg z2, if_pos]
          rw [Int32.le_iff_toInt_le, nI_toInt (by omega)] at z
          rw [Int32.lt_iff_toInt_lt, show (1 : Int32) = nI 1 from rfl, pk_sub_toInt (by omega) (by decide)]
          omega
    rw [hx, hm, cal_s, cal0_s, if_pos rfl]
    exact ⟨_, _, _, rfl, rfl, h⟩
theorem i10 : ((1 : Int32) = 0) = False := eq_false (by decide)
theorem sim_reporter {Sx Sm : ST} (h : RR Sx Sm) (a0 a1 a2 : Int32) : ∃ r Sx' Sm', x11_reporter Sx a0 a1 a2 = some (r, Sx') ∧ m_reporter Sm a0 a1 a2 = some (r, Sm') ∧ RR Sx' Sm' := by
  obtain ⟨hT, hP, hF, hK, ⟨hw1, hw2⟩, hB⟩ := id h
  unfold x11_reporter m_reporter
  by_cases c1 : rng a0 4
  · obtain ⟨j, hj, rfl⟩ := c1
    simp only [show x11_isBelow (nI j) 4 = some 1 from below_y hj (by decide), show m_in (nI j) 0 3 = some 1 from in_y (b := 3) (Nat.zero_le j) (by omega) (by decide), cal0_s, i10, if_false]
    by_cases c2 : rn1 a1 6
    · obtain ⟨v, hv1, hv2, rfl⟩ := c2
      simp only [show ¬ nI v < 1 from nI_nlt hv1 (by omega), show ¬ (6 : Int32) < nI v from nI_nlt hv2 (by decide), show m_in (nI v) 1 6 = some 1 from in_y hv1 hv2 (by decide), cal0_s, i10, if_false]
      by_cases c3 : rng a2 256
      · obtain ⟨b, hb, rfl⟩ := c3
        simp only [show x11_isBelow (nI b) 256 = some 1 from below_y hb (by decide), show m_in (nI b) 0 255 = some 1 from in_y (b := 255) (Nat.zero_le b) (by omega) (by decide), cal0_s, i10, if_false]
        unfold x6_setReporter
        simp only [show ¬ nI j < 0 from nI_pos (by omega), show ¬ (4 : Int32) ≤ nI j from nI_ge hj (by decide), if_false, G_in hj (by decide : 4 < 2 ^ 31), calV_s, nI_clamp (show j < 2 ^ 31 by omega)]
        refine ⟨1, _, _, rfl, rfl, hT, hP, hF, hK, ⟨fun k hk => ?_, hw2⟩, hB⟩
        obtain ⟨k1, k2, k3, k4⟩ := hw1 k hk
        show upd (Sx.2.1 29) j (nI v) k = upd (Sm.2.1 36) j (nI v) k ∧ rn1 (upd (Sm.2.1 36) j (nI v) k) 6 ∧ upd (Sx.2.1 30) j (nI b) k = upd (Sm.2.1 37) j (nI b) k ∧ rng (upd (Sm.2.1 37) j (nI b) k) 256
        by_cases z : k = j
        · subst z
          rw [pk_us, pk_us, pk_us, pk_us]
          exact ⟨rfl, ⟨v, hv1, hv2, rfl⟩, rfl, ⟨b, hb, rfl⟩⟩
        · rw [pk_un z, pk_un z, pk_un z, pk_un z]
          exact ⟨k1, k2, k3, k4⟩
      · simp only [show x11_isBelow a2 256 = some 0 from below_n (by decide) c3, show m_in a2 0 255 = some 0 from in_n (by decide) c3, cal0_s, if_true]
        exact ⟨_, _, _, rfl, rfl, h⟩
    · simp only [show m_in a1 1 6 = some 0 from in1_n (by decide) c2, cal0_s, if_true]
      have z : (if a1 < 1 then some ((0 : Int32), Sx) else if (6 : Int32) < a1 then some (0, Sx) else cal0 (x11_isBelow a2 256) fun r23 => if r23 = 0 then some (0, Sx) else calV (x6_setReporter Sx (nI j) a1 a2) fun S38 => some (1, S38)) = some (0, Sx) := by
        rcases rn1_no (by decide) c2 with z | z
        · rw [if_pos (show a1 < 1 from z)]
        · by_cases z2 : a1 < 1
          · rw [if_pos z2]
          · rw [if_neg z2, if_pos (show (6 : Int32) < a1 from z)]
      exact ⟨0, Sx, Sm, z, rfl, h⟩
  · simp only [show x11_isBelow a0 4 = some 0 from below_n (by decide) c1, show m_in a0 0 3 = some 0 from in_n (by decide) c1, cal0_s, if_true]
    exact ⟨_, _, _, rfl, rfl, h⟩
