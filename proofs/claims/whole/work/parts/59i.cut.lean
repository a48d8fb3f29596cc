theorem bit_ne (b : Bool) : (bit b = 0) = (b = false) := by cases b <;> simp [bit]
theorem xone {c : Nat → Nat} {t i q : Nat} {S : ST} (h : BYX c t S) (hi : i < t) (hq : q < 401) (eq : S.1 27 = nI q) : ∃ S' i', x10_cutOne S (nI i) = some (nI i', S') ∧ g3 [] [35] [2] S S' ∧ (∀ j, j ≠ q → S'.2.1 35 j = S.2.1 35 j ∧ S'.2.2 2 j = S.2.2 2 j) ∧ S'.2.1 35 q = nI (lexK c t i) ∧ (lexK c t i = 25 → S'.2.2 2 q = lN (dgv c i (eD c t i - i))) ∧ (lexK c t i = 24 → S'.2.2 2 q = lN (e32 (nml c i (eL c t i - i)))) ∧ (lexK c t i ≠ 38 → i' = lexE c t i) := by
  have ht := h.2.1
  have hc := (h.2.2 i hi).2
  unfold x10_cutOne
  rw [bx_y h hi, cal_s, if_neg (nI_m1 (by omega)), xL hc, chk]
  by_cases a : isLb (c i) = true
  · rw [if_pos a]
    have hE := run_gt (P := fun x => !isLb (c x)) hi (by rw [a]; rfl)
    have hK : lexK c t i = if eL c t i - i ≤ 8 then kwd (nml c i (eL c t i - i)) else 38 := by unfold lexK; rw [if_pos a]
    have hX : lexE c t i = eL c t i := by unfold lexE; rw [if_pos a]
    rw [hK, hX]
    change i < eL c t i ∧ eL c t i ≤ t at hE
    obtain ⟨e, he⟩ := FU_s (t - i + 1) (by omega)
    have hl := xlet h x10_cutLetters_j52 e (t - i) 0 (i := i) (by omega)
    have hc2 : x10_cutLetters S (nI i) = x10_cutLetters_j52 S (nI i) (lN (e32 (nml c i (min (eL c t i - i) 8)))) (nI (eL c t i)) := by
      unfold x10_cutLetters; rw [he]; exact hl
    rw [hc2, calR]
    unfold x10_cutLetters_j52
    rw [pk_sub (by omega)]
    by_cases b : eL c t i - i ≤ 8
    · have hle : lets (nml c i (eL c t i - i)) := nml_lets (fun x hx => eL_in x hx)
      rw [if_pos (show nI (eL c t i - i) ≤ 8 from nI_le (b := 8) b (by decide)), eq, G_in hq (by decide), nI_clamp (by omega), if_pos b, show min (eL c t i - i) 8 = eL c t i - i by omega, xword hle (by rw [nml_len]; exact b), cal0_s, keep_y (S := sL S 2 (vp_updL (S.2.2 2) q (lN (e32 (nml c i (eL c t i - i)))))) hq eq, cal_s]
      refine ⟨_, _, rfl, g3_tr (g3_L _ _ (by decide)) (g3_A _ _ (by decide)), fun j hj => ⟨pk_un hj, pk_uLn hj⟩, pk_us, fun z => ?_, fun _ => pk_uLs, fun _ => rfl⟩
      have := kwd_le (nml c i (eL c t i - i)); omega
    · rw [if_neg (show ¬ nI (eL c t i - i) ≤ 8 from nI_ge (a := 8) (by omega) (by omega)), if_neg b, keep_y hq eq, cal_s]
      exact ⟨_, _, rfl, g3_A _ _ (by decide), fun j hj => ⟨pk_un hj, rfl⟩, pk_us, fun z => absurd z (by decide), fun z => absurd z (by decide), fun z => absurd rfl z⟩
  · rw [if_neg a, xD hc, chk]
    by_cases b : isDb (c i) = true
    · rw [if_pos b]
      have hE := run_gt (P := fun x => !isDb (c x)) hi (by rw [b]; rfl)
      have hK : lexK c t i = if eD c t i - i ≤ 4 then 25 else 38 := by unfold lexK; rw [if_neg a, if_pos b]
      have hX : lexE c t i = eD c t i := by unfold lexE; rw [if_neg a, if_pos b]
      rw [hK, hX]
      change i < eD c t i ∧ eD c t i ≤ t at hE
      obtain ⟨e, he⟩ := FU_s (t - i + 1) (by omega)
      have hl := xdig h x10_cutDigits_j55 e (t - i) 0 (i := i) (by omega)
      have hc2 : x10_cutDigits S (nI i) = x10_cutDigits_j55 S (nI i) (nI (dgv c i (min (eD c t i - i) 4))) (nI (eD c t i)) := by
        unfold x10_cutDigits; rw [he]; exact hl
      rw [hc2, calR]
      unfold x10_cutDigits_j55
      rw [pk_sub (by omega)]
      by_cases d : eD c t i - i ≤ 4
      · have hv : dgv c i (eD c t i - i) < 10 ^ (eD c t i - i) := dgv_lt (fun x hx => eD_in x hx)
        have hp : 10 ^ (eD c t i - i) ≤ 10 ^ 4 := Nat.pow_le_pow_right (by decide) d
        rw [if_pos (show nI (eD c t i - i) ≤ 4 from nI_le (b := 4) d (by decide)), eq, G_in hq (by decide), nI_clamp (by omega), if_pos d, show min (eD c t i - i) 4 = eD c t i - i by omega, nI_l (by omega)]
        dsimp only
        rw [keep_y (S := sL S 2 (vp_updL (S.2.2 2) q (lN (dgv c i (eD c t i - i))))) hq eq, cal_s]
        exact ⟨_, _, rfl, g3_tr (g3_L _ _ (by decide)) (g3_A _ _ (by decide)), fun j hj => ⟨pk_un hj, pk_uLn hj⟩, pk_us, fun _ => pk_uLs, fun z => absurd z (by decide), fun _ => rfl⟩
      · rw [if_neg (show ¬ nI (eD c t i - i) ≤ 4 from nI_ge (a := 4) (by omega) (by omega)), if_neg d, keep_y hq eq, cal_s]
        exact ⟨_, _, rfl, g3_A _ _ (by decide), fun j hj => ⟨pk_un hj, rfl⟩, pk_us, fun z => absurd z (by decide), fun z => absurd z (by decide), fun z => absurd rfl z⟩
    · rw [if_neg b, nI_1]
      have hK : lexK c t i = (sgK (c i) (eqB c t i)).1 := by unfold lexK; rw [if_neg a, if_neg b]
      have hX : lexE c t i = i + (sgK (c i) (eqB c t i)).2 := by unfold lexE; rw [if_neg a, if_neg b]
      have hr := sgK_r (c i) (eqB c t i)
      rw [hK, hX]
      obtain ⟨i', g1, g2⟩ := xsgn (i := i) hq eq hc (eqB c t i)
      have hb : (cal (x9_byteAt S (nI (i + 1))) fun r53 S53 => if r53 = 61 then (cal (x10_cutSign S53 (nI (c i)) 1 (nI i)) fun r67 S67 => some (r67, S67)) else (cal (x10_cutSign S53 (nI (c i)) 0 (nI i)) fun r67 S67 => some (r67, S67))) = x10_cutSign S (nI (c i)) (bit (eqB c t i)) (nI i) := by
        simp only [calR]
        unfold eqB
        by_cases z : i + 1 < t
        · rw [bx_y h z, cal_s, decide_eq_true z, Bool.true_and]
          have hc1 := (h.2.2 (i + 1) z).2
          by_cases w : c (i + 1) = 61
          · rw [w, if_pos (show nI 61 = 61 from rfl)]; rfl
          · rw [if_neg (show ¬ nI (c (i + 1)) = 61 from fun k => w ((nI_eq (b := 61) (by omega) (by decide)).mp k)), decide_eq_false w]; rfl
        · rw [bx_n h (by omega) (by omega), cal_s, if_neg (by decide), decide_eq_false z]; rfl
      rw [hb, g1]
      exact ⟨_, _, rfl, g3_A _ _ (by decide), fun j hj => ⟨pk_un hj, rfl⟩, pk_us, fun z => by omega, fun z => by omega, g2⟩
theorem KW_7 : ∀ k, k < 24 → (KW.getD k []).length ≤ 7 := by decide +kernel
theorem mone {c : Nat → Nat} {t i q : Nat} {T : ST} (h : BYM c t T) (hk : ∀ k, k < 24 → T.2.2 1 k = lN (keyT.getD k 0)) (hi : i < t) (hq : q < 401) (eq : T.1 3 = nI q) (hb : isBb (c i) = false) (K : ST → Option ST) (n : Nat) : ∃ T', m_cut_h7 K (n + 1) T (nI i) = m_cut_h7 K n T' (nI (lexE c t i)) ∧ g3 [3] [2, 3, 4] [0] T T' ∧ T'.1 3 = nI (q + 1) ∧ (∀ j, j ≠ q → T'.2.1 2 j = T.2.1 2 j ∧ T'.2.1 3 j = T.2.1 3 j ∧ T'.2.1 4 j = T.2.1 4 j ∧ T'.2.2 0 j = T.2.2 0 j) ∧ T'.2.1 2 q = nI (kM (lexK c t i)) ∧ T'.2.1 3 q = nI i ∧ (lexK c t i = 25 → T'.2.1 4 q = nI (dgv c i (eD c t i - i))) ∧ (lexK c t i = 24 → T'.2.2 0 q = lN (e27 (nml c i (eL c t i - i)))) := by
  have ht := h.2.1
  have hc := (h.2.2 i hi).2
  have oth : ∀ (k p v : Int32) (nm : Int64), ∀ j, j ≠ q → (tkM T q k p v nm).2.1 2 j = T.2.1 2 j ∧ (tkM T q k p v nm).2.1 3 j = T.2.1 3 j ∧ (tkM T q k p v nm).2.1 4 j = T.2.1 4 j ∧ (tkM T q k p v nm).2.2 0 j = T.2.2 0 j := fun _ _ _ _ j hj => ⟨pk_un hj, pk_un hj, pk_un hj, pk_uLn hj⟩
  rw [m_cut_h7, eq, if_neg (show ¬ (400 : Int32) < nI q from nI_nlt (a := 400) (by omega) (by decide)), bm_y h hi, cal_s, h.1, if_pos (nI_lt hi (by omega))]
  have b9 : ¬ nI (c i) = 9 ∧ ¬ nI (c i) = 10 ∧ ¬ nI (c i) = 13 ∧ ¬ nI (c i) = 32 := by
    unfold isBb at hb
    simp only [Bool.or_eq_false_iff, decide_eq_false_iff_not] at hb
    refine ⟨fun z => hb.1 ?_, fun z => hb.2.1 ?_, fun z => hb.2.2.1 ?_, fun z => hb.2.2.2 ?_⟩
    · exact (nI_eq (b := 9) (by omega) (by decide)).mp z
    · exact (nI_eq (b := 10) (by omega) (by decide)).mp z
    · exact (nI_eq (b := 13) (by omega) (by decide)).mp z
    · exact (nI_eq (b := 32) (by omega) (by decide)).mp z
  rw [if_neg b9.1, if_neg b9.2.1, if_neg b9.2.2.1, if_neg b9.2.2.2, mL hc, chk]
  by_cases a : isLb (c i) = true
  · rw [if_pos a]
    have hE := run_gt (P := fun x => !isLb (c x)) hi (by rw [a]; rfl)
    have hK : lexK c t i = if eL c t i - i ≤ 8 then kwd (nml c i (eL c t i - i)) else 38 := by unfold lexK; rw [if_pos a]
    have hX : lexE c t i = eL c t i := by unfold lexE; rw [if_pos a]
    rw [hK, hX]
    change i < eL c t i ∧ eL c t i ≤ t at hE
    obtain ⟨e, he⟩ := FU_s (t - i + 1) (by omega)
    have hl := mlet h (m_cut_j124 (m_cut_h7 K n) K) e (t - i) 0 (i := i) (by omega)
    rw [he, show m_cut_h85 (m_cut_j124 (m_cut_h7 K n) K) (t - i + 1 + e) T (nI i) 0 0 = m_cut_j124 (m_cut_h7 K n) K T (nI i) (nI (eL c t i - i)) (lN (e27 (nml c i (min (eL c t i - i) 8)))) from hl]
    unfold m_cut_j124 m_cut_j135
    have j179 : ∀ l4 l6, m_cut_j179 (m_cut_h7 K n) K T (nI i) (nI (eL c t i - i)) l4 l6 = m_cut_h7 K n (tkM T q l6 (nI i) 0 l4) (nI (eL c t i)) := by
      intro l4 l6
      unfold m_cut_j179 m_cut_j291
      rw [tok_y (by omega) eq, calV_s, nI_add, show i + (eL c t i - i) = eL c t i by omega]
    by_cases b : eL c t i - i ≤ 8
    · have hle : lets (nml c i (eL c t i - i)) := nml_lets (fun x hx => eL_in x hx)
      have h8 : (nml c i (eL c t i - i)).length ≤ 8 := by rw [nml_len]; exact b
      rw [if_pos (show nI (eL c t i - i) ≤ 8 from nI_le (b := 8) b (by decide)), if_pos b, show min (eL c t i - i) 8 = eL c t i - i by omega]
      have fin : (if (7 : Int32) < nI (eL c t i - i) then m_cut_j179 (m_cut_h7 K n) K T (nI i) (nI (eL c t i - i)) (lN (e27 (nml c i (eL c t i - i)))) 1 else m_cut_h146 (m_cut_j179 (m_cut_h7 K n) K) FU T (nI i) (nI (eL c t i - i)) (lN (e27 (nml c i (eL c t i - i)))) 1 0) = m_cut_h7 K n (tkM T q (nI (kM (kwd (nml c i (eL c t i - i))))) (nI i) 0 (lN (e27 (nml c i (eL c t i - i))))) (nI (eL c t i)) := by
        by_cases c7 : 7 < eL c t i - i
        · rw [if_pos (show (7 : Int32) < nI (eL c t i - i) from nI_lt (a := 7) c7 (by omega)), j179]
          have : kwd (nml c i (eL c t i - i)) = 24 := by
            rcases Nat.lt_or_ge (kwd (nml c i (eL c t i - i))) 24 with z | z
            · have z1 := KW_7 _ z
              rw [kwd_y z, nml_len] at z1
              omega
            · have := kwd_le (nml c i (eL c t i - i)); omega
          rw [this]; rfl
        · rw [if_neg (show ¬ (7 : Int32) < nI (eL c t i - i) from nI_nlt (a := 7) (by omega) (by decide))]
          obtain ⟨e', he'⟩ := FU_s (24 + 1) (by decide)
          have hm := mkw hk hle h8 (m_cut_j179 (m_cut_h7 K n) K) (nI i) (nI (eL c t i - i)) e' 24 0 (by omega)
          rw [if_neg (Nat.not_lt_zero _)] at hm
          rw [he', show m_cut_h146 (m_cut_j179 (m_cut_h7 K n) K) (24 + 1 + e') T (nI i) (nI (eL c t i - i)) (lN (e27 (nml c i (eL c t i - i)))) 1 0 = _ from hm, j179, kwl]
          congr 2
          by_cases z : kwm (nml c i (eL c t i - i)) < 24
          · rw [if_pos z, if_pos z]
          · rw [if_neg z, if_neg z]; rfl
      rw [fin]
      refine ⟨_, rfl, tkM_g _ _ _ _ _ _, rfl, oth _ _ _ _, pk_us, pk_us, fun z => ?_, fun _ => pk_uLs⟩
      have := kwd_le (nml c i (eL c t i - i)); omega
    · rw [if_neg (show ¬ nI (eL c t i - i) ≤ 8 from nI_ge (a := 8) (by omega) (by omega)), if_neg b, if_pos (show (7 : Int32) < nI (eL c t i - i) from nI_lt (a := 7) (by omega) (by omega)), j179]
      exact ⟨_, rfl, tkM_g _ _ _ _ _ _, rfl, oth _ _ _ _, pk_us, pk_us, fun z => absurd z (by decide), fun z => absurd z (by decide)⟩
  · rw [if_neg a, mD hc, chk]
    by_cases b : isDb (c i) = true
    · rw [if_pos b]
      have hE := run_gt (P := fun x => !isDb (c x)) hi (by rw [b]; rfl)
      have hK : lexK c t i = if eD c t i - i ≤ 4 then 25 else 38 := by unfold lexK; rw [if_neg a, if_pos b]
      have hX : lexE c t i = eD c t i := by unfold lexE; rw [if_neg a, if_pos b]
      rw [hK, hX]
      change i < eD c t i ∧ eD c t i ≤ t at hE
      obtain ⟨e, he⟩ := FU_s (t - i + 1) (by omega)
      have hl := mdig h (m_cut_j250 (m_cut_h7 K n) K) e (t - i) 0 (i := i) (by omega)
      rw [he, show m_cut_h208 (m_cut_j250 (m_cut_h7 K n) K) (t - i + 1 + e) T (nI i) 0 0 = m_cut_j250 (m_cut_h7 K n) K T (nI i) (nI (eD c t i - i)) (nI (dgv c i (min (eD c t i - i) 4))) from hl]
      unfold m_cut_j250 m_cut_j261 m_cut_j291
      rw [tok_y (by omega) eq, tok_y (by omega) eq, calV_s, calV_s, nI_add, show i + (eD c t i - i) = eD c t i by omega]
      by_cases d : eD c t i - i ≤ 4
      · rw [if_pos (show nI (eD c t i - i) ≤ 4 from nI_le (b := 4) d (by decide)), if_pos d, show min (eD c t i - i) 4 = eD c t i - i by omega]
        exact ⟨_, rfl, tkM_g _ _ _ _ _ _, rfl, oth _ _ _ _, pk_us, pk_us, fun _ => pk_us, fun z => absurd z (by decide)⟩
      · rw [if_neg (show ¬ nI (eD c t i - i) ≤ 4 from nI_ge (a := 4) (by omega) (by omega)), if_neg d]
        exact ⟨_, rfl, tkM_g _ _ _ _ _ _, rfl, oth _ _ _ _, pk_us, pk_us, fun z => absurd z (by decide), fun z => absurd z (by decide)⟩
    · rw [if_neg b, nI_1]
      have hK : lexK c t i = (sgK (c i) (eqB c t i)).1 := by unfold lexK; rw [if_neg a, if_neg b]
      have hX : lexE c t i = i + (sgK (c i) (eqB c t i)).2 := by unfold lexE; rw [if_neg a, if_neg b]
      have hr := sgK_r (c i) (eqB c t i)
      rw [hK, hX]
      have hb2 : ∃ y, m_byteAt T (nI (i + 1)) = some (y, T) ∧ decide (y = 61) = eqB c t i := by
        unfold eqB
        by_cases z : i + 1 < t
        · refine ⟨_, bm_y h z, ?_⟩
          rw [decide_eq_true z, Bool.true_and]
          have hc1 := (h.2.2 (i + 1) z).2
          by_cases w : c (i + 1) = 61
          · rw [w]; rfl
          · rw [decide_eq_false (show ¬ nI (c (i + 1)) = 61 from fun k => w ((nI_eq (b := 61) (by omega) (by decide)).mp k)), decide_eq_false w]
        · refine ⟨_, bm_n h (by omega) (by omega), ?_⟩
          rw [decide_eq_false z]; rfl
      obtain ⟨y, y1, y2⟩ := hb2
      rw [y1, cal_s, msgn (by omega) eq hc, y2, cal_s]
      unfold m_cut_j291
      rw [nI_add]
      exact ⟨_, rfl, tkM_g _ _ _ _ _ _, rfl, oth _ _ _ _, pk_us, pk_us, fun z => by omega, fun z => by omega⟩
