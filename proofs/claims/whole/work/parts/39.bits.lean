def bt (x : Int32) (i : Nat) : Bool := x.toBitVec.getLsbD i
theorem b_ext {x y : Int32} (h : ∀ i, i < 32 → bt x i = bt y i) : x = y := Int32.toBitVec_inj.mp (BitVec.eq_of_getLsbD_eq (fun i hi => h i hi))
theorem b_or (x y : Int32) (i : Nat) : bt (x ||| y) i = (bt x i || bt y i) := by unfold bt; rw [Int32.toBitVec_or, BitVec.getLsbD_or]
theorem b_and (x y : Int32) (i : Nat) : bt (x &&& y) i = (bt x i && bt y i) := by unfold bt; rw [Int32.toBitVec_and, BitVec.getLsbD_and]
theorem b_xor (x y : Int32) (i : Nat) : bt (x ^^^ y) i = (bt x i ^^ bt y i) := by unfold bt; rw [Int32.toBitVec_xor, BitVec.getLsbD_xor]
theorem b_big {x : Int32} {i : Nat} (h : 32 ≤ i) : bt x i = false := BitVec.getLsbD_of_ge _ _ h
theorem s_l : ∀ n, n < 32 → ((nI n &&& 31).toBitVec.smod 32).toNat = n := by decide +kernel
theorem s_u : ∀ n, n < 32 → (((nI n).toUInt32 &&& Int32.toUInt32 31).toBitVec % 32).toNat = n := by decide +kernel
theorem b_shl (n : Nat) (hn : n < 32) (x : Int32) {i : Nat} (hi : i < 32) : bt (x <<< (nI n &&& 31)) i = (decide (n ≤ i) && bt x (i - n)) := by
  unfold bt
  rw [Int32.toBitVec_shiftLeft]
  show (x.toBitVec <<< ((nI n &&& 31).toBitVec.smod 32).toNat).getLsbD i = _
  rw [s_l n hn, BitVec.getLsbD_shiftLeft]
  rcases Nat.lt_or_ge i n with h | h
  · simp [h, Nat.not_le.mpr h]
  · simp [hi, h, Nat.not_lt.mpr h]
theorem b_ushr (n : Nat) (hn : n < 32) (x : Int32) (i : Nat) : bt ((x.toUInt32 >>> ((nI n).toUInt32 &&& Int32.toUInt32 31)).toInt32) i = bt x (n + i) := by
  show (x.toUInt32 >>> ((nI n).toUInt32 &&& Int32.toUInt32 31)).toBitVec.getLsbD i = x.toUInt32.toBitVec.getLsbD (n + i)
  rw [UInt32.toBitVec_shiftRight]
  show (x.toUInt32.toBitVec >>> (((nI n).toUInt32 &&& Int32.toUInt32 31).toBitVec % 32).toNat).getLsbD i = _
  rw [s_u n hn, BitVec.getLsbD_ushiftRight]
theorem b_sshr (n : Nat) (hn : n < 32) (x : Int32) {i : Nat} (hi : i < 32) : bt (x >>> (nI n &&& 31)) i = if n + i < 32 then bt x (n + i) else bt x 31 := by
  unfold bt
  rw [Int32.toBitVec_shiftRight]
  show (x.toBitVec.sshiftRight ((nI n &&& 31).toBitVec.smod 32).toNat).getLsbD i = _
  rw [s_l n hn, BitVec.getLsbD_sshiftRight, BitVec.msb_eq_getLsbD_last]
  simp [hi]
theorem toInt8_c {x y : Int32} (h : ∀ i, i < 8 → bt x i = bt y i) : Int32.toInt8 x = Int32.toInt8 y := by
  apply Int8.toBitVec_inj.1
  show x.toBitVec.signExtend 8 = y.toBitVec.signExtend 8
  apply BitVec.eq_of_getLsbD_eq
  intro i hi
  rw [BitVec.getLsbD_signExtend, BitVec.getLsbD_signExtend, if_pos (by omega), if_pos (by omega)]
  have := h i hi
  unfold bt at this
  rw [this]
theorem sh8 (n : Nat) (hn : n ≤ 24) (x : Int32) : Int32.toInt8 ((x.toUInt32 >>> ((nI n).toUInt32 &&& Int32.toUInt32 31)).toInt32) = Int32.toInt8 (x >>> (nI n &&& 31)) := toInt8_c (fun i hi => by rw [b_ushr n (by omega), b_sshr n (by omega) x (by omega), if_pos (by omega)])
theorem app_h3 {S : ST} {t : Nat} (ht : t < 2000) (e : S.1 1 = nI t) (n : Nat) (w : Int32) (k : Nat) (hk : k ≤ 24) : x9_append_h3 (n + 1) S w (nI k) = x9_append_h3 n (stp S t (by4 w (nI k))) w (nI k + -8) := by
  rw [x9_append_h3, if_neg (nI_pos (by omega)), e, if_neg (show ¬ (2000 : Int32) ≤ nI t from nI_ge (b := 2000) ht (by decide)), G_in ht (by decide), nI_clamp (by omega)]
  unfold x9_append_j40
  simp only [show ∀ f, (sA S 0 f).1 1 = nI t from fun _ => e, nI_1, sh8 k hk]
  rfl
theorem app_eq {S : ST} {t : Nat} (ht : t + 4 ≤ 2000) (e : S.1 1 = nI t) (w : Int32) : x9_append S w = some (stp4 S t w) := by
  obtain ⟨z, hz⟩ := FU_s 5 (by decide)
  unfold x9_append
  have h1 := app_h3 (S := S) (t := t) (by omega) e (z + 4) w 24 (by omega)
  have h2 := app_h3 (S := stp S t (by4 w (nI 24))) (t := t + 1) (by omega) rfl (z + 3) w 16 (by omega)
  have h3 := app_h3 (S := stp (stp S t (by4 w (nI 24))) (t + 1) (by4 w (nI 16))) (t := t + 2) (by omega) rfl (z + 2) w 8 (by omega)
  have h4 := app_h3 (S := stp (stp (stp S t (by4 w (nI 24))) (t + 1) (by4 w (nI 16))) (t + 2) (by4 w (nI 8))) (t := t + 3) (by omega) rfl (z + 1) w 0 (by omega)
  rw [hz, show 5 + z = z + 4 + 1 by omega]
  refine h1.trans (Eq.trans (show _ = x9_append_h3 (z + 3 + 1) _ w (nI 16) from rfl) (h2.trans (Eq.trans (show _ = x9_append_h3 (z + 2 + 1) _ w (nI 8) from rfl) (h3.trans (Eq.trans (show _ = x9_append_h3 (z + 1 + 1) _ w (nI 0) from rfl) (h4.trans ?_))))))
  rfl
theorem stp4_rel {Sx Sm : ST} {t : Nat} (h : RRt Sx Sm t) (w : Int32) : RRt (stp4 Sx t w) (stp4 Sm t w) (t + 4) := stp_rel (stp_rel (stp_rel (stp_rel h _) _) _) _
theorem sim_feed {Sx Sm : ST} (h : RR Sx Sm) (a0 a1 a2 a3 a4 : Int32) : ∃ r Sx' Sm', x11_feed Sx a0 a1 a2 a3 a4 = some (r, Sx') ∧ m_feed Sm a0 a1 a2 a3 a4 = some (r, Sm') ∧ RR Sx' Sm' := by
  obtain ⟨⟨t, ht, e1, e2, hb⟩, hP, hF, hK, hW, hB⟩ := id h
  unfold x11_feed m_feed x9_hasRoom
  rw [e1, e2]
  by_cases c : t ≤ 1980
  · have g0 : RRt Sx Sm t := ⟨⟨e1, e2, hb⟩, hP, hF, hK, hW, hB⟩
    have g1 := stp4_rel g0 a0
    have g2 := stp4_rel g1 a1
    have g3 := stp4_rel g2 a2
    have g4 := stp4_rel g3 a3
    have g5 := stp4_rel g4 a4
    rw [if_neg (show ¬ (1980 : Int32) < nI t from nI_nlt (a := 1980) c (by decide)), cal_s, if_neg (by decide), if_pos (show nI t + 20 ≤ 2000 from by rw [show (20 : Int32) = nI 20 from rfl, nI_add]; exact nI_le (b := 2000) (by omega) (by decide))]
    rw [app_eq (by omega) g0.1.1, put_eq (by omega) g0.1.2.1, calV_s, calV_s, app_eq (by omega) g1.1.1, put_eq (by omega) g1.1.2.1, calV_s, calV_s, app_eq (by omega) g2.1.1, put_eq (by omega) g2.1.2.1, calV_s, calV_s, app_eq (by omega) g3.1.1, put_eq (by omega) g3.1.2.1, calV_s, calV_s, app_eq (by omega) g4.1.1, put_eq (by omega) g4.1.2.1, calV_s, calV_s, g5.1.1, g5.1.2.1]
    exact ⟨_, _, _, rfl, rfl, ⟨t + 4 + 4 + 4 + 4 + 4, by omega, g5.1⟩, g5.2⟩
  · rw [if_pos (show (1980 : Int32) < nI t from nI_lt (a := 1980) (by omega) (by omega)), cal_s, if_pos rfl, if_neg (show ¬ nI t + 20 ≤ 2000 from by rw [show (20 : Int32) = nI 20 from rfl, nI_add]; exact nI_ge (a := 2000) (by omega) (by omega))]
    exact ⟨_, _, _, rfl, rfl, h⟩
/-! take -/
theorem lt1000 (x : Int32) : x < 1000 ↔ ¬ (999 : Int32) < x := by
  rw [Int32.lt_iff_toInt_lt, Int32.lt_iff_toInt_lt, show (1000 : Int32).toInt = 1000 from rfl, show (999 : Int32).toInt = 999 from rfl]
  omega
theorem take_core {Sx Sm : ST} (h : RR Sx Sm) {w : Nat} (hw : w < 3) (a1 s0 : Int32) : ∃ r Sx' Sm', x11_take_j10 Sx (nI w) a1 s0 = some (r, Sx') ∧ (if Sm.2.1 34 w = 12 then some ((-1 : Int32), Sm) else m_take_j31 Sm (nI w) a1 s0 a1) = some (r, Sm') ∧ RR Sx' Sm' := by
  obtain ⟨hT, hP, hF, hK, hW, hB⟩ := id h
  obtain ⟨c, hc, k1, k2, k3⟩ := hK w hw
  unfold x11_take_j10 m_take_j31 x8_append m_in
  simp only [b3, rng_rb (by decide) ⟨w, hw, rfl⟩, chk, calR, if_true, lengthOf_y Sx hw, cal_s, k1, k2, nI_m1 (show c < 2 ^ 31 by omega), if_false, G_in hw (by decide : 3 < 2 ^ 31), nI_clamp (show w < 2 ^ 31 by omega), lt1000]
  by_cases q3 : c = 12
  · subst q3
    simp only [show (nI 12 = (12 : Int32)) = True from eq_true rfl, show (nI 12 < (12 : Int32)) = False from eq_false (by decide), if_true, if_false, ite_self]
    exact ⟨_, _, _, rfl, rfl, h⟩
  have q3' : ¬ nI c = 12 := fun e => q3 ((nI_eq (by omega) (by decide)).mp (show nI c = nI 12 from e))
  simp only [q3', if_false, show nI c < (12 : Int32) from nI_lt (b := 12) (by omega) (by decide), if_true]
  by_cases q1 : a1 < s0
  · simp only [q1, if_true, cal0_s]
    exact ⟨_, _, _, rfl, rfl, h⟩
  by_cases q2 : (999 : Int32) < a1
  · simp only [q1, q2, if_true, if_false, cal0_s, not_true_eq_false]
    exact ⟨_, _, _, rfl, rfl, h⟩
  have ex : nI w * 12 + nI c = nI (12 * w + c) := by rw [show (12 : Int32) = nI 12 from rfl, pk_mul, nI_add, Nat.mul_comm]
  have em : (12 : Int32) * nI w + nI c = nI (12 * w + c) := by rw [show (12 : Int32) = nI 12 from rfl, pk_mul, nI_add]
  simp only [q1, q2, if_false, not_false_eq_true, if_true, cal0_s, i10, ex, em, G_in (show 12 * w + c < 36 by omega) (by decide : 36 < 2 ^ 31), nI_clamp (show 12 * w + c < 2 ^ 31 by omega)]
  refine ⟨nI (c + 1), sA (sA Sx 26 (upd (Sx.2.1 26) (12 * w + c) a1)) 27 (upd (Sx.2.1 27) w (nI (c + 1))), sA (sA Sm 33 (upd (Sm.2.1 33) (12 * w + c) a1)) 34 (upd (Sm.2.1 34) w (nI (c + 1))), ?_, ?_, hT, hP, hF, ?_, hW, hB⟩
  · show some (upd (Sx.2.1 27) w (Sx.2.1 27 w + 1) w, sA (sA Sx 26 (upd (Sx.2.1 26) (12 * w + c) a1)) 27 (upd (Sx.2.1 27) w (Sx.2.1 27 w + 1))) = _
    rw [pk_us, k1, nI_1]
  · show some (upd (Sm.2.1 34) w (Sm.2.1 34 w + 1) w, sA (sA Sm 33 (upd (Sm.2.1 33) (12 * w + c) a1)) 34 (upd (Sm.2.1 34) w (Sm.2.1 34 w + 1))) = _
    rw [pk_us, k2, nI_1]
  · intro v hv
    obtain ⟨d, hd, l1, l2, l3⟩ := hK v hv
    by_cases z : v = w
    · subst z
      have hcd : d = c := (nI_eq (by omega) (by omega)).mp (l1.symm.trans k1)
      subst hcd
      refine ⟨d + 1, by omega, pk_us, pk_us, fun i hi => ?_⟩
      show upd (Sx.2.1 26) (12 * v + d) a1 (12 * v + i) = upd (Sm.2.1 33) (12 * v + d) a1 (12 * v + i)
      by_cases y : i = d
      · rw [y, pk_us, pk_us]
      · rw [pk_un (by omega), pk_un (by omega)]; exact l3 i (by omega)
    · refine ⟨d, hd, (pk_un z).trans l1, (pk_un z).trans l2, fun i hi => ?_⟩
      show upd (Sx.2.1 26) (12 * w + c) a1 (12 * v + i) = upd (Sm.2.1 33) (12 * w + c) a1 (12 * v + i)
      rw [pk_un (by omega), pk_un (by omega)]; exact l3 i hi
theorem sim_take {Sx Sm : ST} (h : RR Sx Sm) (a0 a1 : Int32) : ∃ r Sx' Sm', x11_take Sx a0 a1 = some (r, Sx') ∧ m_take Sm a0 a1 = some (r, Sm') ∧ RR Sx' Sm' := by
  unfold x11_take m_take
  simp only [n2, chk]
  cases c0 : rb a0 3
  · refine ⟨-1, Sx, Sm, ?_, rfl, h⟩
    unfold x11_take_j10
    simp only [b3, c0, chk, Bool.false_eq_true, if_false, ite_self]
  obtain ⟨w, hw, rfl⟩ := rb_rng (by decide) c0
  simp only [if_true, G_in hw (by decide : 3 < 2 ^ 31), nI_clamp (show w < 2 ^ 31 by omega)]
  by_cases q : nI w = 2
  · simp only [q, if_true]
    rw [← q]
    exact take_core h hw a1 0
  · simp only [q, if_false]
    exact take_core h hw a1 1
