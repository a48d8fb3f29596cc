def cA (S : ST) (d : Int32) (f : Nat) : Nat := cntU (fun m => vot S d 0 f m && !vot S d 1 f m) 8
def cN (S : ST) (d : Int32) (f : Nat) : Nat := cntU (fun m => vot S d 1 f m && !vot S d 0 f m) 8
def car (S : ST) (d : Int32) (f : Nat) : Bool := !decide (cA S d f ≤ cN S d f)
def isV (S : ST) (d : Int32) (f : Nat) : Bool := decide (S.2.1 24 f = 9) && decide (S.2.1 26 f = d)
def mv (S : ST) (d : Int32) : Nat → Int32
  | 0 => -2
  | f + 1 => if (isV S d f && (car S d (f + 1) != car S d f)) = true then nI f else mv S d f
theorem vot_step {S : ST} {d sd : Int32} {f : Nat} (h : isV S d f = false) : ∀ m, vot S d sd (f + 1) m = vot S d sd f m := by
  intro m
  show (anyB (pv S d (nI m) sd) f || pv S d (nI m) sd f) = anyB (pv S d (nI m) sd) f
  have : pv S d (nI m) sd f = false := by
    unfold isV at h
    unfold pv
    rw [← Bool.and_assoc, h, Bool.false_and]
  rw [this, Bool.or_false]
theorem vot_same {S : ST} {d sd : Int32} {f : Nat} (h : ∀ m, pv S d (nI m) sd f = false) : vot S d sd (f + 1) = vot S d sd f := funext fun m => by
  show (anyB (pv S d (nI m) sd) f || pv S d (nI m) sd f) = anyB (pv S d (nI m) sd) f
  rw [h m, Bool.or_false]
theorem car_step {S : ST} {d : Int32} {f : Nat} (h : isV S d f = false) : car S d (f + 1) = car S d f := by
  unfold car cA cN
  rw [show vot S d 0 (f + 1) = vot S d 0 f from funext (vot_step h), show vot S d 1 (f + 1) = vot S d 1 f from funext (vot_step h)]
theorem bit_inj {a b : Bool} : (bit a = bit b) = (a = b) := by cases a <;> cases b <;> simp [bit] <;> decide
theorem bit_le {a b : Nat} (ha : a ≤ 8) (hb : b ≤ 8) {α : Type} (K : Int32 → Option α) : (if nI a ≤ nI b then K 0 else K 1) = K (bit (!decide (a ≤ b))) := by
  by_cases c : a ≤ b
  · rw [if_pos (nI_le c (by omega)), decide_eq_true c]; rfl
  · rw [if_neg (nI_ge (by omega) (by omega)), decide_eq_false c]; rfl
theorem or0 (x : Int32) : x ||| 0 = x := b_ext (fun i hi => by rw [b_or, show bt 0 i = false from by unfold bt; simp, Bool.or_false])
theorem vot_add {Sm : ST} {d sd : Int32} {f m : Nat} (hm : m < 8) (h1 : Sm.2.1 24 f = 9) (h2 : Sm.2.1 26 f = d) (h3 : Sm.2.1 27 f = nI m) (h4 : Sm.2.1 28 f = sd) : bs (vot Sm d sd f) ||| ((1 : Int32) <<< (nI m &&& 31)) = bs (vot Sm d sd (f + 1)) := by
  rw [bs_or _ hm]
  refine of_bt (fun i hi => ?_)
  rw [bs_bt _ hi]
  by_cases c : i < 8
  · show _ = (_ && (anyB (pv Sm d (nI i) sd) f || pv Sm d (nI i) sd f))
    have e1 : pv Sm d (nI i) sd f = decide (i = m) := by
      unfold pv
      rw [h3]
      simp only [h1, h2, h4, decide_true, Bool.true_and, Bool.and_true]
      by_cases z : i = m
      · rw [decide_eq_true z, decide_eq_true (by rw [z])]
      · rw [decide_eq_false z, decide_eq_false (fun q => z ((nI_eq (by omega) (by omega)).mp q).symm)]
    rw [e1]; rfl
  · simp [c]
theorem last_h15 {Sx Sm : ST} {n : Nat} (hn : n ≤ 180) (hf : ∀ f, f < n → factR Sx Sm f) (d : Int32) (e : Nat) : ∀ j f, f + j = n → x0_lastTurnOfDivision_h15 (j + 1 + e) Sx d (nI n) (bs (vot Sm d 0 f)) (bs (vot Sm d 1 f)) (mv Sm d f) (bit (car Sm d f)) (nI f) = some (mv Sm d n, Sx) := by
  intro j
  induction j with
  | zero =>
    intro f h
    rw [show 0 + 1 + e = e + 1 by omega, x0_lastTurnOfDivision_h15, if_pos (nI_le (by omega) (by omega)), show n = f by omega]
  | succ j ih =>
    intro f h
    have hR := hf f (by omega)
    rw [show j + 1 + 1 + e = (j + 1 + e) + 1 by omega, x0_lastTurnOfDivision_h15, if_neg (nI_ge (by omega) (by omega)), isAbout_b (by omega), chkS, FK_9 hR.1, ← ih (f + 1) (by omega)]
    unfold x0_lastTurnOfDivision_j61 x0_lastTurnOfDivision_j82 x0_lastTurnOfDivision_j111 x0_lastTurnOfDivision_j127 x0_lastTurnOfDivision_j133
    simp only [G_in (show f < 180 by omega) (by decide : 180 < 2 ^ 31), nI_clamp (show f < 2 ^ 31 by omega), nI_1]
    have out : isV Sm d f = false → x0_lastTurnOfDivision_h15 (j + 1 + e) Sx d (nI n) (bs (vot Sm d 0 f)) (bs (vot Sm d 1 f)) (mv Sm d f) (bit (car Sm d f)) (nI (f + 1)) = x0_lastTurnOfDivision_h15 (j + 1 + e) Sx d (nI n) (bs (vot Sm d 0 (f + 1))) (bs (vot Sm d 1 (f + 1))) (mv Sm d (f + 1)) (bit (car Sm d (f + 1))) (nI (f + 1)) := fun q => by
      rw [show vot Sm d 0 (f + 1) = vot Sm d 0 f from funext (vot_step q), show vot Sm d 1 (f + 1) = vot Sm d 1 f from funext (vot_step q), car_step q, mv, q]; rfl
    by_cases c1 : Sm.2.1 24 f = 9
    · obtain ⟨v1, v2, ⟨m, hm, v3⟩, v4, v5⟩ := hR.2.2.2.2.2.2.2.2.2.2 c1
      rw [v1, v4, v2, v3]
      by_cases c2 : Sm.2.1 26 f = d
      · have hV : isV Sm d f = true := by unfold isV; rw [decide_eq_true c1, decide_eq_true c2]; rfl
        simp only [c1, c2, decide_true, Bool.and_self, if_true]
        have fin : ∀ (x y : Int32), x = bs (vot Sm d 0 (f + 1)) → y = bs (vot Sm d 1 (f + 1)) → (cal0 (j6_bitCount_0f7a4 (x &&& (y ^^^ -1))) fun r91 => cal0 (j6_bitCount_0f7a4 (y &&& (x ^^^ -1))) fun r100 => if r91 ≤ r100 then (if (0 : Int32) = bit (car Sm d f) then x0_lastTurnOfDivision_h15 (j + 1 + e) Sx d (nI n) x y (mv Sm d f) 0 (nI (f + 1)) else x0_lastTurnOfDivision_h15 (j + 1 + e) Sx d (nI n) x y (nI f) 0 (nI (f + 1))) else (if (1 : Int32) = bit (car Sm d f) then x0_lastTurnOfDivision_h15 (j + 1 + e) Sx d (nI n) x y (mv Sm d f) 1 (nI (f + 1)) else x0_lastTurnOfDivision_h15 (j + 1 + e) Sx d (nI n) x y (nI f) 1 (nI (f + 1)))) = x0_lastTurnOfDivision_h15 (j + 1 + e) Sx d (nI n) (bs (vot Sm d 0 (f + 1))) (bs (vot Sm d 1 (f + 1))) (mv Sm d (f + 1)) (bit (car Sm d (f + 1))) (nI (f + 1)) := by
          intro x y hx hy
          subst hx hy
          rw [bs_nand, bs_nand, bc, bc, cal0_s, cal0_s]
          have hb := bit_le (cntU_le (fun i => vot Sm d 0 (f + 1) i && !vot Sm d 1 (f + 1) i) 8) (cntU_le (fun i => vot Sm d 1 (f + 1) i && !vot Sm d 0 (f + 1) i) 8) (fun r => if r = bit (car Sm d f) then x0_lastTurnOfDivision_h15 (j + 1 + e) Sx d (nI n) (bs (vot Sm d 0 (f + 1))) (bs (vot Sm d 1 (f + 1))) (mv Sm d f) r (nI (f + 1)) else x0_lastTurnOfDivision_h15 (j + 1 + e) Sx d (nI n) (bs (vot Sm d 0 (f + 1))) (bs (vot Sm d 1 (f + 1))) (nI f) r (nI (f + 1)))
          rw [hb]
          show (if bit (car Sm d (f + 1)) = bit (car Sm d f) then _ else _) = _
          rw [mv, hV]
          by_cases z : car Sm d (f + 1) = car Sm d f
          · have zz : (true && (car Sm d (f + 1) != car Sm d f)) = false := by rw [z]; simp
            rw [if_pos (by rw [z]), zz]; rfl
          · rw [if_neg (by rw [bit_inj]; exact z), if_pos (by simp [z])]; rfl
        rcases v5 with v5 | v5
        · simp only [v5, show ((0 : Int32) = 1) = False from eq_false (by decide), if_true, if_false, or0]
          refine fin _ _ (vot_add hm c1 c2 v3 v5) ?_
          rw [vot_same (fun i => by simp [pv, v5])]
        · simp only [v5, i10, if_true, if_false, or0]
          refine fin _ _ ?_ (vot_add hm c1 c2 v3 v5)
          rw [vot_same (fun i => by simp [pv, v5])]
      · simp only [c1, c2, decide_true, decide_false, Bool.and_false, Bool.false_eq_true, if_false]
        exact out (by unfold isV; rw [decide_eq_false c2, Bool.and_false])
    · simp only [c1, decide_false, Bool.false_and, Bool.false_eq_true, if_false]
      exact out (by unfold isV; rw [decide_eq_false c1, Bool.false_and])
theorem mv_h23 (S : ST) (d : Int32) (e : Nat) : ∀ f, f ≤ 180 → m_moved_h23 (f + 1 + e) S d (nI f - 1) = some (mv S d f, S) := by
  intro f
  induction f with
  | zero => intro _; rw [show 0 + 1 + e = e + 1 by omega, m_moved_h23, if_pos (show nI 0 - 1 < 0 from by decide)]; rfl
  | succ f ih =>
    intro hf
    have ih := ih (by omega)
    rw [show f + 1 + 1 + e = (f + 1 + e) + 1 by omega, nI_pred, m_moved_h23, if_neg (nI_pos (by omega))]
    unfold m_moved_j77 m_moved_j101 m_moved_j112
    simp only [G_in (show f < 180 by omega) (by decide : 180 < 2 ^ 31), nI_clamp (show f < 2 ^ 31 by omega), nI_1, sumOf_eq S d _ (show f + 1 ≤ 180 by omega), sumOf_eq S d _ (show f ≤ 180 by omega), cal_s, show (1 : Int32) - 0 = 1 from rfl, show (1 : Int32) - 1 = 0 from rfl]
    rw [show nI f + -1 = nI f - 1 from (Int32.sub_eq_add_neg _ _).symm, ih, mv]
    by_cases c1 : S.2.1 24 f = 9
    · by_cases c2 : S.2.1 26 f = d
      · have hV : isV S d f = true := by unfold isV; rw [decide_eq_true c1, decide_eq_true c2]; rfl
        rw [if_pos c1, if_pos c2, hV, Bool.true_and]
        have h1 := bit_le (cntU_le (fun i => vot S d 0 (f + 1) i && !vot S d 1 (f + 1) i) 8) (cntU_le (fun i => vot S d 1 (f + 1) i && !vot S d 0 (f + 1) i) 8) (fun r => if nI (cntU (fun m => vot S d 0 f m && !vot S d 1 f m) 8) ≤ nI (cntU (fun m => vot S d 1 f m && !vot S d 0 f m) 8) then (if r = 0 then some (mv S d f, S) else some (nI f, S)) else (if r = 1 then some (mv S d f, S) else some (nI f, S)))
        refine Eq.trans (b := _) (by simp) (h1.trans ?_)
        have h2 := bit_le (cntU_le (fun i => vot S d 0 f i && !vot S d 1 f i) 8) (cntU_le (fun i => vot S d 1 f i && !vot S d 0 f i) 8) (fun r => if bit (car S d (f + 1)) = r then some (mv S d f, S) else some (nI f, S))
        refine Eq.trans h2 ?_
        show (if bit (car S d (f + 1)) = bit (car S d f) then _ else _) = _
        by_cases z : car S d (f + 1) = car S d f
        · rw [if_pos (by rw [z]), z]; simp
        · rw [if_neg (by rw [bit_inj]; exact z), if_pos (by simp [z])]
      · rw [if_pos c1, if_neg c2]
        have : isV S d f = false := by unfold isV; rw [decide_eq_false c2, Bool.and_false]
        rw [this]; rfl
    · rw [if_neg c1]
      have : isV S d f = false := by unfold isV; rw [decide_eq_false c1, Bool.false_and]
      rw [this]; rfl
theorem sim_moved {Sx Sm : ST} (h : RR Sx Sm) (a0 a1 : Int32) : ∃ r Sx' Sm', x11_moved Sx a0 a1 = some (r, Sx') ∧ m_moved Sm a0 a1 = some (r, Sm') ∧ RR Sx' Sm' := by
  obtain ⟨hT, hP, ⟨n, hn, f1, f2, hf⟩, hK, hW, hB⟩ := id h
  unfold x11_moved m_moved
  simp only [b4, n3, known_x hn f1, known_m hn f2, chk, chkS, calR]
  cases rb a0 4
  · exact ⟨_, _, _, rfl, rfl, h⟩
  cases c : rb a1 (n + 1)
  · exact ⟨_, _, _, rfl, rfl, h⟩
  obtain ⟨m, hm, rfl⟩ := rb_rng (by omega) c
  have hf' : ∀ f, f < m → factR Sx Sm f := fun f hf2 => hf f (by omega)
  obtain ⟨e, he⟩ := FU_s (m + 1) (by omega)
  have hx := last_h15 (show m ≤ 180 by omega) hf' a0 e m 0 (by omega)
  unfold x0_lastTurnOfDivision
  simp only [if_true, he]
  rw [show x0_lastTurnOfDivision_h15 (m + 1 + e) Sx a0 (nI m) 0 0 (-2) 0 0 = _ from hx, mv_h23 Sm a0 e m (by omega)]
  exact ⟨_, _, _, rfl, rfl, h⟩
