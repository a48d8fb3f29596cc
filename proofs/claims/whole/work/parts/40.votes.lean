def anyB (p : Nat → Bool) : Nat → Bool
  | 0 => false
  | n + 1 => anyB p n || p n
theorem anyB_mono {p : Nat → Bool} {m : Nat} (h : anyB p m = true) : ∀ {n : Nat}, m ≤ n → anyB p n = true := by
  intro n
  induction n with
  | zero => intro hm; rw [show m = 0 by omega] at h; exact h
  | succ n ih =>
    intro hm
    by_cases c : m = n + 1
    · rw [← c]; exact h
    · rw [anyB, ih (by omega)]; rfl
theorem anyB_congr {p q : Nat → Bool} : ∀ {n : Nat}, (∀ k, k < n → p k = q k) → anyB p n = anyB q n := by
  intro n
  induction n with
  | zero => intro _; rfl
  | succ n ih => intro h; rw [anyB, anyB, ih (fun k hk => h k (by omega)), h n (by omega)]
/-- a vote of a member on a side -/
def pv (S : ST) (d : Int32) (m : Int32) (sd : Int32) (k : Nat) : Bool := decide (S.2.1 24 k = 9) && (decide (S.2.1 26 k = d) && (decide (S.2.1 27 k = m) && decide (S.2.1 28 k = sd)))
theorem has_h3 (S : ST) (d m sd : Int32) {n : Nat} (hn : n ≤ 180) (e : Nat) : ∀ j f, f + j = n → anyB (pv S d m sd) f = false → m_has_h3 (j + 1 + e) S d m sd (nI n) (nI f) = some (bit (anyB (pv S d m sd) n), S) := by
  intro j
  induction j with
  | zero =>
    intro f hf h0
    rw [show 0 + 1 + e = e + 1 by omega, m_has_h3, if_pos (nI_le (by omega) (by omega)), show n = f by omega, h0]; rfl
  | succ j ih =>
    intro f hf h0
    rw [show j + 1 + 1 + e = (j + 1 + e) + 1 by omega, m_has_h3, if_neg (nI_ge (by omega) (by omega))]
    unfold m_has_j57
    simp only [G_in (show f < 180 by omega) (by decide : 180 < 2 ^ 31), nI_clamp (show f < 2 ^ 31 by omega), nI_1]
    have go : pv S d m sd f = false → m_has_h3 (j + 1 + e) S d m sd (nI n) (nI (f + 1)) = some (bit (anyB (pv S d m sd) n), S) := fun q => ih (f + 1) (by omega) (by rw [anyB, h0, q]; rfl)
    by_cases c1 : S.2.1 24 f = 9
    · rw [if_pos c1]
      by_cases c2 : S.2.1 26 f = d
      · rw [if_pos c2]
        by_cases c3 : S.2.1 27 f = m
        · rw [if_pos c3]
          by_cases c4 : S.2.1 28 f = sd
          · rw [if_pos c4, anyB_mono (m := f + 1) (by rw [anyB, h0]; simp [pv, c1, c2, c3, c4]) (by omega)]; rfl
          · rw [if_neg c4]; exact go (by simp [pv, c4])
        · rw [if_neg c3]; exact go (by simp [pv, c3])
      · rw [if_neg c2]; exact go (by simp [pv, c2])
    · rw [if_neg c1]; exact go (by simp [pv, c1])
theorem has_eq (S : ST) (d m sd : Int32) {n : Nat} (hn : n ≤ 180) : m_has S d m sd (nI n) = some (bit (anyB (pv S d m sd) n), S) := by
  obtain ⟨e, he⟩ := FU_s (n + 1) (by omega)
  unfold m_has
  rw [he]
  exact has_h3 S d m sd hn e n 0 (by omega) rfl
/-- sets of members -/
def v8 (b0 b1 b2 b3 b4 b5 b6 b7 : Bool) : Int32 := nI (b0.toNat + 2 * b1.toNat + 4 * b2.toNat + 8 * b3.toNat + 16 * b4.toNat + 32 * b5.toNat + 64 * b6.toNat + 128 * b7.toNat)
theorem v8_bt : ∀ b0 b1 b2 b3 b4 b5 b6 b7 : Bool, ∀ i, i < 32 → bt (v8 b0 b1 b2 b3 b4 b5 b6 b7) i = [b0, b1, b2, b3, b4, b5, b6, b7].getD i false := by decide +kernel
def bs (p : Nat → Bool) : Int32 := v8 (p 0) (p 1) (p 2) (p 3) (p 4) (p 5) (p 6) (p 7)
theorem l8 (p : Nat → Bool) (i : Nat) : [p 0, p 1, p 2, p 3, p 4, p 5, p 6, p 7].getD i false = (decide (i < 8) && p i) := by
  rcases Nat.lt_or_ge i 8 with h | h
  · rcases (show i = 0 ∨ i = 1 ∨ i = 2 ∨ i = 3 ∨ i = 4 ∨ i = 5 ∨ i = 6 ∨ i = 7 by omega) with rfl | rfl | rfl | rfl | rfl | rfl | rfl | rfl <;> rfl
  · rw [decide_eq_false (by omega), Bool.false_and, List.getD_eq_getElem?_getD, List.getElem?_eq_none (by simpa using h)]; rfl
theorem bs_bt (p : Nat → Bool) {i : Nat} (hi : i < 32) : bt (bs p) i = (decide (i < 8) && p i) := by rw [bs, v8_bt _ _ _ _ _ _ _ _ i hi, l8]
theorem of_bt {x : Int32} {p : Nat → Bool} (h : ∀ i, i < 32 → bt x i = (decide (i < 8) && p i)) : x = bs p := b_ext (fun i hi => by rw [h i hi, bs_bt p hi])
theorem bs_0 : bs (fun _ => false) = 0 := rfl
theorem bt_1 : ∀ m, m < 8 → ∀ i, i < 32 → bt ((1 : Int32) <<< (nI m &&& 31)) i = decide (i = m) := by decide +kernel
theorem bs_or (p : Nat → Bool) {m : Nat} (hm : m < 8) : bs p ||| ((1 : Int32) <<< (nI m &&& 31)) = bs (fun i => p i || decide (i = m)) := of_bt (fun i hi => by
  rw [b_or, bs_bt p hi, bt_1 m hm i hi]
  by_cases c : i = m
  · subst c; simp [hm]
  · simp [c])
theorem bs_and (p q : Nat → Bool) : bs p &&& bs q = bs (fun i => p i && q i) := of_bt (fun i hi => by rw [b_and, bs_bt p hi, bs_bt q hi]; cases decide (i < 8) <;> simp)
theorem b_n1 : ∀ i, i < 32 → bt (-1) i = true := by decide +kernel
theorem bs_nand (p q : Nat → Bool) : bs p &&& (bs q ^^^ (-1)) = bs (fun i => p i && !q i) := of_bt (fun i hi => by rw [b_and, b_xor, bs_bt p hi, bs_bt q hi, b_n1 i hi]; cases decide (i < 8) <;> simp)
def cntU (p : Nat → Bool) : Nat → Nat
  | 0 => 0
  | m + 1 => cntU p m + (p m).toNat
theorem bcv : ∀ b0 b1 b2 b3 b4 b5 b6 b7 : Bool, j6_bitCount_0f7a4 (v8 b0 b1 b2 b3 b4 b5 b6 b7) = some (nI (0 + b0.toNat + b1.toNat + b2.toNat + b3.toNat + b4.toNat + b5.toNat + b6.toNat + b7.toNat)) := by decide +kernel
theorem bc (p : Nat → Bool) : j6_bitCount_0f7a4 (bs p) = some (nI (cntU p 8)) := bcv _ _ _ _ _ _ _ _
theorem cntU_le (p : Nat → Bool) : ∀ m, cntU p m ≤ m := by
  intro m
  induction m with
  | zero => exact Nat.le_refl 0
  | succ m ih => rw [cntU]; have : (p m).toNat ≤ 1 := by cases p m <;> decide
                 omega
theorem isAbout_b {S : ST} {f : Nat} (hf : f < 180) (k l : Int32) : x0_isAbout S (nI f) k l = some (bit (decide (S.2.1 13 f = k) && decide (S.2.1 21 f = l)), S) := by
  unfold x0_isAbout
  rw [G_in hf (by decide), nI_clamp (by omega)]
  by_cases c : S.2.1 13 f = k
  · rw [if_pos c, G_in hf (by decide), bit_ite, decide_eq_true c, Bool.true_and]
  · rw [if_neg c, decide_eq_false c, Bool.false_and]; rfl
/-- who has a vote on a side, among the first f -/
def vot (S : ST) (d sd : Int32) (f : Nat) : Nat → Bool := fun m => anyB (pv S d (nI m) sd) f
theorem vot_0 (S : ST) (d sd : Int32) : vot S d sd 0 = fun _ => false := rfl
theorem voters_h6 {Sx Sm : ST} {n : Nat} (hn : n ≤ 180) (hf : ∀ f, f < n → factR Sx Sm f) (d sd : Int32) (e : Nat) : ∀ j f, f + j = n → x0_voters_h6 (j + 1 + e) Sx d sd (nI n) (bs (vot Sm d sd f)) (nI f) = some (bs (vot Sm d sd n), Sx) := by
  intro j
  induction j with
  | zero =>
    intro f h
    rw [show 0 + 1 + e = e + 1 by omega, x0_voters_h6, if_pos (nI_le (by omega) (by omega)), show n = f by omega]
  | succ j ih =>
    intro f h
    have hR := hf f (by omega)
    rw [show j + 1 + 1 + e = (j + 1 + e) + 1 by omega, x0_voters_h6, if_neg (nI_ge (by omega) (by omega)), isAbout_b (by omega), chkS, FK_9 hR.1, ← ih (f + 1) (by omega)]
    unfold x0_voters_j49
    simp only [G_in (show f < 180 by omega) (by decide : 180 < 2 ^ 31), nI_clamp (show f < 2 ^ 31 by omega), nI_1]
    have same : (∀ m, m < 8 → pv Sm d (nI m) sd f = false) → bs (vot Sm d sd (f + 1)) = bs (vot Sm d sd f) := fun q => by
      refine (of_bt (fun i hi => ?_)).symm
      rw [bs_bt _ hi]
      by_cases c : i < 8
      · show _ = (_ && (anyB (pv Sm d (nI i) sd) f || pv Sm d (nI i) sd f)); rw [q i c, Bool.or_false]; rfl
      · simp [c]
    by_cases c1 : Sm.2.1 24 f = 9
    · obtain ⟨v1, v2, ⟨m, hm, v3⟩, v4, -⟩ := hR.2.2.2.2.2.2.2.2.2.2 c1
      rw [v1, v4, v2, v3]
      by_cases c2 : Sm.2.1 26 f = d
      · by_cases c3 : Sm.2.1 28 f = sd
        · simp only [c1, c2, c3, decide_true, Bool.and_self, if_true, bs_or _ hm]
          congr 1
          refine of_bt (fun i hi => ?_)
          rw [bs_bt _ hi]
          by_cases c : i < 8
          · show _ = (_ && (anyB (pv Sm d (nI i) sd) f || pv Sm d (nI i) sd f))
            have e1 : pv Sm d (nI i) sd f = decide (i = m) := by
              unfold pv
              rw [v3]
              simp only [c1, c2, c3, decide_true, Bool.true_and, Bool.and_true]
              by_cases z : i = m
              · rw [decide_eq_true z, decide_eq_true (by rw [z])]
              · rw [decide_eq_false z, decide_eq_false (fun q => z ((nI_eq (by omega) (by omega)).mp q).symm)]
            rw [e1]; rfl
          · simp [c]
        · simp only [c1, c2, c3, decide_true, Bool.and_self, if_true, if_false]
          rw [same (fun m hm => by simp [pv, c3])]
      · simp only [c1, c2, decide_true, decide_false, Bool.and_false, Bool.false_eq_true, if_false]
        rw [same (fun m hm => by simp [pv, c2])]
    · simp only [c1, decide_false, Bool.false_and, Bool.false_eq_true, if_false]
      rw [same (fun m hm => by simp [pv, c1])]
theorem voters_eq {Sx Sm : ST} {n : Nat} (hn : n ≤ 180) (hf : ∀ f, f < n → factR Sx Sm f) (d sd : Int32) : x0_voters Sx d sd (nI n) = some (bs (vot Sm d sd n), Sx) := by
  obtain ⟨e, he⟩ := FU_s (n + 1) (by omega)
  unfold x0_voters
  rw [he]
  exact voters_h6 hn hf d sd e n 0 (by omega)
theorem sumOf_h6 (S : ST) (d sd : Int32) {n : Nat} (hn : n ≤ 180) (e : Nat) : ∀ j f, f + j = 8 → m_sumOf_h6 (j + 1 + e) S d sd (nI n) (nI (cntU (fun m => vot S d sd n m && !vot S d (1 - sd) n m) f)) (nI f) = some (nI (cntU (fun m => vot S d sd n m && !vot S d (1 - sd) n m) 8), S) := by
  intro j
  induction j with
  | zero =>
    intro f h
    rw [show 0 + 1 + e = e + 1 by omega, m_sumOf_h6, show f = 8 by omega, if_pos (show (8 : Int32) ≤ nI 8 from by decide)]
  | succ j ih =>
    intro f h
    rw [show j + 1 + 1 + e = (j + 1 + e) + 1 by omega, m_sumOf_h6, if_neg (show ¬ (8 : Int32) ≤ nI f from nI_ge (b := 8) (by omega) (by decide)), has_eq S d _ sd hn, chkS, ← ih (f + 1) (by omega)]
    unfold m_sumOf_j42
    rw [cntU]
    show (if vot S d sd n f = true then _ else _) = _
    cases c1 : vot S d sd n f
    · simp only [Bool.false_eq_true, if_false, Bool.false_and, Bool.toNat_false, Nat.add_zero, nI_1]
    · simp only [if_true]
      rw [has_eq S d _ (1 - sd) hn]
      show (cal (some (bit (vot S d (1 - sd) n f), S)) _) = _
      cases c2 : vot S d (1 - sd) n f
      · simp only [bit, Bool.false_eq_true, if_false, cal_s, if_true, nI_1]
        rfl
      · simp only [bit, if_true, cal_s, i10, if_false, nI_1]
        rfl
theorem sumOf_eq (S : ST) (d sd : Int32) {n : Nat} (hn : n ≤ 180) : m_sumOf S d sd (nI n) = some (nI (cntU (fun m => vot S d sd n m && !vot S d (1 - sd) n m) 8), S) := by
  obtain ⟨e, he⟩ := FU_s 9 (by omega)
  unfold m_sumOf
  rw [he]
  exact sumOf_h6 S d sd hn e 8 0 (by omega)
theorem sim_sum {Sx Sm : ST} (h : RR Sx Sm) (a0 a1 a2 : Int32) : ∃ r Sx' Sm', x11_sum Sx a0 a1 a2 = some (r, Sx') ∧ m_sum Sm a0 a1 a2 = some (r, Sm') ∧ RR Sx' Sm' := by
  obtain ⟨hT, hP, ⟨n, hn, f1, f2, hf⟩, hK, hW, hB⟩ := id h
  unfold x11_sum m_sum
  simp only [b4, b2, n3, n1, known_x hn f1, known_m hn f2, chk, chkS, calR]
  cases rb a0 4
  · exact ⟨_, _, _, rfl, rfl, h⟩
  cases rb a1 2
  · exact ⟨_, _, _, rfl, rfl, h⟩
  cases c : rb a2 (n + 1)
  · exact ⟨_, _, _, rfl, rfl, h⟩
  obtain ⟨m, hm, rfl⟩ := rb_rng (by omega) c
  have hf' : ∀ f, f < m → factR Sx Sm f := fun f hf2 => hf f (by omega)
  simp only [if_true, voters_eq (show m ≤ 180 by omega) hf', sumOf_eq Sm a0 a1 (show m ≤ 180 by omega), cal_s, bs_nand, bc, cal0_s]
  exact ⟨_, _, _, rfl, rfl, h⟩
theorem doubles_h24 (S : ST) (d : Int32) {n : Nat} (hn : n ≤ 180) (e : Nat) : ∀ j f, f + j = 8 → m_doubles_h24 (j + 1 + e) S d (nI n) (bs (fun m => decide (m < f) && (vot S d 0 n m && vot S d 1 n m))) (nI f) = some (bs (fun m => vot S d 0 n m && vot S d 1 n m), S) := by
  intro j
  induction j with
  | zero =>
    intro f h
    rw [show 0 + 1 + e = e + 1 by omega, m_doubles_h24, show f = 8 by omega, if_pos (show (8 : Int32) ≤ nI 8 from by decide)]
    congr 2
  | succ j ih =>
    intro f h
    rw [show j + 1 + 1 + e = (j + 1 + e) + 1 by omega, m_doubles_h24, if_neg (show ¬ (8 : Int32) ≤ nI f from nI_ge (b := 8) (by omega) (by decide)), has_eq S d _ 0 hn, chkS, ← ih (f + 1) (by omega)]
    unfold m_doubles_j62
    have same : (vot S d 0 n f && vot S d 1 n f) = false → bs (fun m => decide (m < f + 1) && (vot S d 0 n m && vot S d 1 n m)) = bs (fun m => decide (m < f) && (vot S d 0 n m && vot S d 1 n m)) := fun q => by
      refine (of_bt (fun i hi => ?_)).symm
      rw [bs_bt _ hi]
      by_cases c : i = f
      · subst c; simp [q]
      · rw [show decide (i < f + 1) = decide (i < f) from decide_eq_decide.mpr (by omega)]
    show (if vot S d 0 n f = true then _ else _) = _
    cases c1 : vot S d 0 n f
    · rw [same (by rw [c1]; rfl)]
      simp only [Bool.false_eq_true, if_false, nI_1]
    · simp only [if_true]
      rw [has_eq S d _ 1 hn]
      show (cal (some (bit (vot S d 1 n f), S)) _) = _
      cases c2 : vot S d 1 n f
      · rw [same (by rw [c1, c2]; rfl)]
        simp only [bit, Bool.false_eq_true, if_false, cal_s, if_true, nI_1]
      · simp only [bit, if_true, cal_s, i10, if_false, nI_1, bs_or _ (show f < 8 by omega)]
        congr 1
        refine of_bt (fun i hi => ?_)
        rw [bs_bt _ hi]
        by_cases c : i = f
        · subst c; simp [c1, c2]
        · rw [show decide (i < f + 1) = decide (i < f) from decide_eq_decide.mpr (by omega), decide_eq_false c, Bool.or_false]
theorem sim_doubles {Sx Sm : ST} (h : RR Sx Sm) (a0 a1 : Int32) : ∃ r Sx' Sm', x11_doubles Sx a0 a1 = some (r, Sx') ∧ m_doubles Sm a0 a1 = some (r, Sm') ∧ RR Sx' Sm' := by
  obtain ⟨hT, hP, ⟨n, hn, f1, f2, hf⟩, hK, hW, hB⟩ := id h
  unfold x11_doubles m_doubles
  simp only [b4, n3, known_x hn f1, known_m hn f2, chk, chkS]
  cases rb a0 4
  · exact ⟨_, _, _, rfl, rfl, h⟩
  cases c : rb a1 (n + 1)
  · exact ⟨_, _, _, rfl, rfl, h⟩
  obtain ⟨m, hm, rfl⟩ := rb_rng (by omega) c
  have hf' : ∀ f, f < m → factR Sx Sm f := fun f hf2 => hf f (by omega)
  obtain ⟨e, he⟩ := FU_s 9 (by omega)
  have hd := doubles_h24 Sm a0 (show m ≤ 180 by omega) e 8 0 (by omega)
  have h0 : bs (fun i => decide (i < 0) && (vot Sm a0 0 m i && vot Sm a0 1 m i)) = 0 := rfl
  rw [h0] at hd
  simp only [if_true, voters_eq (show m ≤ 180 by omega) hf', cal_s, bs_and, he]
  rw [show m_doubles_h24 (9 + e) Sm a0 (nI m) 0 0 = _ from hd]
  exact ⟨_, _, _, rfl, rfl, h⟩
