def CK (S : ST) (w : Nat) : Nat := (S.2.1 34 w).toNatClampNeg
theorem RK_C {Sx Sm : ST} (hK : RK Sx Sm) {w : Nat} (hw : w < 3) : CK Sm w ≤ 12 ∧ Sx.2.1 27 w = nI (CK Sm w) ∧ Sm.2.1 34 w = nI (CK Sm w) ∧ ∀ i, i < CK Sm w → Sx.2.1 26 (12 * w + i) = Sm.2.1 33 (12 * w + i) := by
  obtain ⟨c, hc, k1, k2, k3⟩ := hK w hw
  have e : CK Sm w = c := by unfold CK; rw [k2, nI_clamp (by omega)]
  rw [e]; exact ⟨hc, k1, k2, k3⟩
theorem g03 {α : Type} (x : Option α) : G (inb 0 3) x = x := rfl
theorem g13 {α : Type} (x : Option α) : G (inb 1 3) x = x := rfl
theorem g23 {α : Type} (x : Option α) : G (inb 2 3) x = x := rfl
theorem z0 : Int32.toNatClampNeg 0 = 0 := rfl
theorem z1 : Int32.toNatClampNeg 1 = 1 := rfl
theorem z2 : Int32.toNatClampNeg 2 = 2 := rfl
def wW (S : ST) (w i : Nat) : Int32 := S.2.1 33 (12 * w + i)
theorem wordAt_y {Sx Sm : ST} (hK : RK Sx Sm) {w i : Nat} (hw : w < 3) (hi : i < CK Sm w) : x8_wordAt Sx (nI w) (nI i) = some (wW Sm w i, Sx) := by
  obtain ⟨hc, k1, k2, k3⟩ := RK_C hK hw
  unfold x8_wordAt
  rw [if_neg (nI_pos (by omega)), lengthOf_y Sx hw, k1]
  simp (disch := omega) only [G_in, nI_add, nI_1, pk_mul, pk_sub, pk_m1, nI_clamp, nI_leI, nI_ltI, nI_eq, cal_s, calV_s, cal0_s, if_pos, if_neg, show (12 : Int32) = nI 12 from rfl, Nat.mul_comm w 12, k3 i hi]
  rfl
theorem wA0 {Sx Sm : ST} (hK : RK Sx Sm) {i : Nat} (hi : i < CK Sm 0) : x8_wordAt Sx 0 (nI i) = some (wW Sm 0 i, Sx) := wordAt_y (w := 0) hK (by decide) hi
theorem wA1 {Sx Sm : ST} (hK : RK Sx Sm) {i : Nat} (hi : i < CK Sm 1) : x8_wordAt Sx 1 (nI i) = some (wW Sm 1 i, Sx) := wordAt_y (w := 1) hK (by decide) hi
theorem wA2 {Sx Sm : ST} (hK : RK Sx Sm) {i : Nat} (hi : i < CK Sm 2) : x8_wordAt Sx 2 (nI i) = some (wW Sm 2 i, Sx) := wordAt_y (w := 2) hK (by decide) hi
def nq (S : ST) (k j : Nat) : Bool := !decide (wW S 0 (CK S 0 - k + j) = wW S 1 j)
theorem diff_h14 {Sx Sm : ST} (hK : RK Sx Sm) {k : Nat} (h0 : k ≤ CK Sm 0) (h1 : k ≤ CK Sm 1) (e : Nat) : ∀ j i, i + j = k → x8_differences_h14 (j + 1 + e) Sx (nI k) (nI (cntU (nq Sm k) i)) (nI (CK Sm 0 - k)) (nI i) = some (nI (cntU (nq Sm k) k), Sx) := by
  obtain ⟨hc0, -⟩ := RK_C hK (w := 0) (by decide)
  intro j
  induction j with
  | zero => intro i h; rw [show 0 + 1 + e = e + 1 by omega, x8_differences_h14, if_pos (nI_le (by omega) (by omega)), show i = k by omega]
  | succ j ih =>
    intro i h
    rw [show j + 1 + 1 + e = (j + 1 + e) + 1 by omega, x8_differences_h14, if_neg (nI_ge (by omega) (by omega)), ← ih (i + 1) (by omega)]
    unfold x8_differences_j42
    rw [nI_add, wA0 hK (show CK Sm 0 - k + i < CK Sm 0 by omega), cal_s, wA1 hK (show i < CK Sm 1 by omega), cal_s, cntU, nq]
    by_cases c : wW Sm 0 (CK Sm 0 - k + i) = wW Sm 1 i
    · simp only [c, if_true, decide_true, Bool.not_true, Bool.toNat_false, Nat.add_zero, nI_1]
    · simp only [c, if_false, decide_false, Bool.not_false, Bool.toNat_true, nI_1]
theorem diff_eq {Sx Sm : ST} (hK : RK Sx Sm) {k : Nat} (h0 : k ≤ CK Sm 0) (h1 : k ≤ CK Sm 1) : x8_differences Sx (nI k) = some (nI (cntU (nq Sm k) k), Sx) := by
  obtain ⟨hc0, k1, -⟩ := RK_C hK (w := 0) (by decide)
  obtain ⟨e, he⟩ := FU_s (k + 1) (by omega)
  unfold x8_differences
  rw [g03, z0, k1, pk_sub h0, he]
  exact diff_h14 hK h0 h1 e k 0 (by omega)
theorem joins_h4 {Sm : ST} (h12 : CK Sm 0 ≤ 12) (h12' : CK Sm 1 ≤ 12) (e0 : Sm.2.1 34 0 = nI (CK Sm 0)) {k : Nat} (h0 : k ≤ CK Sm 0) (h1 : k ≤ CK Sm 1) (e : Nat) : ∀ j i, i + j = k → m_joins_h4 m_joins_j45 (j + 1 + e) Sm (nI k) (nI (cntU (nq Sm k) i)) (nI i) = m_joins_j45 Sm (nI k) (nI (cntU (nq Sm k) k)) := by
  intro j
  induction j with
  | zero => intro i h; rw [show 0 + 1 + e = e + 1 by omega, m_joins_h4, if_pos (nI_le (by omega) (by omega)), show i = k by omega]
  | succ j ih =>
    intro i h
    rw [show j + 1 + 1 + e = (j + 1 + e) + 1 by omega, m_joins_h4, if_neg (nI_ge (by omega) (by omega)), ← ih (i + 1) (by omega)]
    unfold m_joins_j39
    rw [g03, z0, e0]
    simp (disch := omega) only [G_in, nI_add, nI_1, pk_mul, pk_sub, pk_m1, nI_clamp, nI_leI, nI_ltI, nI_eq, cal_s, calV_s, cal0_s, if_pos, if_neg, show (12 : Int32) = nI 12 from rfl]
    rw [cntU, nq]
    unfold wW
    by_cases c : Sm.2.1 33 (12 * 0 + (CK Sm 0 - k + i)) = Sm.2.1 33 (12 * 1 + i)
    · simp only [c, decide_true, Bool.not_true, Bool.toNat_false, Nat.add_zero]
      rw [if_pos (by rw [← c]; simp)]
    · simp only [c, decide_false, Bool.not_false, Bool.toNat_true]
      rw [if_neg (by intro q; apply c; rw [← q]; simp)]
def okj (S : ST) (k : Nat) : Bool := decide (cntU (nq S k) k ≤ k / 3)
theorem joins_eq {Sm : ST} (h12 : CK Sm 0 ≤ 12) (h12' : CK Sm 1 ≤ 12) (e0 : Sm.2.1 34 0 = nI (CK Sm 0)) {k : Nat} (h0 : k ≤ CK Sm 0) (h1 : k ≤ CK Sm 1) : m_joins Sm (nI k) = some (bit (okj Sm k), Sm) := by
  obtain ⟨e, he⟩ := FU_s (k + 1) (by omega)
  have hc := cntU_le (nq Sm k) k
  have := joins_h4 h12 h12' e0 h0 h1 e k 0 (by omega)
  unfold m_joins
  rw [he]
  refine this.trans ?_
  unfold m_joins_j45 okj
  rw [show (3 : Int32) = nI 3 from rfl, pk_div (by omega) (by decide) (by decide)]
  by_cases c : cntU (nq Sm k) k ≤ k / 3
  · rw [if_neg (nI_nlt c (by omega)), decide_eq_true c]; rfl
  · rw [if_pos (nI_lt (by omega) (by omega)), decide_eq_false c]; rfl
def bst (S : ST) : Nat → Nat
  | 0 => 0
  | k + 1 => if okj S (k + 1) = true then k + 1 else bst S k
theorem bst_le (S : ST) : ∀ k, bst S k ≤ k := by
  intro k
  induction k with
  | zero => exact Nat.le_refl 0
  | succ k ih => rw [bst]; by_cases c : okj S (k + 1) = true
                 · rw [if_pos c]; exact Nat.le_refl _
                 · rw [if_neg c]; omega
theorem over_h16 {Sx Sm : ST} (hK : RK Sx Sm) (e : Nat) : ∀ k, k ≤ CK Sm 0 → k ≤ CK Sm 1 → x8_overlap_h16 (k + 1 + e) Sx (nI k) = some (nI (bst Sm k), Sx) := by
  obtain ⟨hc0, -⟩ := RK_C hK (w := 0) (by decide)
  intro k
  induction k with
  | zero => intro _ _; rw [show 0 + 1 + e = e + 1 by omega, x8_overlap_h16, if_pos (by decide)]; rfl
  | succ k ih =>
    intro h0 h1
    have hc := cntU_le (nq Sm (k + 1)) (k + 1)
    rw [show k + 1 + 1 + e = (k + 1 + e) + 1 by omega, x8_overlap_h16, if_neg (nI_nle (by omega) (by omega)), diff_eq hK h0 h1, cal_s, bst]
    simp only [pk_m1]
    rw [ih (by omega) (by omega), show (3 : Int32) = nI 3 from rfl, pk_div (by omega) (by decide) (by decide)]
    unfold okj
    by_cases c : cntU (nq Sm (k + 1)) (k + 1) ≤ (k + 1) / 3
    · rw [if_neg (nI_nlt c (by omega)), if_pos (decide_eq_true c)]
    · rw [if_pos (nI_lt (by omega) (by omega)), if_neg (by simp; omega)]
theorem over_eq {Sx Sm : ST} (hK : RK Sx Sm) : x8_overlap Sx = some (nI (bst Sm (min (CK Sm 0) (CK Sm 1))), Sx) := by
  obtain ⟨hc0, k0, -⟩ := RK_C hK (w := 0) (by decide)
  obtain ⟨hc1, k1, -⟩ := RK_C hK (w := 1) (by decide)
  obtain ⟨e, he⟩ := FU_s (min (CK Sm 0) (CK Sm 1) + 1) (by omega)
  have := over_h16 hK e (min (CK Sm 0) (CK Sm 1)) (by omega) (by omega)
  unfold x8_overlap
  rw [g03, g13, z0, z1, k0, k1, he, ← this]
  by_cases c : CK Sm 1 < CK Sm 0
  · rw [if_pos (nI_lt c (by omega)), Nat.min_eq_right (by omega)]
  · rw [if_neg (nI_nlt (by omega) (by omega)), Nat.min_eq_left (by omega)]
theorem join_h4 {Sm : ST} (hc0 : CK Sm 0 ≤ 12) (hc1 : CK Sm 1 ≤ 12) (e0 : Sm.2.1 34 0 = nI (CK Sm 0)) (e1 : Sm.2.1 34 1 = nI (CK Sm 1)) (e : Nat) : ∀ j i, i + j = min (CK Sm 0) (CK Sm 1) → m_join_h4 (j + 1 + e) Sm (nI (bst Sm i)) (nI (i + 1)) = some (nI (bst Sm (min (CK Sm 0) (CK Sm 1))), Sm) := by
  intro j
  induction j with
  | zero =>
    intro i h
    rw [show 0 + 1 + e = e + 1 by omega, m_join_h4, g03, z0, e0, ← h]
    by_cases c : CK Sm 0 < i + 1
    · rw [if_pos (nI_lt c (by omega))]; rfl
    · rw [if_neg (nI_nlt (by omega) (by omega)), g13, z1, e1, if_pos (nI_lt (by omega) (by omega))]; rfl
  | succ j ih =>
    intro i h
    rw [show j + 1 + 1 + e = (j + 1 + e) + 1 by omega, m_join_h4, g03, z0, e0, if_neg (nI_nlt (by omega) (by omega)), g13, z1, e1, if_neg (nI_nlt (by omega) (by omega)), joins_eq hc0 hc1 e0 (by omega) (by omega), chkS, ← ih (i + 1) (by omega)]
    unfold m_join_j34
    rw [bst]
    cases okj Sm (i + 1) <;> simp only [nI_1, if_true, if_false, Bool.false_eq_true]
theorem join_eq {Sx Sm : ST} (hK : RK Sx Sm) : m_join Sm = some (nI (bst Sm (min (CK Sm 0) (CK Sm 1))), Sm) := by
  obtain ⟨hc0, -, k0, -⟩ := RK_C hK (w := 0) (by decide)
  obtain ⟨hc1, -, k1, -⟩ := RK_C hK (w := 1) (by decide)
  obtain ⟨e, he⟩ := FU_s (min (CK Sm 0) (CK Sm 1) + 1) (by omega)
  unfold m_join
  rw [he]
  exact join_h4 hc0 hc1 k0 k1 e _ 0 (by omega)
theorem sim_join {Sx Sm : ST} (h : RR Sx Sm) : ∃ r Sx' Sm', x11_join Sx = some (r, Sx') ∧ m_join Sm = some (r, Sm') ∧ RR Sx' Sm' := by
  unfold x11_join
  rw [over_eq h.2.2.2.1, join_eq h.2.2.2.1]
  exact ⟨_, _, _, rfl, rfl, h⟩
/-! joined -/
def hq (S : ST) (v : Int32) (j : Nat) : Bool := decide (wW S 2 j = v)
theorem times_h4 {Sx Sm : ST} (hK : RK Sx Sm) (v : Int32) (e : Nat) : ∀ j i, i + j = CK Sm 2 → x8_timesOnTape_h4 (j + 1 + e) Sx v (nI (cntU (hq Sm v) i)) (nI i) = some (nI (cntU (hq Sm v) (CK Sm 2)), Sx) := by
  obtain ⟨hc, k1, -⟩ := RK_C hK (w := 2) (by decide)
  intro j
  induction j with
  | zero => intro i h; rw [show 0 + 1 + e = e + 1 by omega, x8_timesOnTape_h4, g23, z2, k1, if_pos (nI_le (by omega) (by omega)), show i = CK Sm 2 by omega]
  | succ j ih =>
    intro i h
    rw [show j + 1 + 1 + e = (j + 1 + e) + 1 by omega, x8_timesOnTape_h4, g23, z2, k1, if_neg (nI_ge (by omega) (by omega)), ← ih (i + 1) (by omega)]
    unfold x8_timesOnTape_j27
    rw [wA2 hK (show i < CK Sm 2 by omega), cal_s, cntU, hq]
    by_cases c : wW Sm 2 i = v
    · simp only [c, if_true, decide_true, Bool.toNat_true, nI_1]
    · simp only [c, if_false, decide_false, Bool.toNat_false, Nat.add_zero, nI_1]
theorem times_eq {Sx Sm : ST} (hK : RK Sx Sm) (v : Int32) : x8_timesOnTape Sx v = some (nI (cntU (hq Sm v) (CK Sm 2)), Sx) := by
  obtain ⟨hc, -⟩ := RK_C hK (w := 2) (by decide)
  obtain ⟨e, he⟩ := FU_s (CK Sm 2 + 1) (by omega)
  unfold x8_timesOnTape
  rw [he]
  exact times_h4 hK v e _ 0 (by omega)
theorem onT_h4 {Sm : ST} (hc : CK Sm 2 ≤ 12) (k1 : Sm.2.1 34 2 = nI (CK Sm 2)) (v : Int32) (e : Nat) : ∀ j i, i + j = CK Sm 2 → m_onTape_h4 (j + 1 + e) Sm v (nI (cntU (hq Sm v) i)) (nI i) = some (nI (cntU (hq Sm v) (CK Sm 2)), Sm) := by
  intro j
  induction j with
  | zero => intro i h; rw [show 0 + 1 + e = e + 1 by omega, m_onTape_h4, g23, z2, k1, if_pos (nI_le (by omega) (by omega)), show i = CK Sm 2 by omega]
  | succ j ih =>
    intro i h
    rw [show j + 1 + 1 + e = (j + 1 + e) + 1 by omega, m_onTape_h4, g23, z2, k1, if_neg (nI_ge (by omega) (by omega)), ← ih (i + 1) (by omega)]
    unfold m_onTape_j30
    simp (disch := omega) only [G_in, nI_add, nI_1, pk_mul, pk_sub, pk_m1, nI_clamp, nI_leI, nI_ltI, nI_eq, cal_s, calV_s, cal0_s, if_pos, if_neg, show (24 : Int32) = nI 24 from rfl]
    rw [cntU, hq]
    unfold wW
    by_cases c : Sm.2.1 33 (12 * 2 + i) = v
    · rw [if_pos (show Sm.2.1 33 (24 + i) = v from c)]; simp only [c, decide_true, Bool.toNat_true]
    · rw [if_neg (show ¬ Sm.2.1 33 (24 + i) = v from c)]; simp only [c, decide_false, Bool.toNat_false, Nat.add_zero]
theorem onT_eq {Sx Sm : ST} (hK : RK Sx Sm) (v : Int32) : m_onTape Sm v = some (nI (cntU (hq Sm v) (CK Sm 2)), Sm) := by
  obtain ⟨hc, -, k1, -⟩ := RK_C hK (w := 2) (by decide)
  obtain ⟨e, he⟩ := FU_s (CK Sm 2 + 1) (by omega)
  unfold m_onTape
  rw [he]
  exact onT_h4 hc k1 v e _ 0 (by omega)
theorem sim_joined {Sx Sm : ST} (h : RR Sx Sm) (a0 : Int32) : ∃ r Sx' Sm', x11_joined Sx a0 = some (r, Sx') ∧ m_joined Sm a0 = some (r, Sm') ∧ RR Sx' Sm' := by
  have hK := h.2.2.2.1
  obtain ⟨hc0, x0, k0, w0⟩ := RK_C hK (w := 0) (by decide)
  obtain ⟨hc1, x1, k1, w1⟩ := RK_C hK (w := 1) (by decide)
  have hb := bst_le Sm (min (CK Sm 0) (CK Sm 1))
  unfold x11_joined m_joined x8_joinWord
  rw [over_eq hK, join_eq hK]
  generalize bst Sm (min (CK Sm 0) (CK Sm 1)) = k at *
  simp only [cal_s, g03, g13, z0, z1, x0, x1, k0, k1]
  by_cases c0 : a0 < 0
  · simp only [c0, if_true]; exact ⟨_, _, _, rfl, rfl, h⟩
  obtain ⟨i, hi, rfl⟩ := nI_of c0
  simp only [c0, if_false]
  simp (disch := omega) only [G_in, nI_add, nI_1, pk_mul, pk_sub, pk_m1, nI_clamp, nI_leI, nI_ltI, nI_eq, cal_s, calV_s, cal0_s, if_pos, if_neg, show (12 : Int32) = nI 12 from rfl]
  have e1 : CK Sm 0 - k + CK Sm 1 = CK Sm 0 + CK Sm 1 - k := by omega
  rw [e1]
  by_cases c1 : i < CK Sm 0 + CK Sm 1 - k
  · simp only [c1, if_true]
    by_cases c2 : CK Sm 0 - k ≤ i
    · simp only [c2, if_true]
      by_cases c3 : i < CK Sm 0
      · simp only [c3, if_true]
        have e2 : 12 + i - CK Sm 0 + k = 12 * 1 + (i - (CK Sm 0 - k)) := by omega
        rw [wA0 hK c3, cal_s, wA1 hK (show i - (CK Sm 0 - k) < CK Sm 1 by omega), e2]
        unfold x8_moreHeard
        simp only [cal_s, times_eq hK, onT_eq hK, show Sm.2.1 33 (12 * 1 + (i - (CK Sm 0 - k))) = wW Sm 1 (i - (CK Sm 0 - k)) from rfl, show Sm.2.1 33 i = wW Sm 0 i from by unfold wW; rw [Nat.mul_zero, Nat.zero_add]]
        by_cases c4 : nI (cntU (hq Sm (wW Sm 1 (i - (CK Sm 0 - k)))) (CK Sm 2)) ≤ nI (cntU (hq Sm (wW Sm 0 i)) (CK Sm 2))
        · simp only [c4, if_true]; exact ⟨_, _, _, rfl, rfl, h⟩
        · simp only [c4, if_false]; exact ⟨_, _, _, rfl, rfl, h⟩
      · simp only [c3, if_false]
        have e2 : 12 + i - CK Sm 0 + k = 12 * 1 + (i - (CK Sm 0 - k)) := by omega
        rw [wA1 hK (show i - (CK Sm 0 - k) < CK Sm 1 by omega), e2]
        exact ⟨_, _, _, rfl, rfl, h⟩
    · simp only [c2, if_false]
      rw [wA0 hK (show i < CK Sm 0 by omega)]
      refine ⟨_, _, _, rfl, ?_, h⟩
      unfold wW; rw [Nat.mul_zero, Nat.zero_add]
  · simp only [c1, if_false]; exact ⟨_, _, _, rfl, rfl, h⟩
