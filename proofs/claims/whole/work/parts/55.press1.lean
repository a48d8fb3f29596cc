def anyF (P : Nat → Bool) : Nat → Nat → Bool
  | 0, _ => false
  | j + 1, i => P i || anyF P j (i + 1)
def lastV (P : Nat → Bool) (V : Nat → Int32) : Nat → Int32
  | 0 => 0
  | k + 1 => if P k = true then V k else lastV P V k
theorem lastV_0 {P : Nat → Bool} {V : Nat → Int32} : ∀ {n : Nat}, (∀ k, k < n → P k = false) → lastV P V n = 0 := by
  intro n
  induction n with
  | zero => intro _; rfl
  | succ n ih => intro h; rw [lastV, h n (by omega), if_neg (by decide), ih (fun k hk => h k (by omega))]
def stP (T : ST) (f : Nat) (day : Int32) (k : Nat) : Bool := decide (T.2.1 24 k = 6) && (decide (T.2.1 26 k = nI f) && !decide (day < T.2.1 25 k))
def ofP (T : ST) (mem : Int32) (k : Nat) : Bool := decide (T.2.1 24 k = 2) && decide (T.2.1 26 k = mem)
def heP (T : ST) (f : Nat) (k : Nat) : Bool := decide (T.2.1 24 k = 5) && decide (T.2.1 26 k = nI f)
def paP (T : ST) (f : Nat) (k : Nat) : Bool := decide (T.2.1 24 k = 3) && (decide (T.2.1 27 f = 1) && (decide (T.2.1 26 k = T.2.1 30 f) && decide (T.2.1 27 k = T.2.1 31 f)))
def liP (T : ST) (f : Nat) (k : Nat) : Bool := decide (T.2.1 24 k = 0) && (decide (T.2.1 25 k = T.2.1 25 f) && decide (T.2.1 28 k = T.2.1 28 f))
theorem bdec {c : Prop} [Decidable c] {b : Bool} (h : decide c = b) {α : Type} (x y : α) : (if c then x else y) = if b = true then x else y := by
  subst h
  by_cases q : c
  · rw [if_pos q, if_pos (decide_eq_true q)]
  · rw [if_neg q, if_neg (by simp [q])]
theorem sx_h5 {S T : ST} {n m f : Nat} (hn : n ≤ 180) (hm : m ≤ n) (hf : ∀ k, k < n → factR S T k) (day : Int32) (e : Nat) : ∀ j i, i + j = m → x0_isStruckBy_h5 (j + 1 + e) S (nI f) day (nI m) (nI i) = some (bit (anyF (stP T f day) j i), S) := by
  intro j
  induction j with
  | zero => intro i h; rw [show 0 + 1 + e = e + 1 by omega, x0_isStruckBy_h5, if_pos (nI_le (by omega) (by omega))]; rfl
  | succ j ih =>
    intro i h
    have hR := hf i (by omega)
    rw [show j + 1 + 1 + e = (j + 1 + e) + 1 by omega, x0_isStruckBy_h5, if_neg (nI_ge (by omega) (by omega)), isAbout_b (by omega), chkS, FK_2 hR.1, anyF]
    unfold x0_isStruckBy_j35
    simp only [G_in (show i < 180 by omega) (by decide : 180 < 2 ^ 31), nI_clamp (show i < 2 ^ 31 by omega), nI_1, ih (i + 1) (by omega), stP]
    by_cases c : T.2.1 24 i = 6
    · obtain ⟨q1, q2⟩ := hR.2.2.2.2.2.2.2.1 c
      rw [q1, q2]
      by_cases c2 : T.2.1 26 i = nI f
      · by_cases c3 : day < T.2.1 25 i
        · simp [c, c2, c3]
        · simp [c, c2, c3]; rfl
      · simp [c2]
    · simp [c]
theorem sx_eq {S T : ST} {n m f : Nat} (hn : n ≤ 180) (hm : m ≤ n) (hfm : f < m) (hf : ∀ k, k < n → factR S T k) (day : Int32) : x0_isStruckBy S (nI f) day (nI m) = some (bit (anyF (stP T f day) (m - (f + 1)) (f + 1)), S) := by
  obtain ⟨e, he⟩ := FU_s (m - (f + 1) + 1) (by omega)
  unfold x0_isStruckBy
  rw [nI_1, he]
  exact sx_h5 hn hm hf day e _ _ (by omega)
theorem sm_h5 {T : ST} {m f : Nat} (hm : m ≤ 180) (day : Int32) (e : Nat) : ∀ j i, i + j = m → m_isStruckBy_h5 (j + 1 + e) T (nI f) day (nI m) (nI i) = some (bit (anyF (stP T f day) j i), T) := by
  intro j
  induction j with
  | zero => intro i h; rw [show 0 + 1 + e = e + 1 by omega, m_isStruckBy_h5, if_pos (nI_le (by omega) (by omega))]; rfl
  | succ j ih =>
    intro i h
    rw [show j + 1 + 1 + e = (j + 1 + e) + 1 by omega, m_isStruckBy_h5, if_neg (nI_ge (by omega) (by omega)), anyF]
    unfold m_isStruckBy_j47
    simp only [G_in (show i < 180 by omega) (by decide : 180 < 2 ^ 31), nI_clamp (show i < 2 ^ 31 by omega), nI_1, ih (i + 1) (by omega), stP]
    by_cases c : T.2.1 24 i = 6
    · by_cases c2 : T.2.1 26 i = nI f
      · by_cases c3 : day < T.2.1 25 i
        · simp [c, c2, c3]
        · simp [c, c2, c3]; rfl
      · simp [c2]
    · simp [c]
theorem sm_eq {T : ST} {m f : Nat} (hm : m ≤ 180) (hfm : f < m) (day : Int32) : m_isStruckBy T (nI f) day (nI m) = some (bit (anyF (stP T f day) (m - (f + 1)) (f + 1)), T) := by
  obtain ⟨e, he⟩ := FU_s (m - (f + 1) + 1) (by omega)
  unfold m_isStruckBy
  rw [nI_1, he]
  exact sm_h5 hm day e _ _ (by omega)
theorem off_x {S T : ST} {n m : Nat} (hn : n ≤ 180) (hm : m ≤ n) (hf : ∀ k, k < n → factR S T k) (mem : Int32) : x0_officeOf S mem (nI m) = some (lastV (ofP T mem) (T.2.1 27) m, S) := by
  obtain ⟨e, he⟩ := FU_s (m + 1) (by omega)
  have lp : ∀ j i, i + j = m → x0_officeOf_h5 (j + 1 + e) S mem (nI m) (lastV (ofP T mem) (T.2.1 27) i) (nI i) = some (lastV (ofP T mem) (T.2.1 27) m, S) := by
    intro j
    induction j with
    | zero => intro i h; rw [show 0 + 1 + e = e + 1 by omega, x0_officeOf_h5, if_pos (nI_le (by omega) (by omega)), show i = m by omega]
    | succ j ih =>
      intro i h
      have hR := hf i (by omega)
      rw [show j + 1 + 1 + e = (j + 1 + e) + 1 by omega, x0_officeOf_h5, if_neg (nI_ge (by omega) (by omega)), ← ih (i + 1) (by omega)]
      unfold x0_officeOf_j42
      simp only [G_in (show i < 180 by omega) (by decide : 180 < 2 ^ 31), nI_clamp (show i < 2 ^ 31 by omega), nI_1, lastV, ofP]
      rw [bdec (FK_6 hR.1)]
      by_cases c : T.2.1 24 i = 2
      · obtain ⟨q1, q2, -⟩ := hR.2.2.2.1 c
        rw [q1, q2]
        by_cases c2 : T.2.1 26 i = mem <;> simp [c, c2]
      · simp [c]
  unfold x0_officeOf
  rw [he]
  exact lp m 0 (by omega)
theorem hea_x {S T : ST} {n m f : Nat} (hn : n ≤ 180) (hm : m ≤ n) (hfm : f < m) (hf : ∀ k, k < n → factR S T k) : x0_heardWord S (nI f) (nI m) = some (lastV (heP T f) (T.2.1 27) m, S) := by
  obtain ⟨e, he⟩ := FU_s (m - (f + 1) + 1) (by omega)
  have lp : ∀ j i, i + j = m → x0_heardWord_h7 (j + 1 + e) S (nI f) (nI m) (lastV (heP T f) (T.2.1 27) i) (nI i) = some (lastV (heP T f) (T.2.1 27) m, S) := by
    intro j
    induction j with
    | zero => intro i h; rw [show 0 + 1 + e = e + 1 by omega, x0_heardWord_h7, if_pos (nI_le (by omega) (by omega)), show i = m by omega]
    | succ j ih =>
      intro i h
      have hR := hf i (by omega)
      rw [show j + 1 + 1 + e = (j + 1 + e) + 1 by omega, x0_heardWord_h7, if_neg (nI_ge (by omega) (by omega)), ← ih (i + 1) (by omega), isAbout_b (by omega), chkS, FK_1 hR.1]
      unfold x0_heardWord_j32
      simp only [G_in (show i < 180 by omega) (by decide : 180 < 2 ^ 31), nI_clamp (show i < 2 ^ 31 by omega), nI_1, lastV, heP]
      by_cases c : T.2.1 24 i = 5
      · obtain ⟨q1, -, q2⟩ := hR.2.2.2.2.2.2.1 c
        rw [q1, q2]
        by_cases c2 : T.2.1 26 i = nI f <;> simp [c, c2]
      · simp [c]
  have h0 : lastV (heP T f) (T.2.1 27) (f + 1) = 0 := lastV_0 (fun k hk => by
    unfold heP
    by_cases c : T.2.1 24 k = 5
    · obtain ⟨-, ⟨g, hg, eg, -⟩, -⟩ := (hf k (by omega)).2.2.2.2.2.2.1 c
      rw [eg, decide_eq_false (fun q => absurd ((nI_eq (by omega) (by omega)).mp q) (by omega)), Bool.and_false]
    · rw [decide_eq_false c, Bool.false_and])
  unfold x0_heardWord
  rw [nI_1, he]
  have := lp (m - (f + 1)) (f + 1) (by omega)
  rw [h0] at this
  exact this
theorem pap_x {S T : ST} {n m f : Nat} (hn : n ≤ 180) (hm : m ≤ n) (hfm : f < m) (hf : ∀ k, k < n → factR S T k) (hl : T.2.1 24 f = 0) : x0_paperWord S (nI f) (nI m) = some (lastV (paP T f) (T.2.1 28) m, S) := by
  obtain ⟨e, he⟩ := FU_s (m + 1) (by omega)
  obtain ⟨-, -, -, k4, -, -, -, k8⟩ := (hf f (by omega)).2.1 hl
  by_cases c0 : T.2.1 27 f = 1
  · obtain ⟨p1, p2⟩ := k8 c0
    have lp : ∀ j i, i + j = m → x0_paperWord_h5 (j + 1 + e) S (nI f) (nI m) (lastV (paP T f) (T.2.1 28) i) (nI i) = some (lastV (paP T f) (T.2.1 28) m, S) := by
      intro j
      induction j with
      | zero => intro i h; rw [show 0 + 1 + e = e + 1 by omega, x0_paperWord_h5, G_in (by omega) (by decide), nI_clamp (by omega), k4, if_pos c0, if_pos (nI_le (by omega) (by omega)), show i = m by omega]
      | succ j ih =>
        intro i h
        have hR := hf i (by omega)
        rw [show j + 1 + 1 + e = (j + 1 + e) + 1 by omega, x0_paperWord_h5, G_in (by omega) (by decide), nI_clamp (by omega), k4, if_pos c0, if_neg (nI_ge (by omega) (by omega)), ← ih (i + 1) (by omega)]
        unfold x0_paperWord_j73
        simp only [G_in (show i < 180 by omega) (by decide : 180 < 2 ^ 31), nI_clamp (show i < 2 ^ 31 by omega), G_in (show f < 180 by omega) (by decide : 180 < 2 ^ 31), nI_clamp (show f < 2 ^ 31 by omega), nI_1, lastV, paP, p1, p2]
        rw [bdec (FK_7 hR.1)]
        by_cases c : T.2.1 24 i = 3
        · obtain ⟨q1, q2, q3⟩ := hR.2.2.2.2.1 c
          rw [q1, q2, q3]
          by_cases c2 : T.2.1 26 i = T.2.1 30 f <;> by_cases c3 : T.2.1 27 i = T.2.1 31 f <;> simp [c, c0, c2, c3]
        · simp [c]
    unfold x0_paperWord
    rw [he]
    exact lp m 0 (by omega)
  · unfold x0_paperWord
    rw [he, show m + 1 + e = (m + e) + 1 by omega, x0_paperWord_h5, G_in (by omega) (by decide), nI_clamp (by omega), k4, if_neg c0, lastV_0 (fun k hk => by unfold paP; rw [decide_eq_false c0]; simp)]
theorem lin_x {S T : ST} {n m f : Nat} (hn : n ≤ 180) (hm : m ≤ n) (hfm : f < m) (hf : ∀ k, k < n → factR S T k) (hl : T.2.1 24 f = 0) : x0_linesBeside S (nI f) (nI m) = some (nI (cntU (liP T f) m), S) := by
  obtain ⟨e, he⟩ := FU_s (m + 1) (by omega)
  obtain ⟨k1, -, -, -, k5, -⟩ := (hf f (by omega)).2.1 hl
  have lp : ∀ j i, i + j = m → x0_linesBeside_h5 (j + 1 + e) S (nI f) (nI m) (nI (cntU (liP T f) i)) (nI i) = some (nI (cntU (liP T f) m), S) := by
    intro j
    induction j with
    | zero => intro i h; rw [show 0 + 1 + e = e + 1 by omega, x0_linesBeside_h5, if_pos (nI_le (by omega) (by omega)), show i = m by omega]
    | succ j ih =>
      intro i h
      have hR := hf i (by omega)
      rw [show j + 1 + 1 + e = (j + 1 + e) + 1 by omega, x0_linesBeside_h5, if_neg (nI_ge (by omega) (by omega)), ← ih (i + 1) (by omega)]
      unfold x0_linesBeside_j57
      simp only [G_in (show i < 180 by omega) (by decide : 180 < 2 ^ 31), nI_clamp (show i < 2 ^ 31 by omega), G_in (show f < 180 by omega) (by decide : 180 < 2 ^ 31), nI_clamp (show f < 2 ^ 31 by omega), nI_1, cntU, liP, k1, k5]
      rw [bdec (FK_4 hR.1)]
      by_cases c : T.2.1 24 i = 0
      · obtain ⟨q1, -, -, -, q5, -⟩ := hR.2.1 c
        rw [q1, q5]
        by_cases c2 : T.2.1 25 i = T.2.1 25 f <;> by_cases c3 : T.2.1 28 i = T.2.1 28 f <;> simp [c, c2, c3]
      · simp [c]
  unfold x0_linesBeside
  rw [he]
  exact lp m 0 (by omega)
theorem fil_h36 {T : ST} {m f : Nat} (hm : m ≤ 180) (hfm : f < m) (mem : Int32) (K : ST → Int32 → Int32 → Int32 → Int32 → Int32 → Int32 → Option ST) (e : Nat) : ∀ j i, i + j = m → m_fills_h36 K (j + 1 + e) T (nI f) (nI m) (T.2.1 25 f) mem (lastV (ofP T mem) (T.2.1 27) i) (lastV (heP T f) (T.2.1 27) i) (lastV (paP T f) (T.2.1 28) i) (nI (cntU (liP T f) i)) (nI i) = K T (nI f) mem (lastV (ofP T mem) (T.2.1 27) m) (lastV (heP T f) (T.2.1 27) m) (lastV (paP T f) (T.2.1 28) m) (nI (cntU (liP T f) m)) := by
  intro j
  induction j with
  | zero => intro i h; rw [show 0 + 1 + e = e + 1 by omega, m_fills_h36, if_pos (nI_le (by omega) (by omega)), show i = m by omega]
  | succ j ih =>
    intro i h
    rw [show j + 1 + 1 + e = (j + 1 + e) + 1 by omega, m_fills_h36, if_neg (nI_ge (by omega) (by omega)), ← ih (i + 1) (by omega)]
    unfold m_fills_j74 m_fills_j105 m_fills_j167 m_fills_j207
    simp only [G_in (show i < 180 by omega) (by decide : 180 < 2 ^ 31), nI_clamp (show i < 2 ^ 31 by omega), G_in (show f < 180 by omega) (by decide : 180 < 2 ^ 31), nI_clamp (show f < 2 ^ 31 by omega), nI_1, cntU, lastV, liP, paP, heP, ofP]
    by_cases a1 : T.2.1 24 i = 2
    · by_cases a2 : T.2.1 26 i = mem <;> simp [a1, a2, show ((2 : Int32) = 0) = False from eq_false (by decide), show ((2 : Int32) = 5) = False from eq_false (by decide), show ((2 : Int32) = 3) = False from eq_false (by decide)]
    · by_cases b1 : T.2.1 24 i = 5
      · by_cases b2 : T.2.1 26 i = nI f <;> simp [b1, b2, show ((5 : Int32) = 0) = False from eq_false (by decide), show ((5 : Int32) = 2) = False from eq_false (by decide), show ((5 : Int32) = 3) = False from eq_false (by decide)]
      · by_cases c1 : T.2.1 24 i = 3
        · by_cases c2 : T.2.1 27 f = 1 <;> by_cases c3 : T.2.1 26 i = T.2.1 30 f <;> by_cases c4 : T.2.1 27 i = T.2.1 31 f <;> simp [c1, c2, c3, c4, show ((3 : Int32) = 0) = False from eq_false (by decide), show ((3 : Int32) = 5) = False from eq_false (by decide), show ((3 : Int32) = 2) = False from eq_false (by decide)]
        · by_cases d1 : T.2.1 24 i = 0
          · by_cases d2 : T.2.1 25 i = T.2.1 25 f <;> by_cases d3 : T.2.1 28 i = T.2.1 28 f <;> simp [d1, d2, d3, show ((0 : Int32) = 2) = False from eq_false (by decide), show ((0 : Int32) = 5) = False from eq_false (by decide), show ((0 : Int32) = 3) = False from eq_false (by decide)]
          · simp [a1, b1, c1, d1]
/-- what the rules' variables are when a line is put right -/
def v0 (T : ST) (f m : Nat) (r : Int32) : Nat → Int32 := fun i => [T.2.1 29 f, T.2.1 29 f, lastV (paP T f) (T.2.1 28) m, T.2.1 27 f, T.2.1 26 f, if r = -1 then 0 else r + 1, lastV (ofP T r) (T.2.1 27) m, 0, 0, lastV (heP T f) (T.2.1 27) m, 0, nI (cntU (liP T f) m)].getD i 0
theorem lt12 {P : Nat → Prop} (h0 : P 0) (h1 : P 1) (h2 : P 2) (h3 : P 3) (h4 : P 4) (h5 : P 5) (h6 : P 6) (h7 : P 7) (h8 : P 8) (h9 : P 9) (h10 : P 10) (h11 : P 11) : ∀ i, i < 12 → P i := by
  intro i hi
  rcases (show i = 0 ∨ i = 1 ∨ i = 2 ∨ i = 3 ∨ i = 4 ∨ i = 5 ∨ i = 6 ∨ i = 7 ∨ i = 8 ∨ i = 9 ∨ i = 10 ∨ i = 11 by omega) with rfl | rfl | rfl | rfl | rfl | rfl | rfl | rfl | rfl | rfl | rfl | rfl <;> assumption
theorem fil_m {T : ST} {m f : Nat} (hm : m ≤ 180) (hfm : f < m) {r : Int32} (hw : m_whoIn T (T.2.1 28 f) (T.2.1 25 f) (nI m) = some (r, T)) : ∃ T', m_fills T (nI f) (nI m) = some T' ∧ fr [] [21] T T' ∧ VM T' (v0 T f m r) := by
  obtain ⟨e, he⟩ := FU_s (m + 1) (by omega)
  have lp := fil_h36 (T := T) hm hfm r m_fills_j213 e m 0 (by omega)
  unfold m_fills
  rw [G_in (show f < 180 by omega) (by decide), G_in (show f < 180 by omega) (by decide), nI_clamp (by omega), hw, cal_s, he, show m_fills_h36 m_fills_j213 (m + 1 + e) T (nI f) (nI m) (T.2.1 25 f) r 0 0 0 0 0 = _ from lp]
  unfold m_fills_j213 m_fills_j288
  simp only [G_in (show f < 180 by omega) (by decide : 180 < 2 ^ 31), nI_clamp (show f < 2 ^ 31 by omega)]
  by_cases c : r = -1
  · simp only [c, if_true]
    refine ⟨_, rfl, ?_, ?_⟩
    · exact fr_tr (fr_A _ _ (by decide)) (fr_tr (fr_A _ _ (by decide)) (fr_tr (fr_A _ _ (by decide)) (fr_tr (fr_A _ _ (by decide)) (fr_tr (fr_A _ _ (by decide)) (fr_tr (fr_A _ _ (by decide)) (fr_tr (fr_A _ _ (by decide)) (fr_tr (fr_A _ _ (by decide)) (fr_tr (fr_A _ _ (by decide)) (fr_tr (fr_A _ _ (by decide)) (fr_tr (fr_A _ _ (by decide)) (fr_A _ _ (by decide))))))))))))
    · exact lt12 rfl rfl rfl rfl rfl rfl rfl rfl rfl rfl rfl rfl
  · simp only [c, if_false]
    refine ⟨_, rfl, ?_, ?_⟩
    · exact fr_tr (fr_A _ _ (by decide)) (fr_tr (fr_A _ _ (by decide)) (fr_tr (fr_A _ _ (by decide)) (fr_tr (fr_A _ _ (by decide)) (fr_tr (fr_A _ _ (by decide)) (fr_tr (fr_A _ _ (by decide)) (fr_tr (fr_A _ _ (by decide)) (fr_tr (fr_A _ _ (by decide)) (fr_tr (fr_A _ _ (by decide)) (fr_tr (fr_A _ _ (by decide)) (fr_tr (fr_A _ _ (by decide)) (fr_A _ _ (by decide))))))))))))
    · exact lt12 rfl rfl rfl rfl rfl (by show r + 1 = if r = -1 then 0 else r + 1; rw [if_neg c]) rfl rfl rfl rfl rfl rfl
