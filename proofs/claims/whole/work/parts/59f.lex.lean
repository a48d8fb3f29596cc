/-! frames with longs -/
def g3 (I A L : List Nat) (S S' : ST) : Prop := (∀ k, k ∉ I → S'.1 k = S.1 k) ∧ (∀ k, k ∉ A → S'.2.1 k = S.2.1 k) ∧ ∀ k, k ∉ L → S'.2.2 k = S.2.2 k
theorem g3_rfl (I A L : List Nat) (S : ST) : g3 I A L S S := ⟨fun _ _ => rfl, fun _ _ => rfl, fun _ _ => rfl⟩
theorem g3_tr {I A L : List Nat} {S T U : ST} (h : g3 I A L S T) (g : g3 I A L T U) : g3 I A L S U := ⟨fun k hk => (g.1 k hk).trans (h.1 k hk), fun k hk => (g.2.1 k hk).trans (h.2.1 k hk), fun k hk => (g.2.2 k hk).trans (h.2.2 k hk)⟩
theorem g3_sub {I A L I' A' L' : List Nat} {S T : ST} (hI : ∀ k, k ∈ I → k ∈ I') (hA : ∀ k, k ∈ A → k ∈ A') (hL : ∀ k, k ∈ L → k ∈ L') (h : g3 I A L S T) : g3 I' A' L' S T := ⟨fun k hk => h.1 k (fun q => hk (hI k q)), fun k hk => h.2.1 k (fun q => hk (hA k q)), fun k hk => h.2.2 k (fun q => hk (hL k q))⟩
theorem g3_I {I A L : List Nat} (S : ST) {k : Nat} (v : Int32) (hk : k ∈ I) : g3 I A L S (sI S k v) := ⟨fun j hj => pk_un (fun e => hj (by rw [e]; exact hk)), fun _ _ => rfl, fun _ _ => rfl⟩
theorem g3_A {I A L : List Nat} (S : ST) {k : Nat} (v : Nat → Int32) (hk : k ∈ A) : g3 I A L S (sA S k v) := ⟨fun _ _ => rfl, fun j hj => va_o _ _ (fun e => hj (by rw [e]; exact hk)), fun _ _ => rfl⟩
theorem g3_L {I A L : List Nat} (S : ST) {k : Nat} (v : Nat → Int64) (hk : k ∈ L) : g3 I A L S (sL S k v) := ⟨fun _ _ => rfl, fun _ _ => rfl, fun j hj => va_o _ _ (fun e => hj (by rw [e]; exact hk))⟩
theorem g3_fr {I A L : List Nat} {S T : ST} (h : fr I A S T) : g3 I A L S T := ⟨h.1, h.2.1, fun k _ => by rw [h.2.2]⟩
/-! bytes -/
theorem by255 (x : Int32) : rng (x &&& 255) 256 := by
  refine ⟨(x &&& 255).toBitVec.toNat, ?_, ?_⟩
  · rw [Int32.toBitVec_and, BitVec.toNat_and]
    exact Nat.lt_of_le_of_lt Nat.and_le_right (by decide)
  · apply Int32.toBitVec_inj.mp
    show _ = BitVec.ofNat 32 _
    rw [BitVec.ofNat_toNat, BitVec.setWidth_eq]
theorem bp_b (x : Int32) : x.toInt8.toInt32 &&& 255 = x &&& 255 := by
  apply Int32.toBitVec_inj.mp
  rw [Int32.toBitVec_and, Int32.toBitVec_and, Int8.toBitVec_toInt32, Int32.toBitVec_toInt8]
  apply BitVec.eq_of_getLsbD_eq
  intro i hi
  rw [BitVec.getLsbD_and, BitVec.getLsbD_and]
  have hm : ∀ i < 32, 8 ≤ i → (255 : Int32).toBitVec.getLsbD i = false := by decide
  rcases Nat.lt_or_ge i 8 with z | z
  · rw [BitVec.getLsbD_signExtend, BitVec.getLsbD_signExtend, if_pos z, if_pos hi]
    simp only [z, hi, decide_true, Bool.true_and]
  · rw [hm i hi z]; simp
def BYX (c : Nat → Nat) (t : Nat) (S : ST) : Prop := S.1 1 = nI t ∧ t ≤ 2000 ∧ ∀ i, i < t → S.2.1 0 i &&& 255 = nI (c i) ∧ c i < 256
def BYM (c : Nat → Nat) (t : Nat) (T : ST) : Prop := T.1 2 = nI t ∧ t ≤ 2000 ∧ ∀ i, i < t → T.2.1 1 i &&& 255 = nI (c i) ∧ c i < 256
theorem BYX_g {c : Nat → Nat} {t : Nat} {I A L : List Nat} {S S' : ST} (hI : 1 ∉ I) (hA : 0 ∉ A) (h : g3 I A L S S') (g : BYX c t S) : BYX c t S' := ⟨(h.1 1 hI).trans g.1, g.2.1, fun i hi => by rw [h.2.1 0 hA]; exact g.2.2 i hi⟩
theorem BYM_g {c : Nat → Nat} {t : Nat} {I A L : List Nat} {S S' : ST} (hI : 2 ∉ I) (hA : 1 ∉ A) (h : g3 I A L S S') (g : BYM c t S) : BYM c t S' := ⟨(h.1 2 hI).trans g.1, g.2.1, fun i hi => by rw [h.2.1 1 hA]; exact g.2.2 i hi⟩
theorem bx_y {c : Nat → Nat} {t i : Nat} {S : ST} (h : BYX c t S) (hi : i < t) : x9_byteAt S (nI i) = some (nI (c i), S) := by
  have ht := h.2.1
  unfold x9_byteAt
  rw [if_neg (nI_pos (by omega)), h.1, if_neg (nI_ge hi (by omega)), if_neg (show ¬ (2000 : Int32) ≤ nI i from nI_ge (b := 2000) (by omega) (by decide)), G_in (by omega) (by decide), nI_clamp (by omega), (h.2.2 i hi).1]
theorem bx_n {c : Nat → Nat} {t i : Nat} {S : ST} (h : BYX c t S) (hi : t ≤ i) (h2 : i < 2 ^ 31) : x9_byteAt S (nI i) = some (-1, S) := by
  unfold x9_byteAt
  rw [if_neg (nI_pos h2), h.1, if_pos (nI_le hi h2)]
theorem bm_y {c : Nat → Nat} {t i : Nat} {T : ST} (h : BYM c t T) (hi : i < t) : m_byteAt T (nI i) = some (nI (c i), T) := by
  have ht := h.2.1
  unfold m_byteAt
  rw [h.1, if_neg (nI_ge hi (by omega)), G_in (by omega) (by decide), nI_clamp (by omega), (h.2.2 i hi).1]
theorem bm_n {c : Nat → Nat} {t i : Nat} {T : ST} (h : BYM c t T) (hi : t ≤ i) (h2 : i < 2 ^ 31) : m_byteAt T (nI i) = some (nI 0, T) := by
  unfold m_byteAt
  rw [h.1, if_pos (nI_le hi h2)]
  rfl
def isLb (x : Nat) : Bool := decide (97 ≤ x) && decide (x ≤ 122)
def isDb (x : Nat) : Bool := decide (48 ≤ x) && decide (x ≤ 57)
def isBb (x : Nat) : Bool := decide (x = 9) || (decide (x = 10) || (decide (x = 13) || decide (x = 32)))
theorem rg_b {x a b : Nat} (hx : x < 256) (ha : a < 256) (hb : b < 256) : (if nI x < nI a then some (0 : Int32) else (if nI b < nI x then some 0 else some 1)) = some (bit (decide (a ≤ x) && decide (x ≤ b))) := by
  by_cases c : x < a
  · rw [if_pos (nI_lt c (by omega)), decide_eq_false (by omega)]; rfl
  · rw [if_neg (nI_nlt (by omega) (by omega)), decide_eq_true (show a ≤ x by omega)]
    by_cases d : b < x
    · rw [if_pos (nI_lt d (by omega)), decide_eq_false (by omega)]; rfl
    · rw [if_neg (nI_nlt (by omega) (by omega)), decide_eq_true (show x ≤ b by omega)]; rfl
theorem xL {x : Nat} (hx : x < 256) : x10_isLetter (nI x) = some (bit (isLb x)) := rg_b (a := 97) (b := 122) hx (by decide) (by decide)
theorem xD {x : Nat} (hx : x < 256) : x10_isDigit (nI x) = some (bit (isDb x)) := rg_b (a := 48) (b := 57) hx (by decide) (by decide)
theorem mL {x : Nat} (hx : x < 256) : m_isLetter (nI x) = some (bit (isLb x)) := rg_b (a := 97) (b := 122) hx (by decide) (by decide)
theorem mD {x : Nat} (hx : x < 256) : m_isDigit (nI x) = some (bit (isDb x)) := rg_b (a := 48) (b := 57) hx (by decide) (by decide)
theorem nIe {x n : Nat} (hx : x < 256) (hn : n < 256) : (nI x = nI n) = (x = n) := propext (nI_eq (by omega) (by omega))
theorem xB {x : Nat} (hx : x < 256) : x9_isBlank (nI x) = some (bit (isBb x)) := by
  unfold x9_isBlank isBb
  rw [show (9 : Int32) = nI 9 from rfl, show (10 : Int32) = nI 10 from rfl, show (13 : Int32) = nI 13 from rfl, show (32 : Int32) = nI 32 from rfl]
  simp only [nIe hx (show 9 < 256 by decide), nIe hx (show 10 < 256 by decide), nIe hx (show 13 < 256 by decide), nIe hx (show 32 < 256 by decide)]
  by_cases a : x = 9
  · rw [if_pos a, decide_eq_true a]; rfl
  rw [if_neg a, decide_eq_false a]
  by_cases b : x = 10
  · rw [if_pos b, decide_eq_true b]; rfl
  rw [if_neg b, decide_eq_false b]
  by_cases d : x = 13
  · rw [if_pos d, decide_eq_true d]; rfl
  rw [if_neg d, decide_eq_false d]
  by_cases e : x = 32
  · rw [if_pos e, decide_eq_true e]; rfl
  rw [if_neg e, decide_eq_false e]; rfl
/-- where a run ends -/
def eB (c : Nat → Nat) (t i : Nat) : Nat := fnd (fun x => !isBb (c x)) (t - i) i
def eL (c : Nat → Nat) (t i : Nat) : Nat := fnd (fun x => !isLb (c x)) (t - i) i
def eD (c : Nat → Nat) (t i : Nat) : Nat := fnd (fun x => !isDb (c x)) (t - i) i
theorem xblk {c : Nat → Nat} {t i : Nat} {S : ST} (h : BYX c t S) (hi : i ≤ t) : x9_behindBlanks S (nI i) = some (nI (eB c t i), S) := by
  have ht := h.2.1
  obtain ⟨e, he⟩ := FU_s (t - i + 1) (by omega)
  have lp : ∀ j i, i + j = t → x9_behindBlanks_h2 (j + 1 + e) S (nI i) = some (nI (fnd (fun x => !isBb (c x)) j i), S) := by
    intro j
    induction j with
    | zero => intro i q; rw [show 0 + 1 + e = e + 1 by omega, x9_behindBlanks_h2, h.1, if_pos (nI_le (by omega) (by omega))]; rfl
    | succ j ih =>
      intro i q
      rw [show j + 1 + 1 + e = (j + 1 + e) + 1 by omega, x9_behindBlanks_h2, h.1, if_neg (nI_ge (by omega) (by omega)), bx_y h (by omega), cal_s, xB (h.2.2 i (by omega)).2, chk, nI_1, ih (i + 1) (by omega), fnd]
      cases isBb (c i) <;> rfl
  unfold x9_behindBlanks
  rw [he]
  exact lp (t - i) i (by omega)
/-- letters (1 .. 26), the last one first -/
def nml (c : Nat → Nat) (i : Nat) : Nat → List Nat
  | 0 => []
  | n + 1 => (c (i + n) - 96) :: nml c i n
def dgv (c : Nat → Nat) (i : Nat) : Nat → Nat
  | 0 => 0
  | n + 1 => dgv c i n * 10 + (c (i + n) - 48)
theorem pkl {a x : Nat} (h1 : 97 ≤ x) (h2 : x < 256) : x10_packLetter (lN a) (nI x) = some (lN (a * 32 + (x - 96))) := by
  unfold x10_packLetter
  rw [show (97 : Int32) = nI 97 from rfl, pk_sub h1, nI_1, nI_l (by omega), show (32 : Int64) = lN 32 from rfl, lN_mul, lN_add, show x - 97 + 1 = x - 96 by omega]
theorem mml {a x : Nat} (h1 : 97 ≤ x) (h2 : x < 256) : m_more (lN a) (nI x) = some (lN (27 * a + (x - 96))) := by
  unfold m_more
  rw [if_neg (show ¬ nI x = 0 from fun q => absurd ((nI_eq (b := 0) (by omega) (by decide)).mp q) (by omega)), show (97 : Int32) = nI 97 from rfl, pk_sub h1, nI_1, nI_l (by omega), show (27 : Int64) = lN 27 from rfl, lN_mul, lN_add, show x - 97 + 1 = x - 96 by omega]
theorem isLb_1 {x : Nat} (h : isLb x = true) : 97 ≤ x ∧ x ≤ 122 := by unfold isLb at h; rw [Bool.and_eq_true] at h; exact ⟨of_decide_eq_true h.1, of_decide_eq_true h.2⟩
theorem isDb_1 {x : Nat} (h : isDb x = true) : 48 ≤ x ∧ x ≤ 57 := by unfold isDb at h; rw [Bool.and_eq_true] at h; exact ⟨of_decide_eq_true h.1, of_decide_eq_true h.2⟩
theorem xlet {c : Nat → Nat} {t i : Nat} {S : ST} (h : BYX c t S) (K : ST → Int32 → Int64 → Int32 → Option (Int32 × ST)) (e : Nat) : ∀ j m, i + m + j = t → x10_cutLetters_h5 K (j + 1 + e) S (nI i) (lN (e32 (nml c i (min m 8)))) (nI (i + m)) = K S (nI i) (lN (e32 (nml c i (min (fnd (fun x => !isLb (c x)) j (i + m) - i) 8)))) (nI (fnd (fun x => !isLb (c x)) j (i + m))) := by
  have ht := h.2.1
  intro j
  induction j with
  | zero => intro m q; rw [show 0 + 1 + e = e + 1 by omega, x10_cutLetters_h5, h.1, if_pos (nI_le (by omega) (by omega)), fnd, show i + m - i = m by omega]
  | succ j ih =>
    intro m q
    have hc := (h.2.2 (i + m) (by omega)).2
    rw [show j + 1 + 1 + e = (j + 1 + e) + 1 by omega, x10_cutLetters_h5, h.1, if_neg (nI_ge (by omega) (by omega)), bx_y h (by omega), cal_s, xL hc, chk, fnd]
    cases cl : isLb (c (i + m))
    · simp only [Bool.not_false, if_true, Bool.false_eq_true, if_false]
      rw [show i + m - i = m by omega]
    · simp only [Bool.not_true, if_true, Bool.false_eq_true, if_false]
      have ih' := ih (m + 1) (by omega)
      rw [show i + (m + 1) = i + m + 1 by omega] at ih'
      unfold x10_cutLetters_j46
      rw [pk_sub (by omega), show i + m - i = m by omega, nI_1, ← ih']
      by_cases c8 : 8 ≤ m
      · rw [if_pos (show (8 : Int32) ≤ nI m from nI_le (a := 8) c8 (by omega)), show min m 8 = min (m + 1) 8 by omega]
      · rw [if_neg (show ¬ (8 : Int32) ≤ nI m from nI_ge (b := 8) (by omega) (by decide)), bx_y h (by omega), cal_s, pkl (isLb_1 cl).1 hc, cal0_s, show min m 8 = m by omega, show min (m + 1) 8 = m + 1 by omega]
        rfl
theorem mlet {c : Nat → Nat} {t i : Nat} {T : ST} (h : BYM c t T) (K : ST → Int32 → Int32 → Int64 → Option ST) (e : Nat) : ∀ j m, i + m + j = t → m_cut_h85 K (j + 1 + e) T (nI i) (nI m) (lN (e27 (nml c i (min m 8)))) = K T (nI i) (nI (fnd (fun x => !isLb (c x)) j (i + m) - i)) (lN (e27 (nml c i (min (fnd (fun x => !isLb (c x)) j (i + m) - i) 8)))) := by
  have ht := h.2.1
  intro j
  induction j with
  | zero => intro m q; rw [show 0 + 1 + e = e + 1 by omega, m_cut_h85, nI_add, bm_n h (by omega) (by omega), cal_s, mL (by decide), chk, if_neg (by decide), fnd, show i + m - i = m by omega]
  | succ j ih =>
    intro m q
    have hc := (h.2.2 (i + m) (by omega)).2
    rw [show j + 1 + 1 + e = (j + 1 + e) + 1 by omega, m_cut_h85, nI_add, bm_y h (by omega), cal_s, mL hc, chk, fnd]
    cases cl : isLb (c (i + m))
    · simp only [Bool.not_false, if_true, Bool.false_eq_true, if_false]
      rw [show i + m - i = m by omega]
    · simp only [Bool.not_true, if_true, Bool.false_eq_true, if_false]
      have ih' := ih (m + 1) (by omega)
      rw [show i + (m + 1) = i + m + 1 by omega] at ih'
      unfold m_cut_j118
      rw [nI_1, ← ih']
      by_cases c8 : 8 ≤ m
      · rw [if_pos (show (8 : Int32) ≤ nI m from nI_le (a := 8) c8 (by omega)), show min m 8 = min (m + 1) 8 by omega]
      · rw [if_neg (show ¬ (8 : Int32) ≤ nI m from nI_ge (b := 8) (by omega) (by decide)), bm_y h (by omega), cal_s, mml (isLb_1 cl).1 hc, cal0_s, show min m 8 = m by omega, show min (m + 1) 8 = m + 1 by omega]
        rfl
theorem xdig {c : Nat → Nat} {t i : Nat} {S : ST} (h : BYX c t S) (K : ST → Int32 → Int32 → Int32 → Option (Int32 × ST)) (e : Nat) : ∀ j m, i + m + j = t → x10_cutDigits_h5 K (j + 1 + e) S (nI i) (nI (dgv c i (min m 4))) (nI (i + m)) = K S (nI i) (nI (dgv c i (min (fnd (fun x => !isDb (c x)) j (i + m) - i) 4))) (nI (fnd (fun x => !isDb (c x)) j (i + m))) := by
  have ht := h.2.1
  intro j
  induction j with
  | zero => intro m q; rw [show 0 + 1 + e = e + 1 by omega, x10_cutDigits_h5, h.1, if_pos (nI_le (by omega) (by omega)), fnd, show i + m - i = m by omega]
  | succ j ih =>
    intro m q
    have hc := (h.2.2 (i + m) (by omega)).2
    rw [show j + 1 + 1 + e = (j + 1 + e) + 1 by omega, x10_cutDigits_h5, h.1, if_neg (nI_ge (by omega) (by omega)), bx_y h (by omega), cal_s, xD hc, chk, fnd]
    cases cl : isDb (c (i + m))
    · simp only [Bool.not_false, if_true, Bool.false_eq_true, if_false]
      rw [show i + m - i = m by omega]
    · simp only [Bool.not_true, if_true, Bool.false_eq_true, if_false]
      have ih' := ih (m + 1) (by omega)
      rw [show i + (m + 1) = i + m + 1 by omega] at ih'
      have c1 := isDb_1 cl
      unfold x10_cutDigits_j49
      rw [pk_sub (by omega), show i + m - i = m by omega, nI_1, ← ih']
      by_cases c8 : 4 ≤ m
      · rw [if_pos (show (4 : Int32) ≤ nI m from nI_le (a := 4) c8 (by omega)), show min m 4 = min (m + 1) 4 by omega]
      · rw [if_neg (show ¬ (4 : Int32) ≤ nI m from nI_ge (b := 4) (by omega) (by decide)), bx_y h (by omega), cal_s, show min m 4 = m by omega, show min (m + 1) 4 = m + 1 by omega, show (10 : Int32) = nI 10 from rfl, pk_mul, nI_add, show (48 : Int32) = nI 48 from rfl, pk_sub (by omega), show dgv c i m * 10 + c (i + m) - 48 = dgv c i (m + 1) by show _ = dgv c i m * 10 + (c (i + m) - 48); omega]
theorem mdig {c : Nat → Nat} {t i : Nat} {T : ST} (h : BYM c t T) (K : ST → Int32 → Int32 → Int32 → Option ST) (e : Nat) : ∀ j m, i + m + j = t → m_cut_h208 K (j + 1 + e) T (nI i) (nI m) (nI (dgv c i (min m 4))) = K T (nI i) (nI (fnd (fun x => !isDb (c x)) j (i + m) - i)) (nI (dgv c i (min (fnd (fun x => !isDb (c x)) j (i + m) - i) 4))) := by
  have ht := h.2.1
  intro j
  induction j with
  | zero => intro m q; rw [show 0 + 1 + e = e + 1 by omega, m_cut_h208, nI_add, bm_n h (by omega) (by omega), cal_s, mD (by decide), chk, if_neg (by decide), fnd, show i + m - i = m by omega]
  | succ j ih =>
    intro m q
    have hc := (h.2.2 (i + m) (by omega)).2
    rw [show j + 1 + 1 + e = (j + 1 + e) + 1 by omega, m_cut_h208, nI_add, bm_y h (by omega), cal_s, mD hc, chk, fnd]
    cases cl : isDb (c (i + m))
    · simp only [Bool.not_false, if_true, Bool.false_eq_true, if_false]
      rw [show i + m - i = m by omega]
    · simp only [Bool.not_true, if_true, Bool.false_eq_true, if_false]
      have ih' := ih (m + 1) (by omega)
      rw [show i + (m + 1) = i + m + 1 by omega] at ih'
      have c1 := isDb_1 cl
      unfold m_cut_j244
      rw [nI_1, ← ih']
      by_cases c8 : 4 ≤ m
      · rw [if_pos (show (4 : Int32) ≤ nI m from nI_le (a := 4) c8 (by omega)), show min m 4 = min (m + 1) 4 by omega]
      · rw [if_neg (show ¬ (4 : Int32) ≤ nI m from nI_ge (b := 4) (by omega) (by decide)), bm_y h (by omega), cal_s, show min m 4 = m by omega, show min (m + 1) 4 = m + 1 by omega, show (10 : Int32) = nI 10 from rfl, pk_mul, nI_add, show (48 : Int32) = nI 48 from rfl, pk_sub (by omega), show 10 * dgv c i m + c (i + m) - 48 = dgv c i (m + 1) by show _ = dgv c i m * 10 + (c (i + m) - 48); omega]
