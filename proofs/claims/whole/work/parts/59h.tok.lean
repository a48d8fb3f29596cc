def sgK (x : Nat) (q : Bool) : Nat × Nat := if x = 59 then (26, 1) else if x = 40 then (35, 1) else if x = 41 then (36, 1) else if x = 43 then (27, 1) else if x = 45 then (28, 1) else if x = 42 then (29, 1) else if x = 47 then (30, 1) else if x = 60 then (if q = true then (34, 2) else (33, 1)) else if x = 61 then (if q = true then (31, 2) else (38, 1)) else if x = 33 then (if q = true then (32, 2) else (38, 1)) else (38, 1)
def eqB (c : Nat → Nat) (t i : Nat) : Bool := decide (i + 1 < t) && decide (c (i + 1) = 61)
def lexK (c : Nat → Nat) (t i : Nat) : Nat := if isLb (c i) = true then (if eL c t i - i ≤ 8 then kwd (nml c i (eL c t i - i)) else 38) else if isDb (c i) = true then (if eD c t i - i ≤ 4 then 25 else 38) else (sgK (c i) (eqB c t i)).1
def lexE (c : Nat → Nat) (t i : Nat) : Nat := if isLb (c i) = true then eL c t i else if isDb (c i) = true then eD c t i else i + (sgK (c i) (eqB c t i)).2
theorem sgK_r (x : Nat) (q : Bool) : 26 ≤ (sgK x q).1 ∧ (sgK x q).1 ≤ 38 ∧ ((sgK x q).2 = 1 ∨ ((sgK x q).2 = 2 ∧ q = true)) ∧ (sgK x q).1 ≠ 37 := by
  unfold sgK
  cases q <;> (repeat' split) <;> simp_all
theorem run_gt {P : Nat → Bool} {t i : Nat} (hi : i < t) (h : P i = false) : i < fnd P (t - i) i ∧ fnd P (t - i) i ≤ t := by
  rw [show t - i = (t - i - 1) + 1 by omega, fnd, h, if_neg (by decide)]
  have h1 := fnd_lo P (t - i - 1) (i + 1)
  have h2 := fnd_le P (t - i - 1) (i + 1)
  omega
theorem lexE_gt {c : Nat → Nat} {t i : Nat} (hi : i < t) : i < lexE c t i ∧ lexE c t i ≤ t := by
  unfold lexE
  by_cases a : isLb (c i) = true
  · rw [if_pos a]; exact run_gt hi (by rw [a]; rfl)
  · rw [if_neg a]
    by_cases b : isDb (c i) = true
    · rw [if_pos b]; exact run_gt hi (by rw [b]; rfl)
    · rw [if_neg b]
      rcases (sgK_r (c i) (eqB c t i)).2.2.1 with z | ⟨z, w⟩
      · omega
      · unfold eqB at w; rw [Bool.and_eq_true] at w; have := of_decide_eq_true w.1; omega
theorem lexK_le (c : Nat → Nat) (t i : Nat) : lexK c t i ≤ 38 ∧ lexK c t i ≠ 37 := by
  unfold lexK
  have h1 := kwd_le (nml c i (eL c t i - i))
  have h2 := sgK_r (c i) (eqB c t i)
  repeat' split
  all_goals omega
theorem lexK_24 {c : Nat → Nat} {t i : Nat} (h : lexK c t i = 24) : isLb (c i) = true ∧ eL c t i - i ≤ 8 := by
  unfold lexK at h
  have h2 := sgK_r (c i) (eqB c t i)
  by_cases a : isLb (c i) = true
  · rw [if_pos a] at h
    by_cases b : eL c t i - i ≤ 8
    · exact ⟨a, b⟩
    · rw [if_neg b] at h; omega
  · rw [if_neg a] at h
    by_cases b : isDb (c i) = true
    · rw [if_pos b] at h; split at h <;> omega
    · rw [if_neg b] at h; omega
theorem lexK_25 {c : Nat → Nat} {t i : Nat} (h : lexK c t i = 25) : ¬ isLb (c i) = true ∧ isDb (c i) = true ∧ eD c t i - i ≤ 4 := by
  unfold lexK at h
  have h1 := kwd_le (nml c i (eL c t i - i))
  have h2 := sgK_r (c i) (eqB c t i)
  by_cases a : isLb (c i) = true
  · rw [if_pos a] at h; split at h <;> omega
  · rw [if_neg a] at h
    by_cases b : isDb (c i) = true
    · rw [if_pos b] at h
      by_cases d : eD c t i - i ≤ 4
      · exact ⟨a, b, d⟩
      · rw [if_neg d] at h; omega
    · rw [if_neg b] at h; omega
theorem nml_len (c : Nat → Nat) (i : Nat) : ∀ n, (nml c i n).length = n := by
  intro n
  induction n with
  | zero => rfl
  | succ n ih => rw [nml, List.length_cons, ih]
theorem nml_lets {c : Nat → Nat} {i : Nat} : ∀ {n : Nat}, (∀ x, x < n → isLb (c (i + x)) = true) → lets (nml c i n) := by
  intro n
  induction n with
  | zero => intro _; trivial
  | succ n ih =>
    intro h
    have := isLb_1 (h n (by omega))
    exact ⟨by omega, by omega, ih (fun x hx => h x (by omega))⟩
theorem dgv_lt {c : Nat → Nat} {i : Nat} : ∀ {n : Nat}, (∀ x, x < n → isDb (c (i + x)) = true) → dgv c i n < 10 ^ n := by
  intro n
  induction n with
  | zero => intro _; show 0 < 1; omega
  | succ n ih =>
    intro h
    have h1 := isDb_1 (h n (by omega))
    have h2 := ih (fun x hx => h x (by omega))
    rw [dgv, Nat.pow_succ]
    omega
theorem eL_in {c : Nat → Nat} {t i : Nat} (x : Nat) (hx : x < eL c t i - i) : isLb (c (i + x)) = true := by
  have := fnd_no (fun x => !isLb (c x)) (t - i) i (i + x) (by omega) (by unfold eL at hx; omega)
  simpa using this
theorem eD_in {c : Nat → Nat} {t i : Nat} (x : Nat) (hx : x < eD c t i - i) : isDb (c (i + x)) = true := by
  have := fnd_no (fun x => !isDb (c x)) (t - i) i (i + x) (by omega) (by unfold eD at hx; omega)
  simpa using this
theorem keep_y {S : ST} {q : Nat} (hq : q < 401) (e : S.1 27 = nI q) (k l : Int32) : x10_keep S k l = some (l, sA S 35 (upd (S.2.1 35) q k)) := by
  unfold x10_keep
  rw [e, if_neg (nI_pos (by omega)), if_neg (show ¬ (401 : Int32) ≤ nI q from nI_ge (b := 401) hq (by decide)), G_in hq (by decide), nI_clamp (by omega)]
theorem xsgn {S : ST} {q x i : Nat} (hq : q < 401) (e : S.1 27 = nI q) (hx : x < 256) (b : Bool) : ∃ i', x10_cutSign S (nI x) (bit b) (nI i) = some (nI i', sA S 35 (upd (S.2.1 35) q (nI (sgK x b).1))) ∧ ((sgK x b).1 ≠ 38 → i' = i + (sgK x b).2) := by
  unfold x10_cutSign sgK
  simp only [keep_y hq e, cal_s, show (33 : Int32) = nI 33 from rfl, show (40 : Int32) = nI 40 from rfl, show (41 : Int32) = nI 41 from rfl, show (42 : Int32) = nI 42 from rfl, show (43 : Int32) = nI 43 from rfl, show (45 : Int32) = nI 45 from rfl, show (47 : Int32) = nI 47 from rfl, show (59 : Int32) = nI 59 from rfl, show (60 : Int32) = nI 60 from rfl, show (61 : Int32) = nI 61 from rfl, nIe hx (show 33 < 256 by decide), nIe hx (show 40 < 256 by decide), nIe hx (show 41 < 256 by decide), nIe hx (show 42 < 256 by decide), nIe hx (show 43 < 256 by decide), nIe hx (show 45 < 256 by decide), nIe hx (show 47 < 256 by decide), nIe hx (show 59 < 256 by decide), nIe hx (show 60 < 256 by decide), nIe hx (show 61 < 256 by decide), nI_1, show nI i + 2 = nI (i + 2) from nI_add i 2]
  have hb : (bit b = 0) = (b = false) := by cases b <;> simp [bit]
  simp only [hb]
  by_cases c33 : x = 33
  · subst c33
    cases b
    · exact ⟨i + 2, by simp <;> rfl, by simp⟩
    · exact ⟨i + 2, by simp <;> rfl, by simp⟩
  by_cases c40 : x = 40
  · subst c40; exact ⟨i + 1, by simp <;> rfl, by simp⟩
  by_cases c41 : x = 41
  · subst c41; exact ⟨i + 1, by simp <;> rfl, by simp⟩
  by_cases c42 : x = 42
  · subst c42; exact ⟨i + 1, by simp <;> rfl, by simp⟩
  by_cases c43 : x = 43
  · subst c43; exact ⟨i + 1, by simp <;> rfl, by simp⟩
  by_cases c45 : x = 45
  · subst c45; exact ⟨i + 1, by simp <;> rfl, by simp⟩
  by_cases c47 : x = 47
  · subst c47; exact ⟨i + 1, by simp <;> rfl, by simp⟩
  by_cases c59 : x = 59
  · subst c59; exact ⟨i + 1, by simp <;> rfl, by simp⟩
  by_cases c60 : x = 60
  · subst c60
    cases b
    · exact ⟨i + 1, by simp <;> rfl, by simp⟩
    · exact ⟨i + 2, by simp <;> rfl, by simp⟩
  by_cases c61 : x = 61
  · subst c61
    cases b
    · exact ⟨i + 2, by simp <;> rfl, by simp⟩
    · exact ⟨i + 2, by simp <;> rfl, by simp⟩
  simp only [c33, c40, c41, c42, c43, c45, c47, c59, c60, c61, if_false]
  exact ⟨i + 1, rfl, fun z => absurd rfl z⟩
def tkM (T : ST) (q : Nat) (k p v : Int32) (nm : Int64) : ST := sI (sL (sA (sA (sA T 2 (upd (T.2.1 2) q k)) 3 (upd (T.2.1 3) q p)) 4 (upd (T.2.1 4) q v)) 0 (vp_updL (T.2.2 0) q nm)) 3 (nI (q + 1))
theorem tok_y {T : ST} {q : Nat} (hq : q < 403) (e : T.1 3 = nI q) (k p v : Int32) (nm : Int64) : m_token T k p v nm = some (tkM T q k p v nm) := by
  unfold m_token tkM
  simp only [e, show (sA T 2 (upd (T.2.1 2) (nI q).toNatClampNeg k)).1 3 = nI q from e, nI_clamp (show q < 2 ^ 31 by omega), G_in hq (by decide : 403 < 2 ^ 31)]
  have e1 : (sA T 2 (upd (T.2.1 2) q k)).1 3 = nI q := e
  have e2 : (sA (sA T 2 (upd (T.2.1 2) q k)) 3 (upd ((sA T 2 (upd (T.2.1 2) q k)).2.1 3) q p)).1 3 = nI q := e
  simp only [e1, e2, nI_clamp (show q < 2 ^ 31 by omega), G_in hq (by decide : 403 < 2 ^ 31)]
  have e3 : (sA (sA (sA T 2 (upd (T.2.1 2) q k)) 3 (upd ((sA T 2 (upd (T.2.1 2) q k)).2.1 3) q p)) 4 (upd ((sA (sA T 2 (upd (T.2.1 2) q k)) 3 (upd ((sA T 2 (upd (T.2.1 2) q k)).2.1 3) q p)).2.1 4) q v)).1 3 = nI q := e
  simp only [e3, nI_clamp (show q < 2 ^ 31 by omega), G_in hq (by decide : 403 < 2 ^ 31)]
  show some (sI _ 3 (T.1 3 + 1)) = _
  rw [e, nI_1]
  rfl
theorem tkM_g (T : ST) (q : Nat) (k p v : Int32) (nm : Int64) : g3 [3] [2, 3, 4] [0] T (tkM T q k p v nm) := g3_tr (g3_A _ _ (by decide)) (g3_tr (g3_A _ _ (by decide)) (g3_tr (g3_A _ _ (by decide)) (g3_tr (g3_L _ _ (by decide)) (g3_I _ _ (by decide)))))
/-- signs of the reference -/
theorem msgn {T : ST} {q x i : Nat} (hq : q < 403) (e : T.1 3 = nI q) (hx : x < 256) (y : Int32) : m_sign T (nI i) (nI x) y = some (nI (sgK x (decide (y = 61))).2, tkM T q (nI (kM (sgK x (decide (y = 61))).1)) (nI i) 0 0) := by
  have j : ∀ l4 l5, m_sign_j161 T (nI i) l4 l5 = some (if l4 ≤ 0 then 1 else 2, tkM T q l5 (nI i) 0 0) := by
    intro l4 l5
    unfold m_sign_j161
    rw [tok_y hq e, calV_s]
    by_cases z : l4 ≤ 0
    · rw [if_pos z, if_pos z]
    · rw [if_neg z, if_neg z]
  unfold m_sign m_sign_j44
  simp only [j]
  by_cases c59 : x = 59
  · subst c59
    by_cases hy : y = 61
    · subst hy; rfl
    · rw [if_neg hy, decide_eq_false hy]; rfl
  by_cases c40 : x = 40
  · subst c40
    by_cases hy : y = 61
    · subst hy; rfl
    · rw [if_neg hy, decide_eq_false hy]; rfl
  by_cases c41 : x = 41
  · subst c41
    by_cases hy : y = 61
    · subst hy; rfl
    · rw [if_neg hy, decide_eq_false hy]; rfl
  by_cases c43 : x = 43
  · subst c43
    by_cases hy : y = 61
    · subst hy; rfl
    · rw [if_neg hy, decide_eq_false hy]; rfl
  by_cases c45 : x = 45
  · subst c45
    by_cases hy : y = 61
    · subst hy; rfl
    · rw [if_neg hy, decide_eq_false hy]; rfl
  by_cases c42 : x = 42
  · subst c42
    by_cases hy : y = 61
    · subst hy; rfl
    · rw [if_neg hy, decide_eq_false hy]; rfl
  by_cases c47 : x = 47
  · subst c47
    by_cases hy : y = 61
    · subst hy; rfl
    · rw [if_neg hy, decide_eq_false hy]; rfl
  by_cases c60 : x = 60
  · subst c60
    by_cases hy : y = 61
    · subst hy; rfl
    · rw [if_neg hy, decide_eq_false hy]; rfl
  by_cases c61 : x = 61
  · subst c61
    by_cases hy : y = 61
    · subst hy; rfl
    · rw [if_neg hy, decide_eq_false hy]; rfl
  by_cases c33 : x = 33
  · subst c33
    by_cases hy : y = 61
    · subst hy; rfl
    · rw [if_neg hy, decide_eq_false hy]; rfl
  simp only [show (33 : Int32) = nI 33 from rfl, show (40 : Int32) = nI 40 from rfl, show (41 : Int32) = nI 41 from rfl, show (42 : Int32) = nI 42 from rfl, show (43 : Int32) = nI 43 from rfl, show (45 : Int32) = nI 45 from rfl, show (47 : Int32) = nI 47 from rfl, show (59 : Int32) = nI 59 from rfl, show (60 : Int32) = nI 60 from rfl, show (61 : Int32) = nI 61 from rfl, nIe hx (show 33 < 256 by decide), nIe hx (show 40 < 256 by decide), nIe hx (show 41 < 256 by decide), nIe hx (show 42 < 256 by decide), nIe hx (show 43 < 256 by decide), nIe hx (show 45 < 256 by decide), nIe hx (show 47 < 256 by decide), nIe hx (show 59 < 256 by decide), nIe hx (show 60 < 256 by decide), nIe hx (show 61 < 256 by decide), c59, c40, c41, c43, c45, c42, c47, c60, c61, c33, if_false, ite_self]
  unfold sgK
  simp only [c59, c40, c41, c43, c45, c42, c47, c60, c61, c33, if_false]
  rfl
