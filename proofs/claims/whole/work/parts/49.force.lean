abbrev p2I : List Nat := [1, 10, 11, 18, 26]
abbrev p2A : List Nat := [0, 5, 6, 7, 8, 9, 10, 11, 12, 13, 14, 15, 16, 17, 18, 19, 24, 25, 26, 27, 28, 29, 30, 31, 33, 34, 36, 37, 39]
abbrev pXI : List Nat := [0, 1, 4, 11, 24]
abbrev pXA : List Nat := [0, 1, 2, 3, 4, 5, 6, 7, 8, 9, 10, 11, 13, 14, 15, 16, 17, 18, 19, 20, 21, 22, 26, 27, 29, 30, 33]
def p2 (S : ST) : PMT := ([S.1 1, S.1 10, S.1 11, S.1 18, S.1 26], [S.2.1 0, S.2.1 5, S.2.1 6, S.2.1 7, S.2.1 8, S.2.1 9, S.2.1 10, S.2.1 11, S.2.1 12, S.2.1 13, S.2.1 14, S.2.1 15, S.2.1 16, S.2.1 17, S.2.1 18, S.2.1 19, S.2.1 24, S.2.1 25, S.2.1 26, S.2.1 27, S.2.1 28, S.2.1 29, S.2.1 30, S.2.1 31, S.2.1 33, S.2.1 34, S.2.1 36, S.2.1 37, S.2.1 39], [S.2.2 1, S.2.2 2])
def w2 (p : PMT) : ST := (fun k => match k with | 1 => p.1.getD 0 0 | 10 => p.1.getD 1 0 | 11 => p.1.getD 2 0 | 18 => p.1.getD 3 0 | 26 => p.1.getD 4 0 | _ => 0, fun k => match k with | 0 => p.2.1.getD 0 (fun _ => 0) | 5 => p.2.1.getD 1 (fun _ => 0) | 6 => p.2.1.getD 2 (fun _ => 0) | 7 => p.2.1.getD 3 (fun _ => 0) | 8 => p.2.1.getD 4 (fun _ => 0) | 9 => p.2.1.getD 5 (fun _ => 0) | 10 => p.2.1.getD 6 (fun _ => 0) | 11 => p.2.1.getD 7 (fun _ => 0) | 12 => p.2.1.getD 8 (fun _ => 0) | 13 => p.2.1.getD 9 (fun _ => 0) | 14 => p.2.1.getD 10 (fun _ => 0) | 15 => p.2.1.getD 11 (fun _ => 0) | 16 => p.2.1.getD 12 (fun _ => 0) | 17 => p.2.1.getD 13 (fun _ => 0) | 18 => p.2.1.getD 14 (fun _ => 0) | 19 => p.2.1.getD 15 (fun _ => 0) | 24 => p.2.1.getD 16 (fun _ => 0) | 25 => p.2.1.getD 17 (fun _ => 0) | 26 => p.2.1.getD 18 (fun _ => 0) | 27 => p.2.1.getD 19 (fun _ => 0) | 28 => p.2.1.getD 20 (fun _ => 0) | 29 => p.2.1.getD 21 (fun _ => 0) | 30 => p.2.1.getD 22 (fun _ => 0) | 31 => p.2.1.getD 23 (fun _ => 0) | 33 => p.2.1.getD 24 (fun _ => 0) | 34 => p.2.1.getD 25 (fun _ => 0) | 36 => p.2.1.getD 26 (fun _ => 0) | 37 => p.2.1.getD 27 (fun _ => 0) | 39 => p.2.1.getD 28 (fun _ => 0) | _ => fun _ => 0, fun k => match k with | 1 => p.2.2.getD 0 (fun _ => 0) | 2 => p.2.2.getD 1 (fun _ => 0) | _ => fun _ => 0)
/-- nothing changes but these -/
def fr (I A : List Nat) (S S' : ST) : Prop := (∀ k, k ∉ I → S'.1 k = S.1 k) ∧ (∀ k, k ∉ A → S'.2.1 k = S.2.1 k) ∧ S'.2.2 = S.2.2
theorem fr_rfl (I A : List Nat) (S : ST) : fr I A S S := ⟨fun _ _ => rfl, fun _ _ => rfl, rfl⟩
theorem fr_tr {I A : List Nat} {S T U : ST} (h : fr I A S T) (g : fr I A T U) : fr I A S U := ⟨fun k hk => (g.1 k hk).trans (h.1 k hk), fun k hk => (g.2.1 k hk).trans (h.2.1 k hk), g.2.2.trans h.2.2⟩
theorem fr_sub {I A I' A' : List Nat} {S T : ST} (hI : ∀ k, k ∈ I → k ∈ I') (hA : ∀ k, k ∈ A → k ∈ A') (h : fr I A S T) : fr I' A' S T := ⟨fun k hk => h.1 k (fun q => hk (hI k q)), fun k hk => h.2.1 k (fun q => hk (hA k q)), h.2.2⟩
theorem fr_I {I A : List Nat} (S : ST) {k : Nat} (v : Int32) (hk : k ∈ I) : fr I A S (sI S k v) := ⟨fun j hj => pk_un (fun e => hj (by rw [e]; exact hk)), fun _ _ => rfl, rfl⟩
theorem va_o {α : Type} (f : Nat → α) {k j : Nat} (v : α) (h : j ≠ k) : va_up f k v j = f j := by unfold va_up; exact if_neg h
theorem fr_A {I A : List Nat} (S : ST) {k : Nat} (v : Nat → Int32) (hk : k ∈ A) : fr I A S (sA S k v) := ⟨fun _ _ => rfl, fun j hj => va_o _ _ (fun e => hj (by rw [e]; exact hk)), rfl⟩
theorem p2_fr {I A : List Nat} {S S' : ST} (hI : ∀ k, k ∈ p2I → k ∉ I) (hA : ∀ k, k ∈ p2A → k ∉ A) (h : fr I A S S') : p2 S' = p2 S := by
  show (p2I.map S'.1, p2A.map S'.2.1, [1, 2].map S'.2.2) = (p2I.map S.1, p2A.map S.2.1, [1, 2].map S.2.2)
  rw [List.map_congr_left (fun k hk => h.1 k (hI k hk)), List.map_congr_left (fun k hk => h.2.1 k (hA k hk)), h.2.2]
theorem pX_fr {I A : List Nat} {S S' : ST} (hI : ∀ k, k ∈ pXI → k ∉ I) (hA : ∀ k, k ∈ pXA → k ∉ A) (h : fr I A S S') : pX S' = pX S := by
  show (pXI.map S'.1, pXA.map S'.2.1, [0].map S'.2.2) = (pXI.map S.1, pXA.map S.2.1, [0].map S.2.2)
  rw [List.map_congr_left (fun k hk => h.1 k (hI k hk)), List.map_congr_left (fun k hk => h.2.1 k (hA k hk)), h.2.2]
def RZ (Sx Sm : ST) : Prop := RT Sx Sm ∧ RP Sx Sm ∧ RF Sx Sm ∧ RK Sx Sm ∧ RW Sx Sm
theorem RZ_p (Sx Sm : ST) : RZ Sx Sm = RZ (rX (pX Sx)) (w2 (p2 Sm)) := rfl
theorem BM_p (Sm : ST) (b : BK) : BM Sm b = BM (w2 (p2 Sm)) b := rfl
theorem BX_p (Sx : ST) (b : BK) : BX Sx b = BX (rX (pX Sx)) b := rfl
theorem BM_k {S Sm : ST} {b : BK} (e : p2 S = p2 Sm) (h : BM Sm b) : BM S b := by rw [BM_p, e, ← BM_p]; exact h
theorem BX_k {S Sx : ST} {b : BK} (e : pX S = pX Sx) (h : BX Sx b) : BX S b := by rw [BX_p, e, ← BX_p]; exact h
theorem RR_mk {Sx Sm Sx' Sm' : ST} {b : BK} (h : RZ Sx Sm) (hx : BX Sx b) (hm : BM Sm b) (hb : okB b) (ex : pX Sx' = pX Sx) (em : p2 Sm' = p2 Sm) (hc : CM Sm' b) : RR Sx' Sm' := by
  have h' : RZ Sx' Sm' := by rw [RZ_p, ex, em, ← RZ_p]; exact h
  obtain ⟨h1, h2, h3, h4, h5⟩ := h'
  have hr : RB Sx' Sm' := ⟨b, hb, BX_k ex hx, BM_k em hm, hc⟩
  exact ⟨h1, h2, h3, h4, h5, hr⟩
theorem RR_un {Sx Sm : ST} (h : RR Sx Sm) : RZ Sx Sm ∧ ∃ b, okB b ∧ BX Sx b ∧ BM Sm b ∧ CM Sm b := ⟨⟨h.1, h.2.1, h.2.2.1, h.2.2.2.1, h.2.2.2.2.1⟩, h.2.2.2.2.2⟩
/-! names -/
theorem e27_inj : ∀ {l k : List Nat}, lets l → lets k → e27 l = e27 k → l = k := by
  intro l
  induction l with
  | nil =>
    intro k _ hk e
    cases k with
    | nil => rfl
    | cons c r => simp only [e27] at e; simp only [lets] at hk; omega
  | cons c r ih =>
    intro k hl hk e
    cases k with
    | nil => simp only [e27] at e; simp only [lets] at hl; omega
    | cons d s =>
      simp only [e27] at e
      simp only [lets] at hl hk
      have h1 : c = d := by omega
      have h2 : e27 r = e27 s := by omega
      rw [h1, ih hl.2.2 hk.2.2 h2]
theorem e32_inj : ∀ {l k : List Nat}, lets l → lets k → e32 l = e32 k → l = k := by
  intro l
  induction l with
  | nil =>
    intro k _ hk e
    cases k with
    | nil => rfl
    | cons c r => simp only [e32] at e; simp only [lets] at hk; omega
  | cons c r ih =>
    intro k hl hk e
    cases k with
    | nil => simp only [e32] at e; simp only [lets] at hl; omega
    | cons d s =>
      simp only [e32] at e
      simp only [lets] at hl hk
      have h1 : c = d := by omega
      have h2 : e32 r = e32 s := by omega
      rw [h1, ih hl.2.2 hk.2.2 h2]
theorem e27_lt : ∀ {l : List Nat} {n : Nat}, lets l → l.length ≤ n → e27 l < 27 ^ n := by
  intro l
  induction l with
  | nil => intro n _ _; exact Nat.pow_pos (by decide)
  | cons c r ih =>
    intro n hl h
    obtain ⟨m, rfl⟩ : ∃ m, n = m + 1 := ⟨n - 1, by simp at h; omega⟩
    simp only [lets] at hl
    have := ih (n := m) hl.2.2 (by simp at h; omega)
    rw [e27, Nat.pow_succ]; omega
theorem e32_lt : ∀ {l : List Nat} {n : Nat}, lets l → l.length ≤ n → e32 l < 32 ^ n := by
  intro l
  induction l with
  | nil => intro n _ _; exact Nat.pow_pos (by decide)
  | cons c r ih =>
    intro n hl h
    obtain ⟨m, rfl⟩ : ∃ m, n = m + 1 := ⟨n - 1, by simp at h; omega⟩
    simp only [lets] at hl
    have := ih (n := m) hl.2.2 (by simp at h; omega)
    rw [e32, Nat.pow_succ]; omega
theorem n27 {l k : List Nat} (hl : lets l) (hk : lets k) (ll : l.length ≤ 8) (lk : k.length ≤ 8) : lN (e27 l) = lN (e27 k) ↔ l = k := by
  have h1 := e27_lt hl ll
  have h2 := e27_lt hk lk
  rw [pk_lEQ (Nat.lt_trans h1 (by decide)) (Nat.lt_trans h2 (by decide))]
  exact ⟨e27_inj hl hk, fun e => by rw [e]⟩
theorem n32 {l k : List Nat} (hl : lets l) (hk : lets k) (ll : l.length ≤ 8) (lk : k.length ≤ 8) : lN (e32 l) = lN (e32 k) ↔ l = k := by
  have h1 := e32_lt hl ll
  have h2 := e32_lt hk lk
  rw [pk_lEQ (Nat.lt_trans h1 (by decide)) (Nat.lt_trans h2 (by decide))]
  exact ⟨e32_inj hl hk, fun e => by rw [e]⟩
theorem cmp0 (x y : Int64) : (lg_cmp x y = 0) = (x = y) := by
  unfold lg_cmp
  apply propext
  by_cases c : x > y
  · rw [if_pos c]
    exact ⟨fun h => absurd h (by decide), fun h => absurd c (by rw [h]; exact Int64.lt_irrefl)⟩
  · rw [if_neg c]
    by_cases q : x = y
    · rw [if_pos q]; exact ⟨fun _ => q, fun _ => rfl⟩
    · rw [if_neg q]; exact ⟨fun h => absurd h (by decide), fun h => absurd h q⟩
/-! lists in force -/
theorem fnd_le (P : Nat → Bool) : ∀ j p, fnd P j p ≤ p + j := by
  intro j
  induction j with
  | zero => intro p; exact Nat.le_refl _
  | succ j ih => intro p; rw [fnd]; have := ih (p + 1); split <;> omega
theorem fnd_lo (P : Nat → Bool) : ∀ j p, p ≤ fnd P j p := by
  intro j
  induction j with
  | zero => intro p; exact Nat.le_refl _
  | succ j ih => intro p; rw [fnd]; have := ih (p + 1); split <;> omega
theorem fnd_no (P : Nat → Bool) : ∀ j p q, p ≤ q → q < fnd P j p → P q = false := by
  intro j
  induction j with
  | zero => intro p q h1 h2; rw [fnd] at h2; omega
  | succ j ih =>
    intro p q h1 h2
    rw [fnd] at h2
    by_cases c : P p = true
    · rw [if_pos c] at h2; omega
    · rw [if_neg c] at h2
      by_cases e : q = p
      · rw [e]; simpa using c
      · exact ih (p + 1) q (by omega) h2
theorem fnd_yes (P : Nat → Bool) : ∀ j p, fnd P j p < p + j → P (fnd P j p) = true := by
  intro j
  induction j with
  | zero => intro p h; rw [fnd] at h; omega
  | succ j ih =>
    intro p h
    rw [fnd] at h ⊢
    by_cases c : P p = true
    · rw [if_pos c]; exact c
    · rw [if_neg c] at h ⊢; exact ih (p + 1) (by omega)
theorem fnd_congr {P Q : Nat → Bool} : ∀ j p, (∀ q, p ≤ q → q < p + j → P q = Q q) → fnd P j p = fnd Q j p := by
  intro j
  induction j with
  | zero => intro p _; rfl
  | succ j ih => intro p h; rw [fnd, fnd, h p (by omega) (by omega), ih (p + 1) (fun q h1 h2 => h q (by omega) (by omega))]
def used (b : BK) (r : Nat) : Prop := r / 24 < bkN b ∧ r % 24 < bkR b (r / 24)
def okF (b : BK) (F : FL) : Prop := (∀ p, p < F.1 → used b (F.2 p)) ∧ ∀ p q, p < F.1 → q < F.1 → bkM b (F.2 p) = bkM b (F.2 q) → p = q
theorem cmP_le (b : BK) (r : Nat) (F : FL) : cmP b r F ≤ F.1 := by have := fnd_le (fun i => decide (bkM b (F.2 i) = bkM b r)) F.1 0; unfold cmP; omega
theorem cmP_no (b : BK) (r : Nat) (F : FL) {q : Nat} (h : q < cmP b r F) : bkM b (F.2 q) ≠ bkM b r := by
  have := fnd_no _ F.1 0 q (Nat.zero_le _) h
  simpa using this
theorem cmP_yes (b : BK) (r : Nat) (F : FL) (h : cmP b r F < F.1) : bkM b (F.2 (cmP b r F)) = bkM b r := by
  have := fnd_yes (fun i => decide (bkM b (F.2 i) = bkM b r)) F.1 0 (by unfold cmP at h; omega)
  exact of_decide_eq_true this
theorem com_ok {b : BK} {r : Nat} {F : FL} (hr : used b r) (h : okF b F) : okF b (com b r F) ∧ (com b r F).1 ≤ F.1 + 1 := by
  obtain ⟨h1, h2⟩ := h
  unfold com
  by_cases c : cmP b r F < F.1
  · rw [if_pos c]
    by_cases c5 : bkS b r = 5
    · rw [if_pos c5]
      refine ⟨⟨fun p hp => ?_, fun p q hp hq e => ?_⟩, by show F.1 - 1 ≤ F.1 + 1; omega⟩
      · have hp : p < F.1 - 1 := hp
        show used b (if p < cmP b r F then F.2 p else F.2 (p + 1))
        split
        · exact h1 p (by omega)
        · exact h1 (p + 1) (by omega)
      · have hp : p < F.1 - 1 := hp
        have hq : q < F.1 - 1 := hq
        have e : bkM b (if p < cmP b r F then F.2 p else F.2 (p + 1)) = bkM b (if q < cmP b r F then F.2 q else F.2 (q + 1)) := e
        by_cases a1 : p < cmP b r F <;> by_cases a2 : q < cmP b r F
        · rw [if_pos a1, if_pos a2] at e; exact h2 p q (by omega) (by omega) e
        · rw [if_pos a1, if_neg a2] at e; have := h2 p (q + 1) (by omega) (by omega) e; omega
        · rw [if_neg a1, if_pos a2] at e; have := h2 (p + 1) q (by omega) (by omega) e; omega
        · rw [if_neg a1, if_neg a2] at e; have := h2 (p + 1) (q + 1) (by omega) (by omega) e; omega
    · rw [if_neg c5]
      have hy := cmP_yes b r F c
      refine ⟨⟨fun p hp => ?_, fun p q hp hq e => ?_⟩, by show F.1 ≤ F.1 + 1; omega⟩
      · show used b (if p = cmP b r F then r else F.2 p)
        split
        · exact hr
        · exact h1 p hp
      · have e : bkM b (if p = cmP b r F then r else F.2 p) = bkM b (if q = cmP b r F then r else F.2 q) := e
        by_cases a1 : p = cmP b r F <;> by_cases a2 : q = cmP b r F
        · rw [a1, a2]
        · rw [if_pos a1, if_neg a2, ← hy] at e; have := h2 _ q c hq e; omega
        · rw [if_neg a1, if_pos a2, ← hy] at e; have := h2 p _ hp c e; omega
        · rw [if_neg a1, if_neg a2] at e; exact h2 p q hp hq e
  · rw [if_neg c]
    have ce : cmP b r F = F.1 := by have := cmP_le b r F; omega
    by_cases c5 : bkS b r = 5
    · rw [if_pos c5]; exact ⟨⟨h1, h2⟩, by omega⟩
    · rw [if_neg c5]
      refine ⟨⟨fun p hp => ?_, fun p q hp hq e => ?_⟩, Nat.le_refl _⟩
      · have hp : p < F.1 + 1 := hp
        show used b (if p = F.1 then r else F.2 p)
        split
        · exact hr
        · exact h1 p (by omega)
      · have hp : p < F.1 + 1 := hp
        have hq : q < F.1 + 1 := hq
        have e : bkM b (if p = F.1 then r else F.2 p) = bkM b (if q = F.1 then r else F.2 q) := e
        by_cases a1 : p = F.1 <;> by_cases a2 : q = F.1
        · omega
        · rw [if_pos a1, if_neg a2] at e; exact absurd e.symm (cmP_no b r F (by omega))
        · rw [if_neg a1, if_pos a2] at e; exact absurd e (cmP_no b r F (by omega))
        · rw [if_neg a1, if_neg a2] at e; exact h2 p q (by omega) (by omega) e
theorem used_i {b : BK} {k i : Nat} (hk : k < bkN b) (hi : i < bkR b k) (h24 : bkR b k ≤ 24) : used b (24 * k + i) := by
  have e1 : (24 * k + i) / 24 = k := by omega
  have e2 : (24 * k + i) % 24 = i := by omega
  unfold used; rw [e1, e2]; exact ⟨hk, hi⟩
theorem comT_ok {b : BK} {k : Nat} (hk : k < bkN b) (h24 : bkR b k ≤ 24) : ∀ j i F, i + j = bkR b k → okF b F → okF b (comT b k j i F) ∧ (comT b k j i F).1 ≤ F.1 + j := by
  intro j
  induction j with
  | zero => intro i F _ h; exact ⟨h, Nat.le_refl _⟩
  | succ j ih =>
    intro i F e h
    have h1 := com_ok (used_i hk (show i < bkR b k by omega) h24) h
    have h2 := ih (i + 1) _ (by omega) h1.1
    rw [comT]; exact ⟨h2.1, by omega⟩
/-- the texts before text k of day d -/
def lvK (b : BK) (d k : Nat) : Nat := cnP (fun j => decide (bkD b j < d) || (decide (bkD b j = d) && decide (j < k))) (bkN b)
theorem cnP_eq {p q : Nat → Bool} : ∀ {n : Nat}, (∀ j, j < n → p j = q j) → cnP p n = cnP q n := by
  intro n
  induction n with
  | zero => intro _; rfl
  | succ n ih => intro h; rw [cnP, cnP, ih (fun j hj => h j (by omega)), h n (by omega)]
theorem cnP_le (p : Nat → Bool) : ∀ n, cnP p n ≤ n := by
  intro n
  induction n with
  | zero => exact Nat.le_refl _
  | succ n ih => rw [cnP]; have : (p n).toNat ≤ 1 := by cases p n <;> decide
                 omega
theorem cnP_1 {p q : Nat → Bool} {k : Nat} (h1 : p k = false) (h2 : q k = true) : ∀ {n : Nat}, k < n → (∀ j, j < n → j ≠ k → p j = q j) → cnP q n = cnP p n + 1 := by
  intro n
  induction n with
  | zero => intro hk _; omega
  | succ n ih =>
    intro hk h
    rw [cnP, cnP]
    by_cases c : k = n
    · subst c
      rw [h1, h2, cnP_eq (p := p) (q := q) (fun j hj => h j (by omega) (by omega))]; rfl
    · rw [ih (by omega) (fun j hj => h j (by omega)), h n (by omega) (by omega)]; omega
theorem lvK_0 (b : BK) (d : Nat) : lvK b d 0 = lvD b d := cnP_eq (fun j _ => by simp)
theorem lvK_n (b : BK) (d : Nat) : lvK b d (bkN b) = lvD b (d + 1) := cnP_eq (fun j hj => by
  simp only [hj, decide_true, Bool.and_true]
  by_cases c : bkD b j < d
  · rw [decide_eq_true c, decide_eq_true (show bkD b j < d + 1 by omega)]; rfl
  · rw [decide_eq_false c, Bool.false_or]
    by_cases e : bkD b j = d
    · rw [decide_eq_true e, decide_eq_true (by omega)]
    · rw [decide_eq_false e, decide_eq_false (by omega)])
theorem lvK_y (b : BK) {d k : Nat} (hk : k < bkN b) (h : bkD b k = d) : lvK b d (k + 1) = lvK b d k + 1 := by
  refine cnP_1 (k := k) (by simp; omega) (by simp; omega) hk (fun j hj hn => ?_)
  have : decide (j < k) = decide (j < k + 1) := decide_eq_decide.mpr (by omega)
  rw [this]
theorem lvK_no (b : BK) {d k : Nat} (h : bkD b k ≠ d) : lvK b d (k + 1) = lvK b d k := cnP_eq (fun j hj => by
  by_cases c : j = k
  · subst c; simp [h]
  · have : decide (j < k + 1) = decide (j < k) := decide_eq_decide.mpr (by omega)
    rw [this])
theorem lvK_lt (b : BK) {d k : Nat} (hk : k < bkN b) (h : bkD b k = d) : lvK b d k + 1 ≤ bkN b := by
  rw [← lvK_y b hk h]; exact cnP_le _ _
/-- the list when texts of day d before k have come -/
theorem comD_ok {b : BK} (hb : okB b) {d : Nat} : ∀ j k F, k + j = bkN b → okF b F → F.1 ≤ 24 * lvK b d k → okF b (comD b d j k F) ∧ (comD b d j k F).1 ≤ 24 * lvK b d (bkN b) := by
  intro j
  induction j with
  | zero => intro k F e h hl; rw [show bkN b = k by omega]; exact ⟨h, hl⟩
  | succ j ih =>
    intro k F e h hl
    rw [comD]
    have hk : k < bkN b := by omega
    have h24 := (hb.2.1 k hk).2
    by_cases c : bkD b k = d
    · rw [if_pos c]
      have h1 := comT_ok hk h24 (bkR b k) 0 F (by omega) h
      exact ih (k + 1) _ (by omega) h1.1 (by rw [lvK_y b hk c]; omega)
    · rw [if_neg c]
      exact ih (k + 1) _ (by omega) h (by rw [lvK_no b c]; exact hl)
theorem AL_ok {b : BK} (hb : okB b) : ∀ D, okF b (AL b D) ∧ (AL b D).1 ≤ 24 * lvD b D := by
  intro D
  induction D with
  | zero => exact ⟨⟨fun p hp => absurd hp (Nat.not_lt_zero p), fun p q hp => absurd hp (Nat.not_lt_zero p)⟩, Nat.zero_le _⟩
  | succ D ih =>
    rw [AL, ← lvK_n]
    exact comD_ok hb (bkN b) 0 _ (by omega) ih.1 (by rw [lvK_0]; exact ih.2)
theorem AL_le {b : BK} (hb : okB b) (D : Nat) : (AL b D).1 ≤ 144 := by
  have h1 := (AL_ok hb D).2
  have h2 : lvD b D ≤ bkN b := cnP_le _ _
  have h3 := hb.1
  omega
