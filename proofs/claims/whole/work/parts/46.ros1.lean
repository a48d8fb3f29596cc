def qX (S : ST) : PXT := ([S.1 0, S.1 1, S.1 4, S.1 11], [S.2.1 0, S.2.1 1, S.2.1 2, S.2.1 3, S.2.1 4, S.2.1 5, S.2.1 6, S.2.1 7, S.2.1 8, S.2.1 9, S.2.1 10, S.2.1 11, S.2.1 13, S.2.1 14, S.2.1 15, S.2.1 16, S.2.1 17, S.2.1 18, S.2.1 19, S.2.1 20, S.2.1 21, S.2.1 22, S.2.1 26, S.2.1 27, S.2.1 29, S.2.1 30], [S.2.2 0])
def wX (p : PXT) : ST := (fun k => match k with | 0 => p.1.getD 0 0 | 1 => p.1.getD 1 0 | 4 => p.1.getD 2 0 | 11 => p.1.getD 3 0 | _ => 0, fun k => match k with | 0 => p.2.1.getD 0 (fun _ => 0) | 1 => p.2.1.getD 1 (fun _ => 0) | 2 => p.2.1.getD 2 (fun _ => 0) | 3 => p.2.1.getD 3 (fun _ => 0) | 4 => p.2.1.getD 4 (fun _ => 0) | 5 => p.2.1.getD 5 (fun _ => 0) | 6 => p.2.1.getD 6 (fun _ => 0) | 7 => p.2.1.getD 7 (fun _ => 0) | 8 => p.2.1.getD 8 (fun _ => 0) | 9 => p.2.1.getD 9 (fun _ => 0) | 10 => p.2.1.getD 10 (fun _ => 0) | 11 => p.2.1.getD 11 (fun _ => 0) | 13 => p.2.1.getD 12 (fun _ => 0) | 14 => p.2.1.getD 13 (fun _ => 0) | 15 => p.2.1.getD 14 (fun _ => 0) | 16 => p.2.1.getD 15 (fun _ => 0) | 17 => p.2.1.getD 16 (fun _ => 0) | 18 => p.2.1.getD 17 (fun _ => 0) | 19 => p.2.1.getD 18 (fun _ => 0) | 20 => p.2.1.getD 19 (fun _ => 0) | 21 => p.2.1.getD 20 (fun _ => 0) | 22 => p.2.1.getD 21 (fun _ => 0) | 26 => p.2.1.getD 22 (fun _ => 0) | 27 => p.2.1.getD 23 (fun _ => 0) | 29 => p.2.1.getD 24 (fun _ => 0) | 30 => p.2.1.getD 25 (fun _ => 0) | _ => fun _ => 0, fun k => match k with | 0 => p.2.2.getD 0 (fun _ => 0) | _ => fun _ => 0)
def qM (S : ST) : PMT := ([S.1 1, S.1 10, S.1 11, S.1 16, S.1 17, S.1 18], [S.2.1 0, S.2.1 5, S.2.1 6, S.2.1 7, S.2.1 8, S.2.1 9, S.2.1 10, S.2.1 11, S.2.1 12, S.2.1 13, S.2.1 14, S.2.1 15, S.2.1 16, S.2.1 17, S.2.1 18, S.2.1 19, S.2.1 23, S.2.1 24, S.2.1 25, S.2.1 26, S.2.1 27, S.2.1 28, S.2.1 29, S.2.1 30, S.2.1 31, S.2.1 33, S.2.1 34, S.2.1 36, S.2.1 37], [S.2.2 1, S.2.2 2])
def wM (p : PMT) : ST := (fun k => match k with | 1 => p.1.getD 0 0 | 10 => p.1.getD 1 0 | 11 => p.1.getD 2 0 | 16 => p.1.getD 3 0 | 17 => p.1.getD 4 0 | 18 => p.1.getD 5 0 | _ => 0, fun k => match k with | 0 => p.2.1.getD 0 (fun _ => 0) | 5 => p.2.1.getD 1 (fun _ => 0) | 6 => p.2.1.getD 2 (fun _ => 0) | 7 => p.2.1.getD 3 (fun _ => 0) | 8 => p.2.1.getD 4 (fun _ => 0) | 9 => p.2.1.getD 5 (fun _ => 0) | 10 => p.2.1.getD 6 (fun _ => 0) | 11 => p.2.1.getD 7 (fun _ => 0) | 12 => p.2.1.getD 8 (fun _ => 0) | 13 => p.2.1.getD 9 (fun _ => 0) | 14 => p.2.1.getD 10 (fun _ => 0) | 15 => p.2.1.getD 11 (fun _ => 0) | 16 => p.2.1.getD 12 (fun _ => 0) | 17 => p.2.1.getD 13 (fun _ => 0) | 18 => p.2.1.getD 14 (fun _ => 0) | 19 => p.2.1.getD 15 (fun _ => 0) | 23 => p.2.1.getD 16 (fun _ => 0) | 24 => p.2.1.getD 17 (fun _ => 0) | 25 => p.2.1.getD 18 (fun _ => 0) | 26 => p.2.1.getD 19 (fun _ => 0) | 27 => p.2.1.getD 20 (fun _ => 0) | 28 => p.2.1.getD 21 (fun _ => 0) | 29 => p.2.1.getD 22 (fun _ => 0) | 30 => p.2.1.getD 23 (fun _ => 0) | 31 => p.2.1.getD 24 (fun _ => 0) | 33 => p.2.1.getD 25 (fun _ => 0) | 34 => p.2.1.getD 26 (fun _ => 0) | 36 => p.2.1.getD 27 (fun _ => 0) | 37 => p.2.1.getD 28 (fun _ => 0) | _ => fun _ => 0, fun k => match k with | 1 => p.2.2.getD 0 (fun _ => 0) | 2 => p.2.2.getD 1 (fun _ => 0) | _ => fun _ => 0)
def RV (Sx Sm : ST) : Prop := ∀ k, k < 4 → Sx.2.1 29 k = Sm.2.1 36 k ∧ rn1 (Sm.2.1 36 k) 6 ∧ Sx.2.1 30 k = Sm.2.1 37 k ∧ rng (Sm.2.1 37 k) 256
def RY (Sx Sm : ST) : Prop := RT Sx Sm ∧ RP Sx Sm ∧ RF Sx Sm ∧ RK Sx Sm ∧ RV Sx Sm ∧ RBp (bX Sx) (bM Sm) (fM Sm)
theorem RY_p (Sx Sm : ST) : RY Sx Sm = RY (wX (qX Sx)) (wM (qM Sm)) := rfl
theorem RY_keep {Sx Sm Sx' Sm' : ST} (h : RY Sx Sm) (hx : qX Sx' = qX Sx) (hm : qM Sm' = qM Sm) : RY Sx' Sm' := by rw [RY_p, hx, hm, ← RY_p]; exact h
/-! the search for a roster, in mathematics -/
def spN (S : ST) (r : Nat) : Nat := min 6 (S.2.1 36 r).toNatClampNeg
def cbN (S : ST) (r k : Nat) : Bool := decide (((S.2.1 37 r) >>> (nI k &&& 31)) &&& 1 = 1)
abbrev RS : Type := Nat × Nat × (Nat → Nat)
def upn (a : Nat → Nat) (k r : Nat) : Nat → Nat := fun i => if i = k then r else a i
def blk (sp : Nat → Nat) (a : Nat → Nat) (k r i : Nat) : Bool := decide (a i = r) && decide (k ≤ i + sp r)
def okR (S : ST) (a : Nat → Nat) (k r : Nat) : Bool := !cbN S r k && !anyB (blk (spN S) a k r) k
def endR (sp : Nat → Nat) (a : Nat → Nat) : Nat → Nat
  | 0 => 0
  | k + 1 => max (endR sp a k) (k + sp (a k))
def ffr (sp : Nat → Nat) (a : Nat → Nat) (r : Nat) : Nat → Nat
  | 0 => 0
  | k + 1 => if a k = r then k + sp r + 1 else ffr sp a r k
def lpR (f : Nat → RS → RS) : Nat → Nat → RS → RS
  | 0, _, st => st
  | j + 1, r, st => lpR f j (r + 1) (f r st)
def vM (S : ST) (m : Nat) : Nat → Nat → (Nat → Nat) → RS → RS
  | 0, k, a, st => if endR (spN S) a k < st.2.1 then (st.1, endR (spN S) a k, a) else st
  | d + 1, k, a, st => lpR (fun r s => if okR S a k r = true then vM S m d (k + 1) (upn a k r) (max s.1 (k + 1), s.2) else s) m 0 st
def vX (S : ST) (m : Nat) : Nat → Nat → (Nat → Nat) → RS → RS
  | 0, k, a, st => (max st.1 k, endR (spN S) a k, a)
  | d + 1, k, a, st => lpR (fun r s => if (okR S a k r && decide (max (endR (spN S) a k) (k + spN S r) < s.2.1)) = true then vX S m d (k + 1) (upn a k r) s else s) m 0 (max st.1 k, st.2)
theorem upn_s (a : Nat → Nat) (k r : Nat) : upn a k r k = r := if_pos rfl
theorem upn_n (a : Nat → Nat) {k r i : Nat} (h : i ≠ k) : upn a k r i = a i := if_neg h
theorem endR_c {sp a b : Nat → Nat} : ∀ {k : Nat}, (∀ i, i < k → a i = b i) → endR sp a k = endR sp b k := by
  intro k
  induction k with
  | zero => intro _; rfl
  | succ k ih => intro h; rw [endR, endR, ih (fun i hi => h i (by omega)), h k (by omega)]
theorem endR_u (sp a : Nat → Nat) (k r : Nat) : endR sp (upn a k r) (k + 1) = max (endR sp a k) (k + sp r) := by
  rw [endR, upn_s, endR_c (fun i hi => upn_n a (show i ≠ k by omega))]
theorem spN_le (S : ST) (r : Nat) : spN S r ≤ 6 := Nat.min_le_left _ _
theorem endR_le (S : ST) (a : Nat → Nat) : ∀ k, endR (spN S) a k ≤ k + 6 := by
  intro k
  induction k with
  | zero => exact Nat.zero_le _
  | succ k ih => rw [endR]; have := spN_le S (a k); omega
theorem ffr_c {sp a b : Nat → Nat} {r : Nat} : ∀ {k : Nat}, (∀ i, i < k → a i = b i) → ffr sp a r k = ffr sp b r k := by
  intro k
  induction k with
  | zero => intro _; rfl
  | succ k ih => intro h; rw [ffr, ffr, ih (fun i hi => h i (by omega)), h k (by omega)]
theorem ffr_u (sp a : Nat → Nat) (k r r' : Nat) : ffr sp (upn a k r) r' (k + 1) = if r = r' then k + sp r' + 1 else ffr sp a r' k := by
  rw [ffr, upn_s, ffr_c (fun i hi => upn_n a (show i ≠ k by omega))]
theorem ffr_le (S : ST) (a : Nat → Nat) (r : Nat) : ∀ k, ffr (spN S) a r k ≤ k + 6 := by
  intro k
  induction k with
  | zero => exact Nat.zero_le _
  | succ k ih => rw [ffr]; have := spN_le S r; split <;> omega
theorem ffr_blk (sp a : Nat → Nat) (k r : Nat) : ∀ j, j ≤ k → anyB (blk sp a k r) j = decide (k < ffr sp a r j) := by
  intro j
  induction j with
  | zero => intro _; rfl
  | succ j ih =>
    intro h
    rw [anyB, ih (by omega), ffr, blk]
    by_cases c : a j = r
    · rw [if_pos c, decide_eq_true c, Bool.true_and]
      have key : ∀ i, i ≤ j → ffr sp a r i ≤ i + sp r := by
        intro i
        induction i with
        | zero => intro _; exact Nat.zero_le _
        | succ i ih2 => intro hi; rw [ffr]; have := ih2 (by omega); split <;> omega
      have k1 := key j (Nat.le_refl _)
      by_cases q : k ≤ j + sp r
      · rw [decide_eq_true q, Bool.or_true, decide_eq_true (show k < j + sp r + 1 by omega)]
      · rw [decide_eq_false q, Bool.or_false, decide_eq_false (by omega), decide_eq_false (by omega)]
    · rw [if_neg c, decide_eq_false c, Bool.false_and, Bool.or_false]
theorem vM_prune (S : ST) (m : Nat) : ∀ d k a st, st.2.1 ≤ endR (spN S) a k → (vM S m d k a st).2 = st.2 := by
  intro d
  induction d with
  | zero => intro k a st h; rw [vM, if_neg (by omega)]
  | succ d ih =>
    intro k a st h
    rw [vM]
    have lp : ∀ j r st, st.2.1 ≤ endR (spN S) a k → (lpR (fun r s => if okR S a k r = true then vM S m d (k + 1) (upn a k r) (max s.1 (k + 1), s.2) else s) j r st).2 = st.2 := by
      intro j
      induction j with
      | zero => intro r st _; rfl
      | succ j ih2 =>
        intro r st h
        rw [lpR]
        have e : (if okR S a k r = true then vM S m d (k + 1) (upn a k r) (max st.1 (k + 1), st.2) else st).2 = st.2 := by
          by_cases c : okR S a k r = true
          · rw [if_pos c, ih (k + 1) (upn a k r) (max st.1 (k + 1), st.2) (by rw [endR_u]; show st.2.1 ≤ _; omega)]
          · rw [if_neg c]
        rw [ih2 (r + 1) _ (by rw [e]; exact h), e]
    exact lp m 0 st h
def QR (s x : RS) : Prop := s.2 = x.2 ∧ (s.2.1 = 100 → s.1 = x.1)
theorem vMX (S : ST) (m : Nat) : ∀ d k a st sx, k + d ≤ 8 → endR (spN S) a k < st.2.1 → st.2 = sx.2 → (st.2.1 = 100 → st.1 = max sx.1 k) → QR (vM S m d k a st) (vX S m d k a sx) := by
  intro d
  induction d with
  | zero =>
    intro k a st sx hk h1 h2 h3
    have := endR_le S a k
    rw [vM, if_pos h1, vX]
    exact ⟨rfl, fun q => absurd (show endR (spN S) a k = 100 from q) (by omega)⟩
  | succ d ih =>
    intro k a st sx hk h1 h2 h3
    rw [vM, vX]
    have lp : ∀ j r s x, QR s x → QR (lpR (fun r s => if okR S a k r = true then vM S m d (k + 1) (upn a k r) (max s.1 (k + 1), s.2) else s) j r s) (lpR (fun r s => if (okR S a k r && decide (max (endR (spN S) a k) (k + spN S r) < s.2.1)) = true then vX S m d (k + 1) (upn a k r) s else s) j r x) := by
      intro j
      induction j with
      | zero => intro r s x h; exact h
      | succ j ih2 =>
        intro r s x h
        rw [lpR, lpR]
        refine ih2 (r + 1) _ _ ?_
        by_cases c : okR S a k r = true
        · rw [if_pos c, c, Bool.true_and]
          by_cases c2 : max (endR (spN S) a k) (k + spN S r) < x.2.1
          · rw [if_pos (decide_eq_true c2)]
            refine ih (k + 1) (upn a k r) (max s.1 (k + 1), s.2) x (by omega) (by rw [endR_u]; show _ < s.2.1; rw [h.1]; exact c2) h.1 (fun q => ?_)
            show max s.1 (k + 1) = _
            rw [h.2 q]
          · rw [if_neg (by simp; omega)]
            have e := vM_prune S m d (k + 1) (upn a k r) (max s.1 (k + 1), s.2) (by rw [endR_u]; show s.2.1 ≤ _; rw [h.1]; omega)
            have b1 := endR_le S a k
            have b2 := spN_le S r
            refine ⟨e.trans h.1, fun q => ?_⟩
            rw [e] at q
            have q : s.2.1 = 100 := q
            rw [h.1] at q
            omega
        · rw [if_neg c, show okR S a k r = false from by simpa using c, Bool.false_and, if_neg (by decide)]
          exact h
    exact lp m 0 st (max sx.1 k, sx.2) ⟨h2, h3⟩
theorem vX_b (S : ST) (m : Nat) : ∀ d k a st, k + d ≤ 8 → st.1 ≤ 8 → st.2.1 ≤ 100 → (vX S m d k a st).1 ≤ 8 ∧ (vX S m d k a st).2.1 ≤ 100 := by
  intro d
  induction d with
  | zero => intro k a st h h1 h2; rw [vX]; have := endR_le S a k; exact ⟨by show max st.1 k ≤ 8; omega, by show endR _ _ _ ≤ 100; omega⟩
  | succ d ih =>
    intro k a st h h1 h2
    rw [vX]
    have lp : ∀ j r (x : RS), x.1 ≤ 8 → x.2.1 ≤ 100 → (lpR (fun r s => if (okR S a k r && decide (max (endR (spN S) a k) (k + spN S r) < s.2.1)) = true then vX S m d (k + 1) (upn a k r) s else s) j r x).1 ≤ 8 ∧ (lpR (fun r s => if (okR S a k r && decide (max (endR (spN S) a k) (k + spN S r) < s.2.1)) = true then vX S m d (k + 1) (upn a k r) s else s) j r x).2.1 ≤ 100 := by
      intro j
      induction j with
      | zero => intro r x a b; exact ⟨a, b⟩
      | succ j ih2 =>
        intro r x h1 h2
        rw [lpR]
        by_cases c : (okR S a k r && decide (max (endR (spN S) a k) (k + spN S r) < x.2.1)) = true
        · rw [if_pos c]; have := ih (k + 1) (upn a k r) x (by omega) h1 h2; exact ih2 (r + 1) _ this.1 this.2
        · rw [if_neg c]; exact ih2 (r + 1) _ h1 h2
    exact lp m 0 _ (by show max st.1 k ≤ 8; omega) h2
theorem vM_b (S : ST) (m : Nat) : ∀ d k a st, k + d ≤ 8 → st.1 ≤ 8 → st.2.1 ≤ 100 → (vM S m d k a st).1 ≤ 8 ∧ (vM S m d k a st).2.1 ≤ 100 := by
  intro d
  induction d with
  | zero =>
    intro k a st h h1 h2
    rw [vM]; have := endR_le S a k
    by_cases c : endR (spN S) a k < st.2.1
    · rw [if_pos c]; exact ⟨h1, by show endR _ _ _ ≤ 100; omega⟩
    · rw [if_neg c]; exact ⟨h1, h2⟩
  | succ d ih =>
    intro k a st h h1 h2
    rw [vM]
    have lp : ∀ j r (x : RS), x.1 ≤ 8 → x.2.1 ≤ 100 → (lpR (fun r s => if okR S a k r = true then vM S m d (k + 1) (upn a k r) (max s.1 (k + 1), s.2) else s) j r x).1 ≤ 8 ∧ (lpR (fun r s => if okR S a k r = true then vM S m d (k + 1) (upn a k r) (max s.1 (k + 1), s.2) else s) j r x).2.1 ≤ 100 := by
      intro j
      induction j with
      | zero => intro r x a b; exact ⟨a, b⟩
      | succ j ih2 =>
        intro r x h1 h2
        rw [lpR]
        by_cases c : okR S a k r = true
        · rw [if_pos c]; have := ih (k + 1) (upn a k r) (max x.1 (k + 1), x.2) (by omega) (by show max x.1 (k + 1) ≤ 8; omega) h2; exact ih2 (r + 1) _ this.1 this.2
        · rw [if_neg c]; exact ih2 (r + 1) _ h1 h2
    exact lp m 0 _ h1 h2
