abbrev xI : List Nat := [12, 13, 14, 15, 16, 17, 18, 25, 26]
abbrev xA : List Nat := [23, 34]
abbrev mI : List Nat := [15, 16, 17, 19, 20, 21, 22, 23]
abbrev mA : List Nat := [21, 22, 23]
theorem pX_x {S S' : ST} (h : fr xI xA S S') : pX S' = pX S := pX_fr (by decide) (by decide) h
theorem p2_x {S S' : ST} (h : fr mI mA S S') : p2 S' = p2 S := p2_fr (by decide) (by decide) h
theorem factR_2 {Sx Sm S T : ST} {f : Nat} (hx : pX S = pX Sx) (hm : p2 T = p2 Sm) (h : factR Sx Sm f) : factR S T f := by
  have : factR (rX (pX S)) (w2 (p2 T)) f := by rw [hx, hm]; exact h
  exact this
/-- what both know while a line is printed -/
def CT (Sx Sm : ST) (b : BK) (n : Nat) : Prop := okB b ∧ BX Sx b ∧ BM Sm b ∧ CM Sm b ∧ n ≤ 180 ∧ ∀ k, k < n → factR Sx Sm k
theorem CT_k {Sx Sm S T : ST} {b : BK} {n : Nat} (h : CT Sx Sm b n) (hx : fr xI xA Sx S) (hm : fr mI mA Sm T) (hc : CM T b) : CT S T b n :=
  ⟨h.1, BX_k (pX_x hx) h.2.1, BM_k (p2_x hm) h.2.2.1, hc, h.2.2.2.2.1, fun k hk => factR_2 (pX_x hx) (p2_x hm) (h.2.2.2.2.2 k hk)⟩
def PS (S T : ST) (w l : Int32) (v : Nat → Int32) : Prop := S.1 12 = w ∧ T.1 19 = w ∧ S.1 14 = l ∧ T.1 20 = l ∧ VX S v ∧ VM T v ∧ rng w 1000
def sv (v : Nat → Int32) (w dd l nx : Int32) : Nat → Int32 := fun i => if i = 10 then nx else if i = 8 then l else if i = 7 then dd else if i = 0 then w else v i
theorem setV {S : ST} {v : Nat → Int32} (hv : VX S v) (dd nx : Int32) : ∃ S', x3_setVariables S dd nx = some S' ∧ fr [] [23] S S' ∧ VX S' (sv v (S.1 12) dd (S.1 14) nx) := by
  refine ⟨_, rfl, fr_tr (fr_A _ _ (by decide)) (fr_tr (fr_A _ _ (by decide)) (fr_tr (fr_A _ _ (by decide)) (fr_A _ _ (by decide)))), lt12 rfl ?_ ?_ ?_ ?_ ?_ ?_ rfl rfl ?_ rfl ?_⟩
  · exact hv 1 (by decide)
  · exact hv 2 (by decide)
  · exact hv 3 (by decide)
  · exact hv 4 (by decide)
  · exact hv 5 (by decide)
  · exact hv 6 (by decide)
  · exact hv 9 (by decide)
  · exact hv 11 (by decide)
theorem sv_m {T : ST} {v : Nat → Int32} (hv : VM T v) (w dd l nx : Int32) : VM (sA (sA (sA (sA T 21 (upd (T.2.1 21) 0 w)) 21 (upd (upd (T.2.1 21) 0 w) 8 l)) 21 (upd (upd (upd (T.2.1 21) 0 w) 8 l) 7 dd)) 21 (upd (upd (upd (upd (T.2.1 21) 0 w) 8 l) 7 dd) 10 nx)) (sv v w dd l nx) := by
  refine lt12 rfl ?_ ?_ ?_ ?_ ?_ ?_ rfl rfl ?_ rfl ?_
  · exact hv 1 (by decide)
  · exact hv 2 (by decide)
  · exact hv 3 (by decide)
  · exact hv 4 (by decide)
  · exact hv 5 (by decide)
  · exact hv 6 (by decide)
  · exact hv 9 (by decide)
  · exact hv 11 (by decide)
theorem clampW (r : Int32) : (if 0 < (if r < 999 then r else 999) then (if r < 999 then r else 999) else 0) = (if 0 ≤ r then (if r ≤ 999 then r else 999) else 0) ∧ rng (if 0 ≤ r then (if r ≤ 999 then r else 999) else 0) 1000 := by
  by_cases c0 : r < 0
  · have c1 : r < 999 := by rw [Int32.lt_iff_toInt_lt] at *; have : (0 : Int32).toInt = 0 := rfl; have : (999 : Int32).toInt = 999 := rfl; omega
    rw [if_pos c1, if_neg (fun q => by rw [Int32.lt_iff_toInt_lt] at *; omega), if_neg (Int32.not_le.mpr c0)]
    exact ⟨rfl, 0, by decide, rfl⟩
  · obtain ⟨j, hj, rfl⟩ := nI_of c0
    rw [if_pos (show (0 : Int32) ≤ nI j from nI_le (a := 0) (by omega) hj)]
    by_cases c1 : j < 999
    · rw [if_pos (show nI j < 999 from nI_lt (b := 999) c1 (by decide)), if_pos (show nI j ≤ 999 from nI_le (b := 999) (by omega) (by decide))]
      refine ⟨?_, j, by omega, rfl⟩
      by_cases c2 : j = 0
      · rw [c2]; rfl
      · rw [if_pos (show (0 : Int32) < nI j from nI_lt (a := 0) (by omega) (by omega))]
    · rw [if_neg (show ¬ nI j < 999 from nI_nlt (b := 999) (by omega) hj)]
      by_cases c2 : j = 999
      · rw [c2]; exact ⟨rfl, 999, by decide, rfl⟩
      · rw [if_neg (show ¬ nI j ≤ 999 from nI_ge (a := 999) (by omega) hj)]
        exact ⟨rfl, 999, by decide, rfl⟩
noncomputable def puK (l3 : Int32) (S : ST) : Option ST := cal (x7_firstThatHolds S 0 l3) fun r211 S211 =>
  let S214 := sI S211 13 r211
  if (S214.1 13) = (-2) then (some S214) else (cal (x7_valueOf S214 l3 ((S214.1 13))) fun r239 S239 =>
  let S257 := sI S239 12 (if 0 < (if r239 < 999 then r239 else 999) then (if r239 < 999 then r239 else 999) else 0)
  some S257)
theorem put_x {S T : ST} {n m f : Nat} (hn : n ≤ 180) (hm : m ≤ n) (hfm : f < m) (hf : ∀ k, k < n → factR S T k) (hl : T.2.1 24 f = 0) {r : Int32} (hs : x0_sitter S (T.2.1 28 f) (T.2.1 25 f) (nI m) = some (s2 r, S)) (hr : r = -1 ∨ rng r 8) : ∃ S1, x3_putRight S (nI f) (nI m) = puK (T.2.1 25 f) S1 ∧ fr xI xA S S1 ∧ S1.1 12 = T.2.1 29 f ∧ S1.1 14 = 0 ∧ S1.1 18 = s2 r ∧ VX S1 (v0 T f m r) := by
  obtain ⟨q1, -, q3, q4, q5, q6, -, -⟩ := (hf f (by omega)).2.1 hl
  have e1 : ∀ S', pX S' = pX S → x0_paperWord S' (nI f) (nI m) = some (lastV (paP T f) (T.2.1 28) m, S') := fun S' h => pap_x hn hm hfm (fun k hk => factR_keep h rfl (hf k hk)) hl
  have e2 : ∀ S' mem, pX S' = pX S → x0_officeOf S' mem (nI m) = some (lastV (ofP T mem) (T.2.1 27) m, S') := fun S' mem h => off_x hn hm (fun k hk => factR_keep h rfl (hf k hk)) mem
  have e3 : ∀ S', pX S' = pX S → x0_heardWord S' (nI f) (nI m) = some (lastV (heP T f) (T.2.1 27) m, S') := fun S' h => hea_x hn hm hfm (fun k hk => factR_keep h rfl (hf k hk))
  have e4 : ∀ S', pX S' = pX S → x0_linesBeside S' (nI f) (nI m) = some (nI (cntU (liP T f) m), S') := fun S' h => lin_x hn hm hfm (fun k hk => factR_keep h rfl (hf k hk)) hl
  have f1 : ∀ a w (g0 : Nat → Int32), x0_paperWord (sA (sI (sI (sI S 18 a) 12 w) 14 0) 23 g0) (nI f) (nI m) = some (lastV (paP T f) (T.2.1 28) m, (sA (sI (sI (sI S 18 a) 12 w) 14 0) 23 g0)) := fun _ _ _ => e1 _ rfl
  have f2 : ∀ mem a w (g0 g1 g2 g3 g4 : Nat → Int32), x0_officeOf (sA (sA (sA (sA (sA (sI (sI (sI S 18 a) 12 w) 14 0) 23 g0) 23 g1) 23 g2) 23 g3) 23 g4) mem (nI m) = some (lastV (ofP T mem) (T.2.1 27) m, (sA (sA (sA (sA (sA (sI (sI (sI S 18 a) 12 w) 14 0) 23 g0) 23 g1) 23 g2) 23 g3) 23 g4)) := fun _ _ _ _ _ _ _ _ => e2 _ _ rfl
  have f3 : ∀ a w (g0 g1 g2 g3 g4 g5 : Nat → Int32), x0_heardWord (sA (sA (sA (sA (sA (sA (sI (sI (sI S 18 a) 12 w) 14 0) 23 g0) 23 g1) 23 g2) 23 g3) 23 g4) 23 g5) (nI f) (nI m) = some (lastV (heP T f) (T.2.1 27) m, (sA (sA (sA (sA (sA (sA (sI (sI (sI S 18 a) 12 w) 14 0) 23 g0) 23 g1) 23 g2) 23 g3) 23 g4) 23 g5)) := fun _ _ _ _ _ _ _ _ => e3 _ rfl
  have f4 : ∀ a w (g0 g1 g2 g3 g4 g5 g6 : Nat → Int32), x0_linesBeside (sA (sA (sA (sA (sA (sA (sA (sI (sI (sI S 18 a) 12 w) 14 0) 23 g0) 23 g1) 23 g2) 23 g3) 23 g4) 23 g5) 23 g6) (nI f) (nI m) = some (nI (cntU (liP T f) m), (sA (sA (sA (sA (sA (sA (sA (sI (sI (sI S 18 a) 12 w) 14 0) 23 g0) 23 g1) 23 g2) 23 g3) 23 g4) 23 g5) 23 g6)) := fun _ _ _ _ _ _ _ _ _ => e4 _ rfl
  have k4 : ∀ a w (g0 g1 g2 g3 : Nat → Int32), (sA (sA (sA (sA (sI (sI (sI S 18 a) 12 w) 14 0) 23 g0) 23 g1) 23 g2) 23 g3).1 18 = a := fun _ _ _ _ _ _ => rfl
  have k5 : ∀ a w (g0 g1 g2 g3 g4 : Nat → Int32), (sA (sA (sA (sA (sA (sI (sI (sI S 18 a) 12 w) 14 0) 23 g0) 23 g1) 23 g2) 23 g3) 23 g4).1 18 = a := fun _ _ _ _ _ _ _ => rfl
  unfold x3_putRight
  rw [G_in (show f < 180 by omega) (by decide), G_in (show f < 180 by omega) (by decide), nI_clamp (by omega), q1, q5, hs, cal_s]
  simp only [G_in (show f < 180 by omega) (by decide : 180 < 2 ^ 31), nI_clamp (show f < 2 ^ 31 by omega)]
  simp only [f1, cal_s, G_t (show inb 1 12 = true from rfl), G_t (show inb 2 12 = true from rfl), G_t (show inb 3 12 = true from rfl), G_t (show inb 4 12 = true from rfl)]
  by_cases c : r = -1
  · have hz : lastV (ofP T r) (T.2.1 27) m = 0 := lastV_0 (fun k hk => by
      unfold ofP
      by_cases z : T.2.1 24 k = 2
      · obtain ⟨-, -, j, hj, ej⟩ := (hf k (by omega)).2.2.2.1 z
        rw [ej, c, decide_eq_false (nI_m1 (by omega)), Bool.and_false]
      · rw [decide_eq_false z, Bool.false_and])
    have es : s2 r = -2 := by unfold s2; rw [if_pos c]
    rw [es]
    rw [if_pos (by rfl)]
    unfold x3_putRight_j129 x3_putRight_j161
    simp only [G_t (show inb 5 12 = true from rfl), G_t (show inb 6 12 = true from rfl), G_t (show inb 9 12 = true from rfl), G_t (show inb 11 12 = true from rfl)]
    rw [if_pos (by rfl)]
    simp only [f3, f4, cal_s, G_t (show inb 5 12 = true from rfl), G_t (show inb 6 12 = true from rfl), G_t (show inb 9 12 = true from rfl), G_t (show inb 11 12 = true from rfl)]
    refine ⟨_, rfl, ?_, q6, rfl, rfl, ?_⟩
    · exact fr_tr (fr_I _ _ (by decide)) (fr_tr (fr_I _ _ (by decide)) (fr_tr (fr_I _ _ (by decide)) (fr_tr (fr_A _ _ (by decide)) (fr_tr (fr_A _ _ (by decide)) (fr_tr (fr_A _ _ (by decide)) (fr_tr (fr_A _ _ (by decide)) (fr_tr (fr_A _ _ (by decide)) (fr_tr (fr_A _ _ (by decide)) (fr_tr (fr_A _ _ (by decide)) (fr_tr (fr_A _ _ (by decide)) (fr_tr (fr_A _ _ (by decide)) (fr_tr (fr_A _ _ (by decide)) (fr_tr (fr_A _ _ (by decide)) (fr_A _ _ (by decide)))))))))))))))
    · exact lt12 q6 q6 rfl q4 q3 (by show (0 : Int32) = if r = -1 then 0 else r + 1; rw [if_pos c]) (by show (0 : Int32) = lastV _ _ _; rw [hz]) rfl rfl rfl rfl rfl
  · have es : s2 r = r := by unfold s2; rw [if_neg c]
    have ne : ¬ r = -2 := by obtain ⟨j, hj, rfl⟩ := hr.resolve_left c; intro q; have := nI_pos (show j < 2 ^ 31 by omega); rw [q] at this; exact this (by decide)
    rw [es]
    simp only [k4, k5, if_neg ne]
    unfold x3_putRight_j129 x3_putRight_j161
    simp only [G_t (show inb 5 12 = true from rfl), G_t (show inb 6 12 = true from rfl), G_t (show inb 9 12 = true from rfl), G_t (show inb 11 12 = true from rfl)]
    simp only [k4, k5, if_neg ne]
    simp only [f2, f3, f4, cal_s, G_t (show inb 5 12 = true from rfl), G_t (show inb 6 12 = true from rfl), G_t (show inb 9 12 = true from rfl), G_t (show inb 11 12 = true from rfl)]
    refine ⟨_, rfl, ?_, q6, rfl, es.symm ▸ rfl, ?_⟩
    · exact fr_tr (fr_I _ _ (by decide)) (fr_tr (fr_I _ _ (by decide)) (fr_tr (fr_I _ _ (by decide)) (fr_tr (fr_A _ _ (by decide)) (fr_tr (fr_A _ _ (by decide)) (fr_tr (fr_A _ _ (by decide)) (fr_tr (fr_A _ _ (by decide)) (fr_tr (fr_A _ _ (by decide)) (fr_tr (fr_A _ _ (by decide)) (fr_tr (fr_A _ _ (by decide)) (fr_tr (fr_A _ _ (by decide)) (fr_tr (fr_A _ _ (by decide)) (fr_tr (fr_A _ _ (by decide)) (fr_tr (fr_A _ _ (by decide)) (fr_A _ _ (by decide)))))))))))))))
    · exact lt12 q6 q6 rfl q4 q3 (by show r + 1 = if r = -1 then 0 else r + 1; rw [if_neg c]) rfl rfl rfl rfl rfl rfl
