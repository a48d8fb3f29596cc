/-! the class's evaluation -/
def VX (S : ST) (v : Nat → Int32) : Prop := ∀ i, i < 12 → S.2.1 23 i = v i
theorem sgN_app {f : Nat → Int32} : ∀ {l k : List Nat} {a : Nat}, sgN f a (l ++ k) → sgN f a l ∧ sgN f (a + l.length) k := by
  intro l
  induction l with
  | nil => intro k a h; exact ⟨trivial, h⟩
  | cons x r ih =>
    intro k a h
    have := ih h.2
    refine ⟨⟨h.1, this.1⟩, ?_⟩
    rw [List.length_cons, show a + (r.length + 1) = a + 1 + r.length by omega]; exact this.2
theorem push_eq {S : ST} {n : Nat} (hn : n < 32) (e : S.1 25 = nI n) (x : Int32) : x4_push S x = some (sI (sA S 34 (upd (S.2.1 34) n x)) 25 (nI (n + 1))) := by
  unfold x4_push
  rw [e, if_neg (nI_pos (by omega)), if_neg (show ¬ (32 : Int32) ≤ nI n from nI_ge (b := 32) hn (by decide)), G_in hn (by decide), nI_clamp (by omega)]
  simp only [show ∀ g, (sA S 34 g).1 25 = nI n from fun _ => e, nI_1]
theorem calc_eq {S : ST} {n k : Nat} (hn : n + 2 ≤ 32) (hk : 2 ≤ k) (hk5 : k ≤ 5) (e : S.1 25 = nI (n + 2)) {x y : Int32} (hy : S.2.1 34 (n + 1) = y) (hx : S.2.1 34 n = x) : x4_calculate S (nI (25 + k)) = some (if k = 5 ∧ y = 0 then sA (sI (sI S 25 (nI (n + 1))) 26 1) 34 (upd (S.2.1 34) n 0) else sA (sI S 25 (nI (n + 1))) 34 (upd (S.2.1 34) n (opv k x y))) := by
  unfold x4_calculate x4_calculate_j115
  have p1 : nI (n + 2) - 1 = nI (n + 1) := nI_pred _
  have p2 : nI (n + 1) - 1 = nI n := nI_pred _
  rw [e, if_neg (show ¬ nI (n + 2) < 2 from nI_nlt (b := 2) (by omega) (by omega)), if_pos (show nI (n + 2) ≤ 32 from nI_le (b := 32) (by omega) (by decide)), p1]
  simp only [show ∀ w, (sI S 25 w).1 25 = w from fun _ => rfl, show ∀ w u, (sI (sI S 25 w) 26 u).1 25 = w from fun _ _ => rfl, show ∀ w, (sI S 25 w).2.1 34 = S.2.1 34 from fun _ => rfl, show ∀ w u, (sI (sI S 25 w) 26 u).2.1 34 = S.2.1 34 from fun _ _ => rfl, p2, G_in (show n < 32 by omega) (by decide : 32 < 2 ^ 31), G_in (show n + 1 < 32 by omega) (by decide : 32 < 2 ^ 31), nI_clamp (show n < 2 ^ 31 by omega), nI_clamp (show n + 1 < 2 ^ 31 by omega), hx, hy]
  rcases (show k = 2 ∨ k = 3 ∨ k = 4 ∨ k = 5 by omega) with rfl | rfl | rfl | rfl
  · rw [if_pos (show nI (25 + 2) = 27 from rfl)]; rfl
  · rw [if_neg (show ¬ nI (25 + 3) = 27 by decide), if_pos (show nI (25 + 3) = 28 from rfl)]; rfl
  · rw [if_neg (show ¬ nI (25 + 4) = 27 by decide), if_neg (show ¬ nI (25 + 4) = 28 by decide), if_pos (show nI (25 + 4) = 29 from rfl)]; rfl
  · rw [if_neg (show ¬ nI (25 + 5) = 27 by decide), if_neg (show ¬ nI (25 + 5) = 28 by decide), if_neg (show ¬ nI (25 + 5) = 29 by decide)]
    by_cases c : y = 0
    · rw [if_pos c, if_pos ⟨rfl, c⟩]; rfl
    · rw [if_neg c, if_neg (fun q => c q.2), G_t (decide_eq_true c)]; rfl
theorem wrk_ops {v : Nat → Int32} {to : Nat} (hto : to ≤ 2400) {base : Nat} (hbase : base ≤ 1) (all : Int32) : ∀ (ops : List OP) (a h : Nat) (st : List Int32) (fl : Bool) (S : ST), a + ops.length ≤ to → st.length = h + base → wfO ops h → h ≤ 31 → sgN (S.2.1 1) a (ops.map xen) → stk (S.2.1 34) st → S.1 25 = nI st.length → S.1 26 = bit fl → VX S v → ∃ S', fr [25, 26] [34] S S' ∧ stk (S'.2.1 34) (ev v ops st fl).1 ∧ S'.1 25 = nI (ev v ops st fl).1.length ∧ S'.1 26 = bit (ev v ops st fl).2 ∧ ∀ e, x4_work_h20 (ops.length + e) S (nI to) all (nI a) = x4_work_h20 e S' (nI to) all (nI (a + ops.length)) := by
  intro ops
  induction ops with
  | nil => intro a h st fl S ha hl hw hh hs hk e1 e2 hv; exact ⟨S, fr_rfl _ _ _, hk, e1, e2, fun e => by rw [List.length_nil, Nat.zero_add, Nat.add_zero]⟩
  | cons o r ih =>
    intro a h st fl S ha hl hw hh hs hk e1 e2 hv
    rw [wfO] at hw
    simp only [List.length_cons] at ha
    obtain ⟨s1, s2⟩ := hs
    have hx : xen o < 30000 := by unfold xen; rcases hw.1 with q | q | q <;> split <;> (try split) <;> omega
    rw [ev]
    have stp : ∀ e, x4_work_h20 ((o :: r).length + e) S (nI to) all (nI a) = (if (10000 : Int32) ≤ nI (xen o) then (if (20000 : Int32) ≤ nI (xen o) then calV (x4_calculate S (nI (xen o) - 20000)) fun S111 => x4_work_h20 (r.length + e) S111 (nI to) all (nI (a + 1)) else (if (12 : Int32) ≤ (nI (xen o) - 10000) then (x4_work_j90 (x4_work_h20 (r.length + e)) S (nI to) all (nI a) 0) else (G (inb (nI (xen o) - 10000) 12) <| x4_work_j90 (x4_work_h20 (r.length + e)) S (nI to) all (nI a) (S.2.1 23 (Int32.toNatClampNeg (nI (xen o) - 10000)))))) else calV (x4_push S (nI (xen o))) fun S50 => x4_work_h20 (r.length + e) S50 (nI to) all (nI (a + 1))) := fun e => by
      rw [show (o :: r).length + e = (r.length + e) + 1 by simp only [List.length_cons]; omega, x4_work_h20, if_neg (nI_ge (by omega) (by omega)), if_neg (show ¬ (2400 : Int32) ≤ nI a from nI_ge (b := 2400) (by omega) (by decide)), G_in (by omega) (by decide), nI_clamp (by omega), s1]
      unfold x4_work_j162
      simp only [nI_1]
      rw [if_neg (show ¬ (30000 : Int32) ≤ nI (xen o) from nI_ge (b := 30000) hx (by decide))]
    have back : nI (a + (o :: r).length) = nI (a + 1 + r.length) := by rw [List.length_cons, show a + (r.length + 1) = a + 1 + r.length by omega]
    rcases hw.2 with ⟨h1, h2, h3⟩ | ⟨h1, h2, h3⟩
    · have put : ∀ x : Int32, ∃ S', fr [25, 26] [34] S S' ∧ stk (S'.2.1 34) (ev v r (x :: st) fl).1 ∧ S'.1 25 = nI (ev v r (x :: st) fl).1.length ∧ S'.1 26 = bit (ev v r (x :: st) fl).2 ∧ ∀ e, x4_work_h20 (r.length + e) (sI (sA S 34 (upd (S.2.1 34) st.length x)) 25 (nI (st.length + 1))) (nI to) all (nI (a + 1)) = x4_work_h20 e S' (nI to) all (nI (a + 1 + r.length)) := fun x => by
        obtain ⟨S', g1, g2⟩ := ih (a + 1) (h + 1) (x :: st) fl (sI (sA S 34 (upd (S.2.1 34) st.length x)) 25 (nI (st.length + 1))) (by omega) (by simp only [List.length_cons]; omega) h3 (by omega) s2 ⟨pk_us, stk_u (Nat.le_refl _) hk⟩ rfl e2 hv
        exact ⟨S', fr_tr (fr_tr (fr_A S _ (by decide)) (fr_I _ _ (by decide))) g1, g2⟩
      by_cases c : o.1 = 0
      · rw [if_pos c]
        have hv2 : o.2 < 10000 := by rcases hw.1 with q | q | q <;> omega
        have ex : xen o = o.2 := by unfold xen; rw [if_pos c]
        obtain ⟨S', g1, g2, g3, g4, g5⟩ := put (nI o.2)
        refine ⟨S', g1, g2, g3, g4, fun e => ?_⟩
        rw [stp, ex, if_neg (show ¬ (10000 : Int32) ≤ nI o.2 from nI_ge (b := 10000) hv2 (by decide)), push_eq (by omega) e1, calV_s, g5, back]
      · have c1 : o.1 = 1 := by omega
        have hv2 : o.2 < 12 := by rcases hw.1 with q | q | q <;> omega
        have ex : xen o = 10000 + o.2 := by unfold xen; rw [if_neg c, if_pos c1]
        rw [if_neg c, if_pos c1]
        obtain ⟨S', g1, g2, g3, g4, g5⟩ := put (v o.2)
        refine ⟨S', g1, g2, g3, g4, fun e => ?_⟩
        have es : nI (10000 + o.2) - 10000 = nI o.2 := by rw [show (10000 : Int32) = nI 10000 from rfl, pk_sub (by omega), show 10000 + o.2 - 10000 = o.2 by omega]
        rw [stp, ex, es, if_pos (show (10000 : Int32) ≤ nI (10000 + o.2) from nI_le (a := 10000) (by omega) (by omega)), if_neg (show ¬ (20000 : Int32) ≤ nI (10000 + o.2) from nI_ge (b := 20000) (by omega) (by decide)), if_neg (show ¬ (12 : Int32) ≤ nI o.2 from nI_ge (b := 12) hv2 (by decide)), G_in hv2 (by decide), nI_clamp (by omega), hv o.2 hv2]
        unfold x4_work_j90 x4_work_j162
        rw [push_eq (by omega) e1, calV_s, nI_1, g5, back]
    · have h5 : o.1 ≤ 5 := by rcases hw.1 with q | q | q <;> omega
      have ex : xen o = 20025 + o.1 := by unfold xen; rw [if_neg (by omega), if_neg (by omega)]
      rw [if_neg (show ¬ o.1 = 0 by omega), if_neg (show ¬ o.1 = 1 by omega)]
      have es : nI (20025 + o.1) - 20000 = nI (25 + o.1) := by rw [show (20000 : Int32) = nI 20000 from rfl, pk_sub (by omega), show 20025 + o.1 - 20000 = 25 + o.1 by omega]
      match st, hl, hk, e1 with
      | y :: x :: s, hl, hk, e1 =>
        simp only [List.length_cons] at hl
        show ∃ S', fr [25, 26] [34] S S' ∧ stk (S'.2.1 34) (if o.1 = 5 ∧ y = 0 then ev v r (0 :: s) true else ev v r (opv o.1 x y :: s) fl).1 ∧ S'.1 25 = nI (if o.1 = 5 ∧ y = 0 then ev v r (0 :: s) true else ev v r (opv o.1 x y :: s) fl).1.length ∧ S'.1 26 = bit (if o.1 = 5 ∧ y = 0 then ev v r (0 :: s) true else ev v r (opv o.1 x y :: s) fl).2 ∧ _
        have hc := calc_eq (S := S) (n := s.length) (by omega) h1 h5 e1 (y := y) (x := x) hk.1 hk.2.1
        by_cases c : o.1 = 5 ∧ y = 0
        · rw [if_pos c]
          rw [if_pos c] at hc
          obtain ⟨S', g1, g2, g3, g4, g5⟩ := ih (a + 1) (h - 1) (0 :: s) true (sA (sI (sI S 25 (nI (s.length + 1))) 26 1) 34 (upd (S.2.1 34) s.length 0)) (by omega) (by simp only [List.length_cons]; omega) h3 (by omega) s2 ⟨pk_us, stk_u (Nat.le_refl _) hk.2.2⟩ rfl rfl hv
          refine ⟨S', fr_tr (fr_tr (fr_I S _ (by decide)) (fr_tr (fr_I _ _ (by decide)) (fr_A _ _ (by decide)))) g1, g2, g3, g4, fun e => ?_⟩
          rw [stp, ex, es, if_pos (show (10000 : Int32) ≤ nI (20025 + o.1) from nI_le (a := 10000) (by omega) (by omega)), if_pos (show (20000 : Int32) ≤ nI (20025 + o.1) from nI_le (a := 20000) (by omega) (by omega)), hc, calV_s, g5, back]
        · rw [if_neg c]
          rw [if_neg c] at hc
          obtain ⟨S', g1, g2, g3, g4, g5⟩ := ih (a + 1) (h - 1) (opv o.1 x y :: s) fl (sA (sI S 25 (nI (s.length + 1))) 34 (upd (S.2.1 34) s.length (opv o.1 x y))) (by omega) (by simp only [List.length_cons]; omega) h3 (by omega) s2 ⟨pk_us, stk_u (Nat.le_refl _) hk.2.2⟩ rfl e2 hv
          refine ⟨S', fr_tr (fr_tr (fr_I S _ (by decide)) (fr_A _ _ (by decide))) g1, g2, g3, g4, fun e => ?_⟩
          rw [stp, ex, es, if_pos (show (10000 : Int32) ≤ nI (20025 + o.1) from nI_le (a := 10000) (by omega) (by omega)), if_pos (show (20000 : Int32) ≤ nI (20025 + o.1) from nI_le (a := 20000) (by omega) (by omega)), hc, calV_s, g5, back]
      | [_], hl, hk, e1 => simp only [List.length_cons, List.length_nil] at hl; omega
      | [], hl, hk, e1 => simp only [List.length_nil] at hl; omega
def ordI (a b : Int32) : Int32 := if b ≤ a then (if a = b then 0 else 1) else -1
theorem cmp_j27 (S : ST) (fl : Bool) (e2 : S.1 26 = bit fl) {how : Nat} (hh : how < 4) (ng : Bool) (a b : Int32) : x4_compare_j27 S (nI (62 + 2 * how + ng.toNat)) (ordI a b) = some (bit ((cmpT how a b && !fl) != ng), sI (sI S 25 0) 26 0) := by
  have hn : ng.toNat ≤ 1 := by cases ng <;> decide
  have ed : nI (62 + 2 * how + ng.toNat) / 2 = nI (31 + how) := by
    rw [show (2 : Int32) = nI 2 from rfl, pk_div (by omega) (by decide) (by decide)]; congr 1; omega
  have em : nI (62 + 2 * how + ng.toNat) - nI (62 + 2 * how + ng.toNat) / 2 * 2 = bit ng := by
    rw [show (2 : Int32) = nI 2 from rfl, pk_rem (by omega) (by decide) (by decide), show (62 + 2 * how + ng.toNat) % 2 = ng.toNat by omega]; cases ng <;> rfl
  have j96 : ∀ t : Bool, x4_compare_j96 S (nI (62 + 2 * how + ng.toNat)) (bit t) = some (bit (t != ng), sI (sI S 25 0) 26 0) := fun t => by
    unfold x4_compare_j96 x4_compare_j110
    rw [em, G_t (show isB 0 = true from rfl)]
    cases t <;> cases ng <;> rfl
  have j77 : ∀ t : Bool, x4_compare_j77 S (nI (62 + 2 * how + ng.toNat)) (bit t) = some (bit ((t && !fl) != ng), sI (sI S 25 0) 26 0) := fun t => by
    unfold x4_compare_j77 x4_compare_j95
    rw [e2]
    cases t
    · exact j96 false
    · cases fl
      · exact j96 true
      · exact j96 false
  have j72 : x4_compare_j72 S (nI (62 + 2 * how + ng.toNat)) = some (bit ((true && !fl) != ng), sI (sI S 25 0) 26 0) := j77 true
  have j76 : x4_compare_j76 S (nI (62 + 2 * how + ng.toNat)) = some (bit ((false && !fl) != ng), sI (sI S 25 0) 26 0) := j77 false
  unfold x4_compare_j27 x4_compare_j42 x4_compare_j52 x4_compare_j62
  simp only [ed, j72, j76]
  unfold cmpT ordI
  have k1 : ∀ p q : Int32, ¬ q ≤ p → ¬ p = q := fun p q h e => h (by rw [e]; exact Int32.le_refl q)
  rcases (show how = 0 ∨ how = 1 ∨ how = 2 ∨ how = 3 by omega) with rfl | rfl | rfl | rfl
  · simp only [show nI (31 + 0) = 31 from rfl, if_true, show ((31 : Int32) = 32) = False from eq_false (by decide), show ((31 : Int32) = 33) = False from eq_false (by decide), show ((31 : Int32) = 34) = False from eq_false (by decide), if_false]
    by_cases c : b ≤ a
    · rw [if_pos c]
      by_cases d : a = b
      · rw [if_pos d, if_pos rfl, decide_eq_true d]
      · rw [if_neg d, if_neg (by decide), decide_eq_false d]
    · rw [if_neg c, if_neg (by decide), decide_eq_false (k1 a b c)]
  · simp only [show nI (31 + 1) = 32 from rfl, if_true, show ((32 : Int32) = 31) = False from eq_false (by decide), show ((32 : Int32) = 33) = False from eq_false (by decide), show ((32 : Int32) = 34) = False from eq_false (by decide), if_false]
    by_cases c : b ≤ a
    · rw [if_pos c]
      by_cases d : a = b
      · rw [if_pos d, if_pos rfl, decide_eq_true d]; rfl
      · rw [if_neg d, if_neg (by decide), decide_eq_false d]; rfl
    · rw [if_neg c, if_neg (by decide), decide_eq_false (k1 a b c)]; rfl
  · simp only [show nI (31 + 2) = 33 from rfl, if_true, show ((33 : Int32) = 31) = False from eq_false (by decide), show ((33 : Int32) = 32) = False from eq_false (by decide), show ((33 : Int32) = 34) = False from eq_false (by decide), if_false]
    by_cases c : b ≤ a
    · rw [if_pos c, decide_eq_false (Int32.not_lt.mpr c)]
      by_cases d : a = b
      · rw [if_pos d, if_neg (by decide)]; rfl
      · rw [if_neg d, if_neg (by decide)]; rfl
    · rw [if_neg c, if_pos (by decide), decide_eq_true (Int32.not_le.mp c)]; rfl
  · simp only [show nI (31 + 3) = 34 from rfl, if_true, show ((34 : Int32) = 31) = False from eq_false (by decide), show ((34 : Int32) = 32) = False from eq_false (by decide), show ((34 : Int32) = 33) = False from eq_false (by decide), if_false]
    by_cases c : b ≤ a
    · rw [if_pos c]
      by_cases d : a = b
      · rw [if_pos d, if_neg (by decide), show (if 3 = 0 then decide (a = b) else if 3 = 1 then !decide (a = b) else if 3 = 2 then decide (a < b) else decide (a ≤ b)) = true from decide_eq_true (show a ≤ b by rw [d]; exact Int32.le_refl b)]
      · rw [if_neg d, if_pos (by decide), decide_eq_false (fun q => d (Int32.le_antisymm q c))]; rfl
    · rw [if_neg c, if_neg (by decide), decide_eq_true (Int32.le_of_lt (Int32.not_le.mp c))]; rfl
