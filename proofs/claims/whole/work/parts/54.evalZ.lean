theorem cmp_ord (a b : Int32) : j6_compare_7cf53 a b = some (ordI a b) := by
  unfold j6_compare_7cf53 ordI
  by_cases c : b ≤ a
  · rw [if_pos c, if_pos c]
    by_cases d : a = b
    · rw [if_pos d, if_pos d]
    · rw [if_neg d, if_neg d]
  · rw [if_neg c, if_neg c]
theorem cmp_eq {S : ST} {fl : Bool} (e1 : S.1 25 = 2) (e2 : S.1 26 = bit fl) {how : Nat} (hh : how < 4) (ng : Bool) {a b : Int32} (h0 : S.2.1 34 0 = a) (h1 : S.2.1 34 1 = b) : x4_compare S (nI (62 + 2 * how + ng.toNat)) = some (bit ((cmpT how a b && !fl) != ng), sI (sI S 25 0) 26 0) := by
  unfold x4_compare
  rw [e1, if_pos rfl, G_t (show inb 0 32 = true from rfl), G_t (show inb 1 32 = true from rfl), z0, z1, h0, h1, cmp_ord, cal0_s]
  exact cmp_j27 S fl e2 hh ng a b
theorem wrk_lit {S : ST} {v : Nat → Int32} {to a : Nat} (hto : to ≤ 2400) {l : LIT} (ho : okL l) (all : Bool) (ha : a + (l.2.2.2.1.length + l.2.2.2.2.length + 1) ≤ to) (h1 : sgN (S.2.1 1) a (l.2.2.2.1.map xen)) (h2 : sgN (S.2.1 1) (a + l.2.2.2.1.length) (l.2.2.2.2.map xen)) (h3 : S.2.1 1 (a + l.2.2.2.1.length + l.2.2.2.2.length) = nI (30062 + 2 * l.1 + l.2.1.toNat)) (e1 : S.1 25 = 0) (e2 : S.1 26 = 0) (hv : VX S v) : ∃ S', fr [25, 26] [34] S S' ∧ S'.1 25 = 0 ∧ S'.1 26 = 0 ∧ ∀ e, x4_work_h20 (l.2.2.2.1.length + l.2.2.2.2.length + 1 + e) S (nI to) (bit all) (nI a) = x4_work_h20 e S' (nI to) (bit (litT v l && all)) (nI (a + (l.2.2.2.1.length + l.2.2.2.2.length + 1))) := by
  obtain ⟨S1, g1, g2, g3, g4, g5⟩ := wrk_ops (v := v) hto (base := 0) (by omega) (bit all) l.2.2.2.1 a 0 [] false S (by omega) rfl ho.2.1 (by omega) h1 trivial e1 e2 hv
  obtain ⟨x, hx⟩ := ev_1 v l.2.2.2.1 [] false ho.2.1
  rw [hx] at g2 g3
  have hv1 : VX S1 v := fun i hi => by rw [g1.2.1 23 (by decide)]; exact hv i hi
  obtain ⟨S2, k1, k2, k3, k4, k5⟩ := wrk_ops (v := v) hto (base := 1) (by omega) (bit all) l.2.2.2.2 (a + l.2.2.2.1.length) 0 [x] (ev v l.2.2.2.1 [] false).2 S1 (by omega) rfl ho.2.2 (by omega) (by rw [g1.2.1 1 (by decide)]; exact h2) g2 g3 g4 hv1
  obtain ⟨y, hy⟩ := ev_1 v l.2.2.2.2 [] false ho.2.2
  have eb : ev v l.2.2.2.2 [x] (ev v l.2.2.2.1 [] false).2 = ([y, x], (ev v l.2.2.2.1 [] false).2 || (ev v l.2.2.2.2 [] false).2) := by
    rw [show ([x] : List Int32) = [] ++ [x] from rfl, ev_app v [x] l.2.2.2.2 [] _ ho.2.2, ev_or v l.2.2.2.2 0 0 [] _ rfl ho.2.2, hy]
    rfl
  rw [eb] at k2 k3 k4
  have fr2 := fr_tr g1 k1
  have hn : l.2.1.toNat ≤ 1 := by cases l.2.1 <;> decide
  have h4 := ho.1
  have hc := cmp_eq (S := S2) k3 k4 ho.1 l.2.1 (show S2.2.1 34 0 = x from k2.2.1) (show S2.2.1 34 1 = y from k2.1)
  refine ⟨sI (sI S2 25 0) 26 0, fr_tr fr2 (fr_tr (fr_I _ _ (by decide)) (fr_I _ _ (by decide))), rfl, rfl, fun e => ?_⟩
  rw [show l.2.2.2.1.length + l.2.2.2.2.length + 1 + e = l.2.2.2.1.length + (l.2.2.2.2.length + (e + 1)) by omega, g5, k5, x4_work_h20, if_neg (nI_ge (by omega) (by omega)), if_neg (show ¬ (2400 : Int32) ≤ nI _ from nI_ge (b := 2400) (by omega) (by decide)), G_in (by omega) (by decide), nI_clamp (by omega), fr2.2.1 1 (by decide), h3]
  simp only []
  rw [if_pos (show (10000 : Int32) ≤ nI (30062 + 2 * l.1 + l.2.1.toNat) from nI_le (a := 10000) (by omega) (by omega)), if_pos (show (20000 : Int32) ≤ nI (30062 + 2 * l.1 + l.2.1.toNat) from nI_le (a := 20000) (by omega) (by omega)), if_pos (show (30000 : Int32) ≤ nI (30062 + 2 * l.1 + l.2.1.toNat) from nI_le (a := 30000) (by omega) (by omega)), if_neg (show ¬ (40000 : Int32) ≤ nI (30062 + 2 * l.1 + l.2.1.toNat) from nI_ge (b := 40000) (by omega) (by decide)), show (30000 : Int32) = nI 30000 from rfl, pk_sub (by omega), show 30062 + 2 * l.1 + l.2.1.toNat - 30000 = 62 + 2 * l.1 + l.2.1.toNat by omega, hc, chkS]
  have el : ((cmpT l.1 x y && !((ev v l.2.2.2.1 [] false).2 || (ev v l.2.2.2.2 [] false).2)) != l.2.1) = litT v l := by
    unfold litT evV evB
    cases c1 : (ev v l.2.2.2.1 [] false).2
    · cases c2 : (ev v l.2.2.2.2 [] false).2
      · rw [hx, hy]; rfl
      · simp
    · simp
  rw [el]
  unfold x4_work_j146 x4_work_j147 x4_work_j162
  simp only [nI_1]
  rw [show a + (l.2.2.2.1.length + l.2.2.2.2.length + 1) = a + l.2.2.2.1.length + l.2.2.2.2.length + 1 by omega]
  cases litT v l <;> cases all <;> rfl
theorem ccX_len (b : Bool) (l : LIT) (r : List LIT) : (ccX b (l :: r)).length = (if (l.2.2.1 && !b) = true then 1 else 0) + (l.2.2.2.1.length + l.2.2.2.2.length + 1) + (ccX false r).length := by
  rw [ccX]
  simp only [List.length_append, List.length_map, List.length_cons]
  split <;> simp <;> omega
theorem cc_split {f : Nat → Int32} {a : Nat} {l : LIT} {r : List LIT} {pre : List Nat} (h : sgN f a (pre ++ (l.2.2.2.1.map xen ++ (l.2.2.2.2.map xen ++ ((30062 + 2 * l.1 + l.2.1.toNat) :: ccX false r))))) : sgN f a pre ∧ sgN f (a + pre.length) (l.2.2.2.1.map xen) ∧ sgN f (a + pre.length + l.2.2.2.1.length) (l.2.2.2.2.map xen) ∧ f (a + pre.length + l.2.2.2.1.length + l.2.2.2.2.length) = nI (30062 + 2 * l.1 + l.2.1.toNat) ∧ sgN f (a + pre.length + (l.2.2.2.1.length + l.2.2.2.2.length + 1)) (ccX false r) := by
  obtain ⟨p1, p2⟩ := sgN_app h
  obtain ⟨p3, p4⟩ := sgN_app p2
  obtain ⟨p5, p6⟩ := sgN_app p4
  rw [List.length_map] at p4 p5 p6
  rw [List.length_map] at p6
  refine ⟨p1, p3, p5, p6.1, ?_⟩
  have := p6.2
  rw [show a + pre.length + (l.2.2.2.1.length + l.2.2.2.2.length + 1) = a + pre.length + l.2.2.2.1.length + l.2.2.2.2.length + 1 by omega]
  exact this
theorem wrk_cond {v : Nat → Int32} {to : Nat} (hto : to ≤ 2400) : ∀ (L : List LIT) (a : Nat) (S : ST) (all : Bool) (e : Nat), a + (ccX false L).length = to → okLs L → sgN (S.2.1 1) a (ccX false L) → S.1 25 = 0 → S.1 26 = 0 → VX S v → ∃ S', fr [25, 26] [34] S S' ∧ x4_work_h20 ((ccX false L).length + 1 + e) S (nI to) (bit all) (nI a) = some (bit (hT v all L), S') := by
  intro L
  induction L with
  | nil =>
    intro a S all e ha ho hs e1 e2 hv
    rw [ccX] at ha
    simp only [List.length_nil] at ha
    refine ⟨S, fr_rfl _ _ _, ?_⟩
    rw [ccX, show ([] : List Nat).length + 1 + e = e + 1 by simp; omega, x4_work_h20, if_pos (nI_le (by omega) (by omega)), G_t (by cases all <;> decide), hT]
  | cons l r ih =>
    intro a S all e ha ho hs e1 e2 hv
    have hlen := ccX_len false l r
    rw [ccX] at hs
    rw [hlen] at ha ⊢
    rw [hT]
    have main : ∀ (a1 : Nat) (al : Bool) (e3 : Nat), a1 + (l.2.2.2.1.length + l.2.2.2.2.length + 1) + (ccX false r).length = to → sgN (S.2.1 1) a1 (l.2.2.2.1.map xen) → sgN (S.2.1 1) (a1 + l.2.2.2.1.length) (l.2.2.2.2.map xen) → S.2.1 1 (a1 + l.2.2.2.1.length + l.2.2.2.2.length) = nI (30062 + 2 * l.1 + l.2.1.toNat) → sgN (S.2.1 1) (a1 + (l.2.2.2.1.length + l.2.2.2.2.length + 1)) (ccX false r) → ∃ S', fr [25, 26] [34] S S' ∧ x4_work_h20 ((l.2.2.2.1.length + l.2.2.2.2.length + 1) + ((ccX false r).length + 1 + e3)) S (nI to) (bit al) (nI a1) = some (bit (hT v (al && litT v l) r), S') := by
      intro a1 al e3 q1 q2 q3 q4 q5
      obtain ⟨S1, g1, g2, g3, g4⟩ := wrk_lit (v := v) hto ho.1 al (by omega) q2 q3 q4 e1 e2 hv
      obtain ⟨S2, k1, k2⟩ := ih (a1 + (l.2.2.2.1.length + l.2.2.2.2.length + 1)) S1 (al && litT v l) e3 (by omega) ho.2 (by rw [g1.2.1 1 (by decide)]; exact q5) g2 g3 (fun i hi => by rw [g1.2.1 23 (by decide)]; exact hv i hi)
      refine ⟨S2, fr_tr g1 k1, ?_⟩
      rw [g4, ← k2, Bool.and_comm]
    cases hor : l.2.2.1
    · rw [hor] at hs hlen ha
      simp only [Bool.false_and, Bool.false_eq_true, if_false] at hs ha ⊢
      obtain ⟨s1, s2, s3, s4, s5⟩ := cc_split hs
      simp only [List.length_nil, Nat.add_zero] at s2 s3 s4 s5
      obtain ⟨S', k1, k2⟩ := main a all e (by omega) s2 s3 s4 s5
      refine ⟨S', k1, ?_⟩
      rw [Bool.or_false, ← k2]
      congr 1
      omega
    · rw [hor] at hs hlen ha
      simp only [Bool.not_false, Bool.and_self, if_true, Bool.true_and] at hs ha ⊢
      obtain ⟨s1, s2, s3, s4, s5⟩ := cc_split hs
      simp only [List.length_cons, List.length_nil, Nat.zero_add] at s2 s3 s4 s5
      rw [show 1 + (l.2.2.2.1.length + l.2.2.2.2.length + 1) + (ccX false r).length + 1 + e = (l.2.2.2.1.length + l.2.2.2.2.length + 1) + ((ccX false r).length + 1 + e) + 1 by omega, x4_work_h20, if_neg (nI_ge (by omega) (by omega)), if_neg (show ¬ (2400 : Int32) ≤ nI a from nI_ge (b := 2400) (by omega) (by decide)), G_in (by omega) (by decide), nI_clamp (by omega), s1.1]
      simp only []
      rw [if_pos (show (10000 : Int32) ≤ nI 40000 by decide), if_pos (show (20000 : Int32) ≤ nI 40000 by decide), if_pos (show (30000 : Int32) ≤ nI 40000 by decide), if_pos (show (40000 : Int32) ≤ nI 40000 by decide)]
      unfold x4_work_j162
      cases all
      · obtain ⟨S', k1, k2⟩ := main (a + 1) true e (by omega) s2 s3 s4 s5
        refine ⟨S', k1, ?_⟩
        rw [if_pos (show bit false = 0 from rfl), nI_1]
        exact k2
      · exact ⟨S, fr_rfl _ _ _, rfl⟩
/-- work over a whole condition -/
theorem wrk {S : ST} {v : Nat → Int32} {a : Nat} {L : List LIT} (hto : a + (ccX true L).length ≤ 2400) (ho : okLs L) (hf : orFirst L) (hs : sgN (S.2.1 1) a (ccX true L)) (hv : VX S v) : ∃ S', fr [25, 26] [34] S S' ∧ x4_work S (nI a) (nI (a + (ccX true L).length)) = some (bit (cnd v L), S') := by
  obtain ⟨e, he⟩ := FU_s ((ccX true L).length + 1) (by omega)
  have hmx : (if (0 : Int32) < nI a then nI a else 0) = nI a := by
    by_cases c : a = 0
    · rw [c]; rfl
    · rw [if_pos (show (0 : Int32) < nI a from nI_lt (a := 0) (by omega) (by omega))]
  unfold x4_work
  rw [G_t (show isB 0 = true from rfl), hmx]
  simp only []
  rw [he]
  match L, ho, hf, hs, hto, he with
  | [], ho, hf, hs, hto, he =>
    refine ⟨sI (sI S 25 0) 26 0, fr_tr (fr_I S _ (by decide)) (fr_I _ _ (by decide)), ?_⟩
    rw [ccX, show ([] : List Nat).length + 1 + e = e + 1 by simp; omega, x4_work_h20, if_pos (nI_le (by simp) (by rw [ccX] at hto; simp at hto; omega)), G_t (by decide)]
    rfl
  | l :: r, ho, hf, hs, hto, he =>
    have hlen := ccX_len true l r
    have hor : l.2.2.1 = true := hf
    rw [ccX] at hs
    simp only [Bool.not_true, Bool.and_false, Bool.false_eq_true, if_false] at hs hlen
    obtain ⟨s1, s2, s3, s4, s5⟩ := cc_split hs
    simp only [List.length_nil, Nat.add_zero] at s2 s3 s4 s5
    obtain ⟨S1, g1, g2, g3, g4⟩ := wrk_lit (S := sI (sI S 25 0) 26 0) (v := v) (to := a + (ccX true (l :: r)).length) hto ho.1 true (by omega) s2 s3 s4 rfl rfl hv
    obtain ⟨S2, k1, k2⟩ := wrk_cond (v := v) (to := a + (ccX true (l :: r)).length) hto r (a + (l.2.2.2.1.length + l.2.2.2.2.length + 1)) S1 (litT v l && true) e (by omega) ho.2 (by rw [g1.2.1 1 (by decide)]; exact s5) g2 g3 (fun i hi => by rw [g1.2.1 23 (by decide)]; exact hv i hi)
    refine ⟨S2, fr_tr (fr_tr (fr_I S _ (by decide)) (fr_I _ _ (by decide))) (fr_tr g1 k1), ?_⟩
    rw [cnd, if_neg (by simp), hT, hor, Bool.true_and, Bool.false_or, Bool.true_and, if_neg (by decide)]
    rw [Bool.and_true] at k2 g4
    rw [← k2, ← g4 ((ccX false r).length + 1 + e)]
    show x4_work_h20 _ _ _ (bit true) _ = _
    congr 1
    omega
theorem BX_c {S : ST} {b : BK} (h : BX S b) (hb : okB b) {r : Nat} (u : used b r) : ∃ a, a + ((bkV b r).map xen ++ ccX true (bkL b r)).length ≤ 2400 ∧ S.2.1 5 (xr b r) = nI a ∧ S.2.1 6 (xr b r) = nI (a + (bkV b r).length) ∧ S.2.1 7 (xr b r) = nI (a + (bkV b r).length + (ccX true (bkL b r)).length) ∧ sgN (S.2.1 1) a ((bkV b r).map xen ++ ccX true (bkL b r)) := by
  obtain ⟨ce, h0, hce, q⟩ := h.2.2.1
  have t := q _ u.1 _ u.2
  unfold rX1 at t
  rw [show 24 * (r / 24) + r % 24 = r by omega] at t
  obtain ⟨-, -, -, -, t5, t6, t7, t8, t9⟩ := t
  have h6 := hb.1
  have u1 := u.1
  have mono : ∀ j, r % 24 + 1 + j = bkR b (r / 24) → ce (tb b (r / 24) + r % 24 + 1) ≤ ce (tb b (r / 24) + (r % 24 + 1 + j)) := by
    intro j hj
    have aux : ∀ i, r % 24 + 1 + i ≤ bkR b (r / 24) → ce (tb b (r / 24) + r % 24 + 1) ≤ ce (tb b (r / 24) + (r % 24 + 1 + i)) := by
      intro i
      induction i with
      | zero => intro _; exact Nat.le_refl _
      | succ i ih =>
        intro hi
        have t := q _ u.1 (r % 24 + 1 + i) (by omega)
        unfold rX1 at t
        have := t.2.2.2.2.2.2.2.1
        have := ih (by omega)
        rw [show tb b (r / 24) + (r % 24 + 1 + (i + 1)) = tb b (r / 24) + (r % 24 + 1 + i) + 1 by omega]
        omega
    exact aux j (by omega)
  have m1 := mono (bkR b (r / 24) - (r % 24 + 1)) (by have := u.2; omega)
  have m2 := hce (r / 24 + 1) (by omega)
  rw [tb] at m2
  rw [show r % 24 + 1 + (bkR b (r / 24) - (r % 24 + 1)) = bkR b (r / 24) by have := u.2; omega] at m1
  refine ⟨ce (tb b (r / 24) + r % 24), by omega, t5, t6, ?_, t9⟩
  show S.2.1 7 (tb b (r / 24) + r % 24) = _
  rw [t7, t8, List.length_append, List.length_map, Nat.add_assoc]
theorem BX_fr {S S' : ST} {b : BK} (h : fr [25, 26] [34] S S') (hB : BX S b) : BX S' b := BX_k (pX_fr (by decide) (by decide) h) hB
theorem fth_h10 {b : BK} {v : Nat → Int32} (hb : okB b) {D : Nat} (hD : D ≤ 100) {s : Nat} (hs : s ≤ 5) (e : Nat) : ∀ j i, i + j = (AL b D).1 → ∀ S, BX S b → VX S v → ∃ S', fr [25, 26] [34] S S' ∧ x7_firstThatHolds_h10 (j + 1 + e) S (nI s) (nI (lvD b D)) (nI i) = some (if fnd (fun i => decide (bkS b ((AL b D).2 i) = s) && cnd v (bkL b ((AL b D).2 i))) j i < (AL b D).1 then nI (fnd (fun i => decide (bkS b ((AL b D).2 i) = s) && cnd v (bkL b ((AL b D).2 i))) j i) else -2, S') := by
  have hl := lvD_le hb D
  have h144 := AL_le hb D
  have hF := (AL_ok hb D).1
  intro j
  induction j with
  | zero =>
    intro i h S hB hv
    have hi := hB.2.2.2 D hD
    refine ⟨S, fr_rfl _ _ _, ?_⟩
    rw [show 0 + 1 + e = e + 1 by omega, x7_firstThatHolds_h10, G_in (by omega) (by decide), nI_clamp (by omega), hi.1, if_pos (nI_le (by omega) (by omega)), fnd, if_neg (by omega)]
  | succ j ih =>
    intro i h S hB hv
    have hi := hB.2.2.2 D hD
    have u := hF.1 i (by omega)
    have hx := xr_lt hb u
    have h5 := okB_u hb u
    rw [show j + 1 + 1 + e = (j + 1 + e) + 1 by omega, x7_firstThatHolds_h10, G_in (by omega) (by decide), nI_clamp (by omega), hi.1, if_neg (nI_ge (by omega) (by omega)), fnd]
    unfold x7_firstThatHolds_j81
    obtain ⟨a, c1, c2, c3, c4, c5⟩ := BX_c hB hb u
    simp only [show (144 : Int32) = nI 144 from rfl, pk_mul, nI_add, Nat.mul_comm (lvD b D) 144, G_in (show 144 * lvD b D + i < 1008 by omega) (by decide : 1008 < 2 ^ 31), nI_clamp (show 144 * lvD b D + i < 2 ^ 31 by omega), hi.2 i (by omega), G_in hx (by decide : 144 < 2 ^ 31), nI_clamp (show xr b ((AL b D).2 i) < 2 ^ 31 by omega), (BX_u hB u).1, nI_1, c3, c4]
    by_cases c : bkS b ((AL b D).2 i) = s
    · rw [if_pos (by rw [c]), decide_eq_true c, Bool.true_and]
      have sg := (sgN_app c5).2
      rw [List.length_map] at sg
      rw [List.length_append, List.length_map] at c1
      obtain ⟨S1, g1, g2⟩ := wrk (v := v) (a := a + (bkV b ((AL b D).2 i)).length) (L := bkL b ((AL b D).2 i)) (by omega) h5.2.2.2.2.1 h5.2.2.2.2.2 sg hv
      rw [g2, chkS]
      cases cnd v (bkL b ((AL b D).2 i))
      · simp only [Bool.false_eq_true, if_false]
        obtain ⟨S2, k1, k2⟩ := ih (i + 1) (by omega) S1 (BX_fr g1 hB) (fun i hi => by rw [g1.2.1 23 (by decide)]; exact hv i hi)
        exact ⟨S2, fr_tr g1 k1, k2⟩
      · simp only [if_true]
        exact ⟨S1, g1, by rw [if_pos (show i < (AL b D).1 by omega)]⟩
    · rw [if_neg (fun q => c ((nI_eq (by have := h5.1; omega) (by omega)).mp q)), decide_eq_false c, Bool.false_and]
      simp only [Bool.false_eq_true, if_false]
      exact ih (i + 1) (by omega) S hB hv
theorem fst_X {S : ST} {b : BK} {v : Nat → Int32} (hb : okB b) (hB : BX S b) {d : Nat} (hd : d < 100) {s : Nat} (hs : s ≤ 5) (hv : VX S v) : ∃ S', fr [25, 26] [34] S S' ∧ x7_firstThatHolds S (nI s) (nI d) = some (if fdx v b s (AL b (d + 1)) < (AL b (d + 1)).1 then nI (fdx v b s (AL b (d + 1))) else -2, S') := by
  have h144 := AL_le hb (d + 1)
  obtain ⟨e, he⟩ := FU_s ((AL b (d + 1)).1 + 1) (by omega)
  unfold x7_firstThatHolds
  rw [lvl hb hB hd, cal_s, he]
  exact fth_h10 hb (by omega) hs e (AL b (d + 1)).1 0 (by omega) S hB hv
theorem val_X {S : ST} {b : BK} {v : Nat → Int32} (hb : okB b) (hB : BX S b) {d p : Nat} (hd : d < 100) (hp : p < (AL b (d + 1)).1) (h0 : bkS b ((AL b (d + 1)).2 p) = 0) (hv : VX S v) : ∃ S', fr [25, 26] [34] S S' ∧ x7_valueOf S (nI d) (nI p) = some (evV v (bkV b ((AL b (d + 1)).2 p)), S') := by
  have hl := lvD_le hb (d + 1)
  have h144 := AL_le hb (d + 1)
  have hi := hB.2.2.2 (d + 1) (by omega)
  have u := (AL_ok hb (d + 1)).1.1 p hp
  have hx := xr_lt hb u
  obtain ⟨a, c1, c2, c3, c4, c5⟩ := BX_c hB hb u
  have sg := (sgN_app c5).1
  rw [List.length_append, List.length_map] at c1
  obtain ⟨e, he⟩ := FU_s ((bkV b ((AL b (d + 1)).2 p)).length + 1) (by omega)
  have hw := (okB_u hb u).2.2.2.1 h0
  obtain ⟨S1, g1, g2, g3, g4, g5⟩ := wrk_ops (v := v) (to := a + (bkV b ((AL b (d + 1)).2 p)).length) (by omega) (base := 0) (by omega) 1 (bkV b ((AL b (d + 1)).2 p)) a 0 [] false (sI (sI S 25 0) 26 0) (by omega) rfl hw (by omega) sg trivial rfl rfl hv
  obtain ⟨x, hx1⟩ := ev_1 v _ [] false hw
  rw [hx1] at g2 g3
  have hmx : (if (0 : Int32) < nI a then nI a else 0) = nI a := by
    by_cases c : a = 0
    · rw [c]; rfl
    · rw [if_pos (show (0 : Int32) < nI a from nI_lt (a := 0) (by omega) (by omega))]
  refine ⟨S1, fr_tr (fr_tr (fr_I S _ (by decide)) (fr_I _ _ (by decide))) g1, ?_⟩
  unfold x7_valueOf x7_inForceAt
  simp only [lvl hb hB hd, cal_s, if_neg (nI_pos (show p < 2 ^ 31 by omega)), G_in (show lvD b (d + 1) < 7 by omega) (by decide : 7 < 2 ^ 31), nI_clamp (show lvD b (d + 1) < 2 ^ 31 by omega), hi.1, if_neg (nI_ge hp (by omega)), show (144 : Int32) = nI 144 from rfl, pk_mul, nI_add, Nat.mul_comm (lvD b (d + 1)) 144, G_in (show 144 * lvD b (d + 1) + p < 1008 by omega) (by decide : 1008 < 2 ^ 31), nI_clamp (show 144 * lvD b (d + 1) + p < 2 ^ 31 by omega), hi.2 p hp, if_neg (nI_m1 (show xr b ((AL b (d + 1)).2 p) < 2 ^ 31 by omega)), G_in hx (by decide : 144 < 2 ^ 31), nI_clamp (show xr b ((AL b (d + 1)).2 p) < 2 ^ 31 by omega), c2, c3]
  unfold x4_work
  rw [G_t (show isB 0 = true from rfl), hmx]
  simp only []
  rw [he, Nat.add_assoc, g5, Nat.add_comm 1 e, x4_work_h20, if_pos (nI_le (by omega) (by omega)), G_t (by decide), cal_s]
  unfold x4_result
  rw [g3, g4, if_pos (by rfl), G_t (show inb 0 32 = true from rfl), z0, show S1.2.1 34 0 = x from g2.1]
  unfold evV evB
  rw [hx1]
  cases (ev v (bkV b ((AL b (d + 1)).2 p)) [] false).2 <;> rfl
