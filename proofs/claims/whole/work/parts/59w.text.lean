theorem rwX_k {cb rb k i row c c' s : Nat} {m : List Nat} {v : List OP} {l : List LIT} {S S' : ST} (h : XR cb rb S S') (hr : row < rb) (hc : c' ≤ cb) (g : rwX S k i row c c' s m v l) : rwX S' k i row c c' s m v l := by
  obtain ⟨g1, g2, g3', g4, g5, g6, g7, g8, g9⟩ := g
  obtain ⟨a1, a2, a3, a4, a5, a6, a7⟩ := h.2.2 row hr
  exact ⟨a1.trans g1, a7.trans g2, a2.trans g3', a3.trans g4, a4.trans g5, a5.trans g6, a6.trans g7, g8, sgN_c (fun j h1 h2 => h.2.1 j (by omega)) g9⟩
theorem rwM_k {d f r N row s : Nat} {m : List Nat} {v : List OP} {l : List LIT} {T T' : ST} (h : MR d f r N T T') (hr : row < r) (g : rwM T row d f s m v l) : rwM T' row d f s m v l := by
  obtain ⟨g1, g2, ⟨a, g3', g4, g5, g6⟩, f0, g7, g8, g9, g10⟩ := g
  obtain ⟨a1, a2, a3, a4, a5, a6⟩ := h.2.2.2.1 row hr
  refine ⟨a1.trans g1, a6.trans g2, ⟨a, a2.trans g3', a3.trans g4, g5, sgM_c (fun j h1 h2 => h.2.1 j (by omega)) g6⟩, f0, a4.trans g7, a5.trans g8, g9, ?_⟩
  have hc : ∀ {L : List LIT} {q : Nat}, q + L.length ≤ f → lsM T d q L → lsM T' d q L := by
    intro L
    induction L with
    | nil => intro q _ _; trivial
    | cons x r ih =>
      intro q hf hl
      rw [List.length_cons] at hf
      obtain ⟨⟨a1, a2, a3, p, a4, a5, a6, a7, a8, a9⟩, h1⟩ := lsF_i1 hl
      obtain ⟨c1, c2, c3, c4, c5, c6⟩ := h.2.2.1 q (by omega)
      exact ⟨c1.trans a1, c2.trans a2, c3.trans a3, ⟨p, c4.trans a4, c5.trans a5, c6.trans a6, a7, sgM_c (fun i h1 h2 => h.2.1 i (by omega)) a8, sgM_c (fun i h1 h2 => h.2.1 i (by omega)) a9⟩, ih (by omega) h1⟩
  exact hc g9 g10
theorem rwM_m {d f d' f' row s : Nat} {m : List Nat} {v : List OP} {l : List LIT} {T : ST} (hd : d ≤ d') (hf : f ≤ f') (g : rwM T row d f s m v l) : rwM T row d' f' s m v l := by
  obtain ⟨g1, g2, ⟨a, g3', g4, g5, g6⟩, f0, g7, g8, g9, g10⟩ := g
  exact ⟨g1, g2, ⟨a, g3', g4, by omega, g6⟩, f0, g7, g8, by omega, lsM_mono hd g10⟩
/-- the rules of a text so far -/
abbrev RuS : Type := (Nat → Nat) × (Nat → Nat) × (Nat → List Nat) × (Nat → List OP) × (Nat → List LIT)
def RSok (N R0 : Nat) (S T : ST) (i d f : Nat) (q : RuS) : Prop := ∀ j, j < i → q.1 (j + 1) ≤ q.1 i ∧ rwX S N j (R0 + j) (q.1 j) (q.1 (j + 1)) (q.2.1 j) (q.2.2.1 j) (q.2.2.2.1 j) (q.2.2.2.2 j) ∧ rwM T (24 * N + j) d f (q.2.1 j) (q.2.2.1 j) (q.2.2.2.1 j) (q.2.2.2.2 j) ∧ okRr (q.2.1 j) (q.2.2.1 j) (q.2.2.2.1 j) (q.2.2.2.2 j)
def tIV (z : TZ) (N R0 C0 D0 F0 : Nat) (S T : ST) (p i d f : Nat) (q : RuS) : Prop := lvX z S p ∧ lvM z T p ∧ T.1 5 = 0 ∧ S.1 3 = nI (R0 + i) ∧ S.1 4 = nI N ∧ S.1 2 = nI (q.1 i) ∧ T.1 13 = nI d ∧ T.1 12 = nI f ∧ T.1 11 = nI N ∧ T.2.1 6 N = nI i ∧ q.1 0 = C0 ∧ C0 ≤ q.1 i ∧ q.1 i ≤ C0 + p ∧ d ≤ D0 + p ∧ D0 ≤ d ∧ F0 ≤ f ∧ 4 * f ≤ 4 * F0 + p ∧ i ≤ 24 ∧ RSok N R0 S T i d f q
theorem txl {z : TZ} {N R0 C0 D0 F0 : Nat} (hz : okZ z) (hC0 : C0 ≤ 2000) (hD0 : D0 ≤ 2000) (hF0 : F0 ≤ 700) (hN : N ≤ 5) (hR : R0 + 24 ≤ 144) (K1 : ST → Int32 → Int32 → Option (Int32 × ST)) (K2 : ST → Option (Int32 × ST)) (l2 l3 : Int32) (e e' : Nat) : ∀ r i p S T d f q, i + r = 25 → tIV z N R0 C0 D0 F0 S T p i d f q → ∃ S' T', x2_parse_h77 K1 (r + 1 + e) S l2 l3 (nI i) = K1 S' l2 l3 ∧ m_read_h200 K2 (r + 1 + e') T = K2 T' ∧ XR C0 R0 S S' ∧ MR D0 F0 (24 * N) N T T' ∧ ((∃ p' i' d' f' q', tIV z N R0 C0 D0 F0 S' T' p' i' d' f' q') ∨ ∃ fq q, okD fq q ∧ dX fq q S' ∧ dM fq q T') := by
  intro r
  induction r with
  | zero => intro i p S T d f q h hI; obtain ⟨-, -, -, -, -, -, -, -, -, -, -, -, -, -, -, -, -, h24, -⟩ := hI; omega
  | succ r ih =>
    intro i p S T d f q hr hI
    obtain ⟨hX, hM, m5, x3, x4, x2, m13, m12, m11, m6, q0, c0, bc, bd, bd0, bf, b4, h24, hrs⟩ := id hI
    have h38 := hz.2.2.1 p
    rw [show r + 1 + 1 + e = (r + 1 + e) + 1 by omega, show r + 1 + 1 + e' = (r + 1 + e') + 1 by omega, x2_parse_h77, m_read_h200, if_neg (show ¬ (24 : Int32) < nI i from nI_nlt (a := 24) h24 (by decide)), if_pos hX.2.2.2.2.2.2, if_pos hM.2.2.2, show (0 : Int32) = nI (kM 37) from rfl, is_l hz hM (by decide), hX.2.2.2.1]
    by_cases c37 : zK z p = 37
    · rw [decide_eq_true c37, cal_s, if_pos (show nI (zK z p) = 37 from by rw [c37]; rfl), if_neg (show ¬ bit true = nI (kM 37) from by decide)]
      exact ⟨S, T, rfl, rfl, XR_rfl _ _ _, MR_rfl _ _ _ _ _, Or.inl ⟨p, i, d, f, q, hI⟩⟩
    · rw [decide_eq_false c37, cal_s, if_neg (show ¬ nI (zK z p) = 37 from fun w => c37 ((nI_eq (b := 37) (by omega) (by decide)).mp w)), if_pos (show bit false = nI (kM 37) from by decide)]
      obtain ⟨S1, T1, g1, g2, g3', g4, g5⟩ := rul (R0 := R0) (i := i) (c := q.1 i) hz hC0 hD0 hF0 hN hR h24 hX hM m5 x3 x4 x2 m13 m12 m11 m6 bc bd bf b4
      rw [g1, calV_s, g2, calV_s]
      dsimp only
      rw [nI_1]
      have fS1 : XR C0 R0 S S1 := XR_le c0 (by omega) g3'
      have fT1 : MR D0 F0 (24 * N) N T T1 := MR_le bd0 bf (by omega) g4
      rcases g5 with ⟨p', s, m, v, l, c', d', f', w1, w2, w3, w4, w5, w6, w7, w8, w9, w10, w11, w12, w13, w14, w15, w16, w17, w18⟩ | ⟨fq, qq, k1, k2, k3⟩
      · have hcc : q.1 i ≤ c' := by have := w10.2.2.2.2.2.2.2.1; omega
        let q' : RuS := (fun j => if j = i + 1 then c' else q.1 j, fun j => if j = i then s else q.2.1 j, fun j => if j = i then m else q.2.2.1 j, fun j => if j = i then v else q.2.2.2.1 j, fun j => if j = i then l else q.2.2.2.2 j)
        have qe : q'.1 (i + 1) = c' := if_pos rfl
        have ql : ∀ j, j ≤ i → q'.1 j = q.1 j := fun j hj => if_neg (by omega)
        have hI2 : tIV z N R0 C0 D0 F0 S1 T1 p' (i + 1) d' f' q' := by
          refine ⟨w2, w3, w4, w5, (g3'.1.1 4 (by decide)).trans x4, by rw [qe]; exact w6, w7, w8, (g4.1.1 11 (by decide)).trans m11, w9, by rw [ql 0 (by omega)]; exact q0, by rw [qe]; omega, by rw [qe]; exact w13, w14, by omega, by omega, w17, by omega, fun j hj => ?_⟩
          by_cases ji : j = i
          · subst ji
            refine ⟨Nat.le_refl _, ?_⟩
            rw [show q'.1 j = q.1 j from ql j (Nat.le_refl _), qe, show q'.2.1 j = s from if_pos rfl, show q'.2.2.1 j = m from if_pos rfl, show q'.2.2.2.1 j = v from if_pos rfl, show q'.2.2.2.2 j = l from if_pos rfl]
            exact ⟨w10, w11, w12⟩
          · obtain ⟨r1, r2, r3, r4⟩ := hrs j (by omega)
            rw [show q'.1 j = q.1 j from ql j (by omega), show q'.1 (j + 1) = q.1 (j + 1) from ql (j + 1) (by omega), qe, show q'.2.1 j = q.2.1 j from if_neg ji, show q'.2.2.1 j = q.2.2.1 j from if_neg ji, show q'.2.2.2.1 j = q.2.2.2.1 j from if_neg ji, show q'.2.2.2.2 j = q.2.2.2.2 j from if_neg ji]
            exact ⟨by omega, rwX_k g3' (by omega) r1 r2, rwM_m w15 w16 (rwM_k g4 (by omega) r3), r4⟩
        obtain ⟨S', T', h1, h2, h3, h4, h5⟩ := ih (i + 1) p' S1 T1 d' f' q' (by omega) hI2
        exact ⟨S', T', h1, h2, XR_tr fS1 h3, MR_tr fT1 h4, h5⟩
      · rw [show r + 1 + e = (r + e) + 1 by omega, show r + 1 + e' = (r + e') + 1 by omega, x2_parse_h77, m_read_h200, if_neg (dX0 k1 k2), if_neg (dM0 k1 k3), ite_self]
        exact ⟨S1, T1, rfl, rfl, fS1, fT1, Or.inr ⟨fq, qq, k1, k2, k3⟩⟩
theorem txd {f q : Nat} {S T : ST} (ho : okD f q) (hX : dX f q S) (hM : dM f q T) (K1 : ST → Int32 → Int32 → Option (Int32 × ST)) (K2 : ST → Option (Int32 × ST)) (l2 l3 : Int32) (e e' : Nat) : x2_parse_h77 K1 (e + 1) S l2 l3 0 = K1 S l2 l3 ∧ m_read_h200 K2 (e' + 1) T = K2 T := by
  rw [x2_parse_h77, m_read_h200, if_neg (dX0 ho hX), if_neg (dM0 ho hM), ite_self]
  exact ⟨rfl, rfl⟩
/-- the book with one text more -/
def bx (b : BK) (day n : Nat) (q : RuS) : BK := (bkN b + 1, fun k => if k = bkN b then day else bkD b k, fun k => if k = bkN b then n else bkR b k, fun r => if r < 24 * bkN b then bkS b r else q.2.1 (r - 24 * bkN b), fun r => if r < 24 * bkN b then bkM b r else q.2.2.1 (r - 24 * bkN b), fun r => if r < 24 * bkN b then bkV b r else q.2.2.2.1 (r - 24 * bkN b), fun r => if r < 24 * bkN b then bkL b r else q.2.2.2.2 (r - 24 * bkN b))
theorem bx_N (b : BK) (day n : Nat) (q : RuS) : bkN (bx b day n q) = bkN b + 1 := rfl
theorem bx_D {b : BK} {day n k : Nat} {q : RuS} (h : k < bkN b) : bkD (bx b day n q) k = bkD b k := if_neg (by omega)
theorem bx_Dn (b : BK) (day n : Nat) (q : RuS) : bkD (bx b day n q) (bkN b) = day := if_pos rfl
theorem bx_R {b : BK} {day n k : Nat} {q : RuS} (h : k < bkN b) : bkR (bx b day n q) k = bkR b k := if_neg (by omega)
theorem bx_Rn (b : BK) (day n : Nat) (q : RuS) : bkR (bx b day n q) (bkN b) = n := if_pos rfl
theorem bx_o {b : BK} {day n r : Nat} {q : RuS} (h : r < 24 * bkN b) : bkS (bx b day n q) r = bkS b r ∧ bkM (bx b day n q) r = bkM b r ∧ bkV (bx b day n q) r = bkV b r ∧ bkL (bx b day n q) r = bkL b r := ⟨if_pos h, if_pos h, if_pos h, if_pos h⟩
theorem bx_w (b : BK) (day n i : Nat) (q : RuS) : bkS (bx b day n q) (24 * bkN b + i) = q.2.1 i ∧ bkM (bx b day n q) (24 * bkN b + i) = q.2.2.1 i ∧ bkV (bx b day n q) (24 * bkN b + i) = q.2.2.2.1 i ∧ bkL (bx b day n q) (24 * bkN b + i) = q.2.2.2.2 i := by
  have h : ¬ 24 * bkN b + i < 24 * bkN b := by omega
  have e : 24 * bkN b + i - 24 * bkN b = i := by omega
  refine ⟨?_, ?_, ?_, ?_⟩
  · show (if 24 * bkN b + i < 24 * bkN b then _ else _) = _; rw [if_neg h, e]
  · show (if 24 * bkN b + i < 24 * bkN b then _ else _) = _; rw [if_neg h, e]
  · show (if 24 * bkN b + i < 24 * bkN b then _ else _) = _; rw [if_neg h, e]
  · show (if 24 * bkN b + i < 24 * bkN b then _ else _) = _; rw [if_neg h, e]
theorem bx_tb (b : BK) (day n : Nat) (q : RuS) : ∀ k, k ≤ bkN b → tb (bx b day n q) k = tb b k := by
  intro k
  induction k with
  | zero => intro _; rfl
  | succ k ih => intro h; rw [tb, tb, ih (by omega), bx_R (by omega)]
theorem bx_tbn (b : BK) (day n : Nat) (q : RuS) : tb (bx b day n q) (bkN b + 1) = tb b (bkN b) + n := by rw [tb, bx_tb b day n q _ (Nat.le_refl _), bx_Rn]
theorem bx_ok {b : BK} {day n : Nat} {q : RuS} (hb : okB b) (hN : bkN b ≤ 5) (hd : day < 100) (hn : n ≤ 24) (hq : ∀ j, j < n → okRr (q.2.1 j) (q.2.2.1 j) (q.2.2.2.1 j) (q.2.2.2.2 j)) : okB (bx b day n q) := by
  refine ⟨by rw [bx_N]; omega, fun k hk => ?_, fun k hk i hi => ?_⟩
  · rw [bx_N] at hk
    by_cases c : k = bkN b
    · rw [c, bx_Dn, bx_Rn]; exact ⟨hd, hn⟩
    · rw [bx_D (by omega), bx_R (by omega)]; exact hb.2.1 k (by omega)
  · rw [bx_N] at hk
    unfold okR1
    by_cases c : k = bkN b
    · subst c
      rw [bx_Rn] at hi
      obtain ⟨e1, e2, e3, e4⟩ := bx_w b day n i q
      rw [e1, e2, e3, e4]
      exact hq i hi
    · rw [bx_R (by omega)] at hi
      have h24 := (hb.2.1 k (by omega)).2
      obtain ⟨e1, e2, e3, e4⟩ := bx_o (b := b) (day := day) (n := n) (q := q) (show 24 * k + i < 24 * bkN b by omega)
      rw [e1, e2, e3, e4]
      exact hb.2.2 k (by omega) i hi
