/-- the class's rows of a book stay -/
def kpX (cb rb : Nat) (S S' : ST) : Prop := S'.1 4 = S.1 4 ∧ (∀ k, k ∈ [8, 9, 10, 11] → S'.2.1 k = S.2.1 k) ∧ (∀ i, i < cb → S'.2.1 1 i = S.2.1 1 i) ∧ ∀ i, i < rb → S'.2.1 2 i = S.2.1 2 i ∧ S'.2.1 3 i = S.2.1 3 i ∧ S'.2.1 4 i = S.2.1 4 i ∧ S'.2.1 5 i = S.2.1 5 i ∧ S'.2.1 6 i = S.2.1 6 i ∧ S'.2.1 7 i = S.2.1 7 i ∧ S'.2.2 0 i = S.2.2 0 i
theorem tb_mono (b : BK) : ∀ {k j : Nat}, k ≤ j → tb b k ≤ tb b j := by
  intro k j h
  induction j with
  | zero => rw [show k = 0 by omega]; exact Nat.le_refl _
  | succ j ih =>
    by_cases c : k = j + 1
    · rw [c]; exact Nat.le_refl _
    · have := ih (by omega)
      have e : tb b (j + 1) = tb b j + bkR b j := rfl
      omega
/-- the first three parts of BX -/
def BX3 (S : ST) (b : BK) (ce : Nat → Nat) : Prop := S.1 4 = nI (bkN b) ∧ (∀ k, k < bkN b → S.2.1 8 k = nI (bkD b k) ∧ S.2.1 9 k = nI (tb b (k + 1))) ∧ ce 0 = 0 ∧ (∀ k, k ≤ bkN b → ce (tb b k) ≤ 400 * k) ∧ ∀ k, k < bkN b → ∀ i, i < bkR b k → rX1 S b ce k i
theorem rX1_k {cb rb : Nat} {S S' : ST} {b : BK} {ce : Nat → Nat} {k i : Nat} (h : kpX cb rb S S') (hr : tb b k + i < rb) (hc : ce (tb b k + i + 1) ≤ cb) (g : rX1 S b ce k i) : rX1 S' b ce k i := by
  obtain ⟨g1, g2, g3', g4, g5, g6, g7, g8, g9⟩ := g
  obtain ⟨a1, a2, a3, a4, a5, a6, a7⟩ := h.2.2.2 _ hr
  exact ⟨a1.trans g1, a7.trans g2, a2.trans g3', a3.trans g4, a4.trans g5, a5.trans g6, a6.trans g7, g8, sgN_c (fun j h1 h2 => h.2.2.1 j (by omega)) g9⟩
theorem ce_mono {S : ST} {b : BK} {ce : Nat → Nat} (h : BX3 S b ce) : ∀ {k i : Nat}, k < bkN b → i < bkR b k → ce (tb b k + i + 1) ≤ ce (tb b (bkN b)) := by
  have st : ∀ k, k < bkN b → ∀ j i, i + j = bkR b k → ce (tb b k + i) ≤ ce (tb b (k + 1)) := by
    intro k hk j
    induction j with
    | zero => intro i hi; rw [show tb b k + i = tb b (k + 1) from by rw [show i = bkR b k by omega]; rfl]; exact Nat.le_refl _
    | succ j ih =>
      intro i hi
      have h1 := ih (i + 1) (by omega)
      have h2 := (h.2.2.2.2 k hk i (by omega)).2.2.2.2.2.2.2.1
      rw [← Nat.add_assoc] at h1
      omega
  have st2 : ∀ j k, k + j = bkN b → ce (tb b k) ≤ ce (tb b (bkN b)) := by
    intro j
    induction j with
    | zero => intro k hk; rw [show k = bkN b by omega]; exact Nat.le_refl _
    | succ j ih =>
      intro k hk
      have h1 := ih (k + 1) (by omega)
      have h2 := st k (by omega) (bkR b k) 0 (by omega)
      rw [Nat.add_zero] at h2
      omega
  intro k i hk hi
  have h1 := st k hk (bkR b k - (i + 1)) (i + 1) (by omega)
  have h2 := st2 (bkN b - (k + 1)) (k + 1) (by omega)
  rw [← Nat.add_assoc] at h1
  omega
theorem row_lt {b : BK} {k i : Nat} (hk : k < bkN b) (hi : i < bkR b k) : tb b k + i < tb b (bkN b) := by
  have h1 := tb_mono b (show k + 1 ≤ bkN b by omega)
  have e : tb b (k + 1) = tb b k + bkR b k := rfl
  omega
theorem BX3_k {S S' : ST} {b : BK} {ce : Nat → Nat} (h : kpX (ce (tb b (bkN b))) (tb b (bkN b)) S S') (g : BX3 S b ce) : BX3 S' b ce := by
  refine ⟨h.1.trans g.1, fun k hk => ?_, g.2.2.1, g.2.2.2.1, fun k hk i hi => rX1_k h (row_lt hk hi) (ce_mono g hk hi) (g.2.2.2.2 k hk i hi)⟩
  rw [h.2.1 8 (by decide), h.2.1 9 (by decide)]
  exact g.2.1 k hk
theorem BX_3 {S : ST} {b : BK} (h : BX S b) : ∃ ce, BX3 S b ce := by
  obtain ⟨h1, h2, ⟨ce, c1, c2, c3⟩, -⟩ := h
  exact ⟨ce, h1, h2, c1, c2, c3⟩
theorem BX_of {S : ST} {b : BK} {ce : Nat → Nat} (h : BX3 S b ce) (g : ∀ D, D ≤ 100 → inX S b (lvD b D) (AL b D)) : BX S b := ⟨h.1, h.2.1, ⟨ce, h.2.2.1, h.2.2.2.1, h.2.2.2.2⟩, g⟩
theorem BX_kp {S S' : ST} {b : BK} {ce : Nat → Nat} (hx : BX3 S b ce) (hX : BX S b) (h : kpX (ce (tb b (bkN b))) (tb b (bkN b)) S S') : BX S' b := by
  refine BX_of (BX3_k h hx) (fun D hD => ?_)
  obtain ⟨g1, g2⟩ := hX.2.2.2 D hD
  exact ⟨by rw [h.2.1 11 (by decide)]; exact g1, fun i hi => by rw [h.2.1 10 (by decide)]; exact g2 i hi⟩
/-- openText -/
theorem opn_t {S : ST} {b : BK} {ce : Nat → Nat} (hb : okB b) (h : BX3 S b ce) : ∃ S', x7_openText S = some S' ∧ S' = sI (sI S 3 (nI (tb b (bkN b)))) 2 (nI (ce (tb b (bkN b)))) := by
  have h6 := hb.1
  have htb := tb_le hb (bkN b) (Nat.le_refl _)
  have j32 : ∀ r, r = tb b (bkN b) → x7_openText_j32 S (nI r) = some (sI (sI S 3 (nI (tb b (bkN b)))) 2 (nI (ce (tb b (bkN b))))) := by
    intro r hr
    subst hr
    unfold x7_openText_j32
    dsimp only
    rw [show (sI S 3 (nI (tb b (bkN b)))).1 3 = nI (tb b (bkN b)) from rfl]
    by_cases c : tb b (bkN b) = 0
    · rw [c, if_pos (show nI 0 ≤ 0 from by decide), h.2.2.1]; rfl
    · -- the last row
      have last : ∀ k, k ≤ bkN b → 0 < tb b k → ∃ k' i, k' < bkN b ∧ i < bkR b k' ∧ tb b k = tb b k' + i + 1 := by
        intro k
        induction k with
        | zero => intro _ h0; exact absurd (show 0 < 0 from h0) (by decide)
        | succ k ih =>
          intro hk h0
          by_cases cr : bkR b k = 0
          · have e : tb b (k + 1) = tb b k + bkR b k := rfl
            rw [cr, Nat.add_zero] at e
            rw [e] at h0 ⊢
            exact ih (by omega) h0
          · exact ⟨k, bkR b k - 1, by omega, by omega, by show tb b k + bkR b k = _; omega⟩
      obtain ⟨k', i, hk', hi, e⟩ := last (bkN b) (Nat.le_refl _) (by omega)
      have h7 := (h.2.2.2.2 k' hk' i hi).2.2.2.2.2.2.1
      rw [if_neg (show ¬ nI (tb b (bkN b)) ≤ 0 from nI_ge (a := 0) (by omega) (by omega)), if_neg (show ¬ (144 : Int32) < nI (tb b (bkN b)) from nI_nlt (a := 144) (by omega) (by decide)), show (1 : Int32) = nI 1 from rfl, pk_sub (by omega), G_in (by omega) (by decide), nI_clamp (by omega), show (sI S 3 (nI (tb b (bkN b)))).2.1 7 (tb b (bkN b) - 1) = nI (ce (tb b (bkN b))) from by
        show S.2.1 7 (tb b (bkN b) - 1) = _
        rw [show tb b (bkN b) - 1 = tb b k' + i by omega, h7, e]]
  unfold x7_openText x7_openText_j31
  rw [h.1]
  by_cases c : bkN b = 0
  · rw [c, if_pos (show nI 0 ≤ 0 from by decide), show (0 : Int32) = nI 0 from rfl, j32 0 (by rw [c]; rfl), c]
    exact ⟨_, rfl, rfl⟩
  · rw [if_neg (show ¬ nI (bkN b) ≤ 0 from nI_ge (a := 0) (by omega) (by omega)), if_neg (show ¬ (6 : Int32) < nI (bkN b) from nI_nlt (a := 6) (by omega) (by decide)), show (1 : Int32) = nI 1 from rfl, pk_sub (by omega), G_in (by omega) (by decide), nI_clamp (by omega), (h.2.1 (bkN b - 1) (by omega)).2, show bkN b - 1 + 1 = bkN b by omega, j32 _ rfl]
    exact ⟨_, rfl, rfl⟩
/-- the reference's rows of a book stay -/
def kpM (d f r N : Nat) (T T' : ST) : Prop := (∀ i, i < d → T'.2.1 18 i = T.2.1 18 i ∧ T'.2.1 19 i = T.2.1 19 i) ∧ (∀ i, i < f → T'.2.1 12 i = T.2.1 12 i ∧ T'.2.1 13 i = T.2.1 13 i ∧ T'.2.1 14 i = T.2.1 14 i ∧ T'.2.1 15 i = T.2.1 15 i ∧ T'.2.1 16 i = T.2.1 16 i ∧ T'.2.1 17 i = T.2.1 17 i) ∧ (∀ i, i < r → T'.2.1 7 i = T.2.1 7 i ∧ T'.2.1 8 i = T.2.1 8 i ∧ T'.2.1 9 i = T.2.1 9 i ∧ T'.2.1 10 i = T.2.1 10 i ∧ T'.2.1 11 i = T.2.1 11 i ∧ T'.2.2 2 i = T.2.2 2 i) ∧ (∀ i, i < N → T'.2.1 5 i = T.2.1 5 i ∧ T'.2.1 6 i = T.2.1 6 i) ∧ T'.2.2 1 = T.2.2 1
theorem kpM_tr {d f r N : Nat} {S T U : ST} (h : kpM d f r N S T) (g : kpM d f r N T U) : kpM d f r N S U := ⟨fun i hi => ⟨(g.1 i hi).1.trans (h.1 i hi).1, (g.1 i hi).2.trans (h.1 i hi).2⟩, fun i hi => by
  obtain ⟨a1, a2, a3, a4, a5, a6⟩ := h.2.1 i hi
  obtain ⟨b1, b2, b3, b4, b5, b6⟩ := g.2.1 i hi
  exact ⟨b1.trans a1, b2.trans a2, b3.trans a3, b4.trans a4, b5.trans a5, b6.trans a6⟩, fun i hi => by
  obtain ⟨a1, a2, a3, a4, a5, a6⟩ := h.2.2.1 i hi
  obtain ⟨b1, b2, b3, b4, b5, b6⟩ := g.2.2.1 i hi
  exact ⟨b1.trans a1, b2.trans a2, b3.trans a3, b4.trans a4, b5.trans a5, b6.trans a6⟩, fun i hi => ⟨(g.2.2.2.1 i hi).1.trans (h.2.2.2.1 i hi).1, (g.2.2.2.1 i hi).2.trans (h.2.2.2.1 i hi).2⟩, g.2.2.2.2.trans h.2.2.2.2⟩
theorem kpM_R {d f r N : Nat} {S T : ST} (h : MR d f r N S T) : kpM d f r N S T := ⟨h.2.1, h.2.2.1, h.2.2.2.1, fun i hi => ⟨by rw [h.1.2.1 5 (by decide)], h.2.2.2.2 i (by omega)⟩, h.1.2.2 1 (by decide)⟩
theorem rM1_k {T T' : ST} {b : BK} {N k i : Nat} (hk : k < N) (hi : i < 24) (h : kpM (400 * N) (140 * N) (24 * N) N T T') (g : rM1 T b k i) : rM1 T' b k i := by
  obtain ⟨g1, g2, ⟨a, g3', g4, g5, g6⟩, f0, g7, g8, g9, g10⟩ := g
  obtain ⟨a1, a2, a3, a4, a5, a6⟩ := h.2.2.1 (24 * k + i) (by omega)
  have hd : 400 * (k + 1) ≤ 400 * N := by omega
  have hf : 140 * (k + 1) ≤ 140 * N := by omega
  refine ⟨a1.trans g1, a6.trans g2, ⟨a, a2.trans g3', a3.trans g4, g5, sgM_c (fun j h1 h2 => h.1 j (by omega)) g6⟩, f0, a4.trans g7, a5.trans g8, g9, ?_⟩
  have hc : ∀ {L : List LIT} {q : Nat}, q + L.length ≤ 140 * (k + 1) → lsM T (400 * (k + 1)) q L → lsM T' (400 * (k + 1)) q L := by
    intro L
    induction L with
    | nil => intro q _ _; trivial
    | cons x r ih =>
      intro q hf2 hl
      rw [List.length_cons] at hf2
      obtain ⟨⟨a1, a2, a3, p, a4, a5, a6, a7, a8, a9⟩, h1⟩ := lsF_i1 hl
      obtain ⟨c1, c2, c3, c4, c5, c6⟩ := h.2.1 q (by omega)
      exact ⟨c1.trans a1, c2.trans a2, c3.trans a3, ⟨p, c4.trans a4, c5.trans a5, c6.trans a6, a7, sgM_c (fun i h1 h2 => h.1 i (by omega)) a8, sgM_c (fun i h1 h2 => h.1 i (by omega)) a9⟩, ih (by omega) h1⟩
  exact hc g9 g10
theorem BM_kp {T T' : ST} {b : BK} (hb : okB b) (hB : BM T b) (h : kpM (400 * bkN b) (140 * bkN b) (24 * bkN b) (bkN b) T T') (h11 : T'.1 11 = T.1 11) : BM T' b := by
  refine ⟨h11.trans hB.1, fun k hk => ?_, fun k hk i hi => rM1_k hk (by have := (hb.2.1 k hk).2; omega) h (hB.2.2.1 k hk i hi), fun k hk => by rw [h.2.2.2.2]; exact hB.2.2.2 k hk⟩
  obtain ⟨a1, a2⟩ := h.2.2.2.1 k hk
  rw [a1, a2]
  exact hB.2.1 k hk
/-- a book with one text more lies in the reference -/
theorem BM_bx {T T' : ST} {b : BK} {day n d f : Nat} {q : RuS} (hb : okB b) (hB : BM T b) (h : kpM (400 * bkN b) (140 * bkN b) (24 * bkN b) (bkN b) T T') (h11 : T'.1 11 = nI (bkN b + 1)) (h5 : T'.2.1 5 (bkN b) = nI day) (h6 : T'.2.1 6 (bkN b) = nI n) (hd : d ≤ 400 * (bkN b + 1)) (hf : f ≤ 140 * (bkN b + 1)) (hq : ∀ j, j < n → rwM T' (24 * bkN b + j) d f (q.2.1 j) (q.2.2.1 j) (q.2.2.2.1 j) (q.2.2.2.2 j)) : BM T' (bx b day n q) := by
  refine ⟨by rw [bx_N]; exact h11, fun k hk => ?_, fun k hk i hi => ?_, fun k hk => by rw [h.2.2.2.2]; exact hB.2.2.2 k hk⟩
  · rw [bx_N] at hk
    by_cases c : k = bkN b
    · rw [c, bx_Dn, bx_Rn]; exact ⟨h5, h6⟩
    · obtain ⟨a1, a2⟩ := h.2.2.2.1 k (by omega)
      rw [bx_D (by omega), bx_R (by omega), a1, a2]; exact hB.2.1 k (by omega)
  · rw [bx_N] at hk
    by_cases c : k = bkN b
    · subst c
      rw [bx_Rn] at hi
      obtain ⟨e1, e2, e3, e4⟩ := bx_w b day n i q
      unfold rM1
      rw [e1, e2, e3, e4]
      exact rwM_m hd hf (hq i hi)
    · rw [bx_R (by omega)] at hi
      have h24 := (hb.2.1 k (by omega)).2
      obtain ⟨e1, e2, e3, e4⟩ := bx_o (b := b) (day := day) (n := n) (q := q) (show 24 * k + i < 24 * bkN b by omega)
      unfold rM1
      rw [e1, e2, e3, e4]
      exact rM1_k (show k < bkN b by omega) (by omega) h (hB.2.2.1 k (by omega) i hi)
/-- and in the class -/
theorem BX3_bx {S S' : ST} {b : BK} {ce : Nat → Nat} {day n p : Nat} {q : RuS} (hb : okB b) (hB : BX3 S b ce) (hk4 : S'.1 4 = nI (bkN b + 1)) (h8 : ∀ k, k < bkN b → S'.2.1 8 k = S.2.1 8 k ∧ S'.2.1 9 k = S.2.1 9 k) (h8n : S'.2.1 8 (bkN b) = nI day) (h9n : S'.2.1 9 (bkN b) = nI (tb b (bkN b) + n)) (hc : ∀ i, i < ce (tb b (bkN b)) → S'.2.1 1 i = S.2.1 1 i) (hr : ∀ i, i < tb b (bkN b) → S'.2.1 2 i = S.2.1 2 i ∧ S'.2.1 3 i = S.2.1 3 i ∧ S'.2.1 4 i = S.2.1 4 i ∧ S'.2.1 5 i = S.2.1 5 i ∧ S'.2.1 6 i = S.2.1 6 i ∧ S'.2.1 7 i = S.2.1 7 i ∧ S'.2.2 0 i = S.2.2 0 i) (hp : p ≤ 400) (q0 : q.1 0 = ce (tb b (bkN b))) (qn : q.1 n ≤ ce (tb b (bkN b)) + p) (hq : ∀ j, j < n → rwX S' (bkN b) j (tb b (bkN b) + j) (q.1 j) (q.1 (j + 1)) (q.2.1 j) (q.2.2.1 j) (q.2.2.2.1 j) (q.2.2.2.2 j)) : ∃ ce', BX3 S' (bx b day n q) ce' := by
  have el : ∀ r, r ≤ tb b (bkN b) → (fun r => if r ≤ tb b (bkN b) then ce r else q.1 (r - tb b (bkN b))) r = ce r := fun r h => if_pos h
  have en : ∀ j, (fun r => if r ≤ tb b (bkN b) then ce r else q.1 (r - tb b (bkN b))) (tb b (bkN b) + j) = q.1 j := fun j => by
    by_cases c : j = 0
    · subst c; show (if tb b (bkN b) + 0 ≤ tb b (bkN b) then _ else _) = _; rw [if_pos (by omega), q0]; rfl
    · show (if tb b (bkN b) + j ≤ tb b (bkN b) then _ else _) = _; rw [if_neg (by omega), show tb b (bkN b) + j - tb b (bkN b) = j by omega]
  refine ⟨fun r => if r ≤ tb b (bkN b) then ce r else q.1 (r - tb b (bkN b)), by rw [bx_N]; exact hk4, fun k hk => ?_, ?_, fun k hk => ?_, fun k hk i hi => ?_⟩
  · rw [bx_N] at hk
    by_cases c : k = bkN b
    · rw [c, bx_Dn, bx_tbn]; exact ⟨h8n, h9n⟩
    · rw [bx_D (by omega), bx_tb b day n q (k + 1) (by omega), (h8 k (by omega)).1, (h8 k (by omega)).2]
      exact hB.2.1 k (by omega)
  · rw [el 0 (Nat.zero_le _)]; exact hB.2.2.1
  · rw [bx_N] at hk
    by_cases c : k = bkN b + 1
    · rw [c, bx_tbn, en]
      have := hB.2.2.2.1 (bkN b) (Nat.le_refl _)
      omega
    · rw [bx_tb b day n q k (by omega), el _ (tb_mono b (by omega))]
      exact hB.2.2.2.1 k (by omega)
  · rw [bx_N] at hk
    unfold rX1
    by_cases c : k = bkN b
    · subst c
      rw [bx_Rn] at hi
      obtain ⟨e1, e2, e3, e4⟩ := bx_w b day n i q
      rw [e1, e2, e3, e4, bx_tb b day n q _ (Nat.le_refl _), en, show tb b (bkN b) + i + 1 = tb b (bkN b) + (i + 1) from rfl, en]
      exact hq i hi
    · rw [bx_R (by omega)] at hi
      have h24 := (hb.2.1 k (by omega)).2
      obtain ⟨e1, e2, e3, e4⟩ := bx_o (b := b) (day := day) (n := n) (q := q) (show 24 * k + i < 24 * bkN b by omega)
      have hrow := row_lt (b := b) (show k < bkN b by omega) hi
      rw [e1, e2, e3, e4, bx_tb b day n q k (by omega), el _ (by omega), el _ (by omega)]
      obtain ⟨g1, g2, g3', g4, g5, g6, g7, g8, g9⟩ := hB.2.2.2.2 k (by omega) i hi
      obtain ⟨a1, a2, a3, a4, a5, a6, a7⟩ := hr _ hrow
      have hce := ce_mono hB (show k < bkN b by omega) hi
      exact ⟨a1.trans g1, a7.trans g2, a2.trans g3', a3.trans g4, a4.trans g5, a5.trans g6, a6.trans g7, g8, sgN_c (fun j h1 h2 => hc j (by omega)) g9⟩
theorem BX3_E {S : ST} {b : BK} {ce : Nat → Nat} (hb : okB b) (h : BX3 S b ce) : BE S b := by
  refine ⟨h.1, h.2.1, fun r u => ?_⟩
  have g := h.2.2.2.2 (r / 24) u.1 (r % 24) u.2
  unfold rX1 at g
  rw [show 24 * (r / 24) + r % 24 = r by omega] at g
  exact ⟨g.1, g.2.1⟩
