/-! the reference's conditions -/
theorem cmT_j56 {S : ST} {l : Nat} (hl : l < 980) {how : Nat} (hh : how < 4) (e1 : S.2.1 12 l = nI how) (a b : Int32) (K : Int32 → Option (Int32 × ST)) : (G (inb (nI l) 980) <| if (S.2.1 12 (Int32.toNatClampNeg (nI l))) = 0 then (if a = b then K 1 else K 0) else (G (inb (nI l) 980) <| if (S.2.1 12 (Int32.toNatClampNeg (nI l))) = 1 then (if a = b then K 0 else K 1) else (G (inb (nI l) 980) <| if (S.2.1 12 (Int32.toNatClampNeg (nI l))) = 2 then (if b ≤ a then K 0 else K 1) else (if b < a then K 0 else K 1)))) = K (bit (cmpT how a b)) := by
  simp only [G_in hl (by decide : 980 < 2 ^ 31), nI_clamp (show l < 2 ^ 31 by omega), e1]
  unfold cmpT
  rcases (show how = 0 ∨ how = 1 ∨ how = 2 ∨ how = 3 by omega) with rfl | rfl | rfl | rfl
  · rw [if_pos (show nI 0 = 0 from rfl)]
    by_cases c : a = b
    · rw [if_pos c, decide_eq_true c]; rfl
    · rw [if_neg c, decide_eq_false c]; rfl
  · rw [if_neg (show ¬ nI 1 = 0 by decide), if_pos (show nI 1 = 1 from rfl)]
    by_cases c : a = b
    · rw [if_pos c, decide_eq_true c]; rfl
    · rw [if_neg c, decide_eq_false c]; rfl
  · rw [if_neg (show ¬ nI 2 = 0 by decide), if_neg (show ¬ nI 2 = 1 by decide), if_pos (show nI 2 = 2 from rfl)]
    by_cases c : b ≤ a
    · rw [if_pos c, decide_eq_false (Int32.not_lt.mpr c)]; rfl
    · rw [if_neg c, decide_eq_true (Int32.not_le.mp c)]; rfl
  · rw [if_neg (show ¬ nI 3 = 0 by decide), if_neg (show ¬ nI 3 = 1 by decide), if_neg (show ¬ nI 3 = 2 by decide)]
    by_cases c : b < a
    · rw [if_pos c, decide_eq_false (Int32.not_le.mpr c)]; rfl
    · rw [if_neg c, decide_eq_true (Int32.not_lt.mp c)]; rfl
def i1 (l : LIT) (S : ST) (top f : Nat) : Prop := S.2.1 12 f = nI l.1 ∧ S.2.1 13 f = (if l.2.1 = true then 1 else 0) ∧ S.2.1 14 f = (if l.2.2.1 = true then 1 else 0) ∧ (∃ p, S.2.1 15 f = nI p ∧ S.2.1 16 f = nI (p + l.2.2.2.1.length) ∧ S.2.1 17 f = nI (p + l.2.2.2.1.length + l.2.2.2.2.length) ∧ p + l.2.2.2.1.length + l.2.2.2.2.length ≤ top ∧ sgM (S.2.1 18) (S.2.1 19) p l.2.2.2.1 ∧ sgM (S.2.1 18) (S.2.1 19) (p + l.2.2.2.1.length) l.2.2.2.2)
theorem isT {S : ST} {v : Nat → Int32} {l : LIT} {top f : Nat} (ht : top ≤ 2800) (hf : f < 980) (ho : okL l) (hl : i1 l S top f) (hv : VM S v) : ∃ S', fr [15] [22] S S' ∧ m_isTrue S (nI f) = some (bit (litT v l), S') := by
  obtain ⟨l1, l2, l3, p, l4, l5, l6, l7, l8, l9⟩ := hl
  obtain ⟨S1, g1, g2, g3⟩ := trm (v := v) (show p + l.2.2.2.1.length ≤ 2800 by omega) ho.2.1 l8 hv
  have hv1 : VM S1 v := fun i hi => by rw [g1.2.1 21 (by decide)]; exact hv i hi
  obtain ⟨S2, k1, k2, k3⟩ := trm (S := S1) (v := v) (show p + l.2.2.2.1.length + l.2.2.2.2.length ≤ 2800 by omega) ho.2.2 (by rw [g1.2.1 18 (by decide), g1.2.1 19 (by decide)]; exact l9) hv1
  have fr2 := fr_tr g1 k1
  refine ⟨S2, fr2, ?_⟩
  unfold m_isTrue
  simp only [G_in hf (by decide : 980 < 2 ^ 31), nI_clamp (show f < 2 ^ 31 by omega), l4, l5, g3, cal_s, g1.2.1 16 (by decide), g1.2.1 17 (by decide), l6, k3, g2, k2]
  have fin : ∀ br : Bool, m_isTrue_j56 S2 (nI f) (evV v l.2.2.2.1) (evV v l.2.2.2.2) (bit br) = some (bit ((cmpT l.1 (evV v l.2.2.2.1) (evV v l.2.2.2.2) && !br) != l.2.1), S2) := fun br => by
    unfold m_isTrue_j56
    rw [cmT_j56 (S := S2) hf ho.1 (by rw [fr2.2.1 12 (by decide)]; exact l1) (evV v l.2.2.2.1) (evV v l.2.2.2.2) (fun r => m_isTrue_j139 S2 (nI f) (bit br) r)]
    unfold m_isTrue_j139 m_isTrue_j154 m_isTrue_j155
    simp only [G_in hf (by decide : 980 < 2 ^ 31), nI_clamp (show f < 2 ^ 31 by omega), fr2.2.1 13 (by decide), l2]
    cases cmpT l.1 (evV v l.2.2.2.1) (evV v l.2.2.2.2) <;> cases br <;> cases l.2.1 <;> rfl
  unfold m_isTrue_j51 litT
  cases c1 : evB v l.2.2.2.1
  · cases c2 : evB v l.2.2.2.2
    · exact fin false
    · exact fin true
  · cases c2 : evB v l.2.2.2.2 <;> exact fin true
theorem lsF_i1 {S : ST} {top f : Nat} {l : LIT} {r : List LIT} (h : lsM S top f (l :: r)) : i1 l S top f ∧ lsM S top (f + 1) r := ⟨⟨h.1, h.2.1, h.2.2.1, h.2.2.2.1⟩, h.2.2.2.2⟩
theorem lsM_fr {S S' : ST} (h : fr [15] [22] S S') (top f : Nat) (L : List LIT) : lsM S' top f L = lsM S top f L := by
  unfold lsM
  rw [h.2.1 12 (by decide), h.2.1 13 (by decide), h.2.1 14 (by decide), h.2.1 15 (by decide), h.2.1 16 (by decide), h.2.1 17 (by decide), h.2.1 18 (by decide), h.2.1 19 (by decide)]
theorem hld_h26 {v : Nat → Int32} {top r to : Nat} (ht : top ≤ 2800) (hr : r < 168) (hto : to ≤ 980) : ∀ (L : List LIT) (f : Nat) (S : ST) (all : Bool) (e : Nat), f + L.length = to → okLs L → lsM S top f L → S.2.1 11 r = nI to → VM S v → ∃ S', fr [15] [22] S S' ∧ m_holds_h26 (L.length + 1 + e) S (nI r) (bit all) (nI f) = some (bit (hT v all L), S') := by
  intro L
  induction L with
  | nil =>
    intro f S all e hf ho hl h11 hv
    refine ⟨S, fr_rfl _ _ _, ?_⟩
    rw [show ([] : List LIT).length + 1 + e = e + 1 by simp; omega, m_holds_h26, G_in hr (by decide), nI_clamp (by omega), h11, if_pos (nI_le (by simp at hf; omega) (by simp at hf; omega)), G_t (by cases all <;> decide), hT]
  | cons l L ih =>
    intro f S all e hf ho hl h11 hv
    simp only [List.length_cons] at hf
    obtain ⟨hi, hl2⟩ := lsF_i1 hl
    rw [show (l :: L).length + 1 + e = (L.length + 1 + e) + 1 by simp only [List.length_cons]; omega, m_holds_h26, G_in hr (by decide), nI_clamp (by omega), h11, if_neg (nI_ge (by omega) (by omega)), G_in (by omega) (by decide), nI_clamp (by omega), hi.2.2.1, hT]
    have go : ∀ a2 : Bool, ∃ S', fr [15] [22] S S' ∧ m_holds_j62 (m_holds_h26 (L.length + 1 + e)) S (nI r) (bit a2) (nI f) = some (bit (hT v (a2 && litT v l) L), S') := fun a2 => by
      unfold m_holds_j62 m_holds_j78 m_holds_j79
      cases a2
      · obtain ⟨S', k1, k2⟩ := ih (f + 1) S false e (by omega) ho.2 hl2 h11 hv
        refine ⟨S', k1, ?_⟩
        rw [if_pos (show bit false = 0 from rfl), nI_1, Bool.false_and]
        exact k2
      · obtain ⟨S1, g1, g2⟩ := isT ht (show f < 980 by omega) ho.1 hi hv
        have hl3 : lsM S1 top (f + 1) L := by rw [lsM_fr g1]; exact hl2
        obtain ⟨S', k1, k2⟩ := ih (f + 1) S1 (litT v l) e (by omega) ho.2 hl3 (by rw [g1.2.1 11 (by decide)]; exact h11) (fun i hi => by rw [g1.2.1 21 (by decide)]; exact hv i hi)
        refine ⟨S', fr_tr g1 k1, ?_⟩
        rw [if_neg (by decide), g2, chkS, nI_1, Bool.true_and, ← k2]
        cases litT v l <;> rfl
    unfold m_holds_j51
    simp only [G_in (show f < 980 by omega) (by decide : 980 < 2 ^ 31), nI_clamp (show f < 2 ^ 31 by omega), hi.2.2.1]
    cases hor : l.2.2.1
    · simp only [Bool.false_eq_true, if_false, if_true, Bool.false_and, Bool.or_false]
      exact go all
    · simp only [if_true, i10, if_false, Bool.true_and, Bool.or_true]
      cases all
      · simp only [bit, Bool.false_eq_true, if_false, if_true]
        exact go true
      · refine ⟨S, fr_rfl _ _ _, ?_⟩
        rfl
theorem hld {S : ST} {b : BK} {v : Nat → Int32} (hb : okB b) (hB : BM S b) {r : Nat} (u : used b r) (hv : VM S v) : ∃ S', fr [15] [22] S S' ∧ m_holds S (nI r) = some (bit (cnd v (bkL b r)), S') := by
  have hr := used_lt hb u
  have h6 := hb.1
  have u1 := u.1
  obtain ⟨q1, q2, -, f, q3, q4, q5, q6⟩ := (BM_u hB u).1
  rw [show 24 * (r / 24) + r % 24 = r by omega] at q3 q4 q5 q6
  unfold m_holds
  simp only [G_in (show r < 168 by omega) (by decide : 168 < 2 ^ 31), nI_clamp (show r < 2 ^ 31 by omega), q3, q4]
  by_cases c : (bkL b r).length = 0
  · rw [if_pos (by rw [c]; rfl)]
    exact ⟨S, fr_rfl _ _ _, by rw [cnd, if_pos c]; rfl⟩
  · rw [if_neg (fun q => c (by have := (nI_eq (by omega) (by omega)).mp q; omega))]
    obtain ⟨e, he⟩ := FU_s ((bkL b r).length + 1) (by omega)
    obtain ⟨S', g1, g2⟩ := hld_h26 (v := v) (top := 400 * (r / 24 + 1)) (r := r) (to := f + (bkL b r).length) (by omega) (by omega) (by omega) (bkL b r) f S false e rfl (okB_u hb u).2.2.2.2.1 q6 q4 hv
    refine ⟨S', g1, ?_⟩
    rw [he, cnd, if_neg c]
    exact g2
def fdx (v : Nat → Int32) (b : BK) (s : Nat) (F : FL) : Nat := fnd (fun i => decide (bkS b (F.2 i) = s) && cnd v (bkL b (F.2 i))) F.1 0
theorem inM_fr {S S' : ST} {F : FL} (h : fr [15] [22] S S') (g : inM S F) : inM S' F := ⟨by rw [h.1 17 (by decide)]; exact g.1, fun i hi => by rw [h.2.1 23 (by decide)]; exact g.2 i hi⟩
theorem fst_h2 {b : BK} {v : Nat → Int32} (hb : okB b) {F : FL} (hF : okF b F) (h144 : F.1 ≤ 144) {s : Nat} (hs : s ≤ 5) (e : Nat) : ∀ j i, i + j = F.1 → ∀ S, BM S b → inM S F → VM S v → ∃ S', fr [15] [22] S S' ∧ m_first_h2 (j + 1 + e) S (nI s) (nI i) = some (if fnd (fun i => decide (bkS b (F.2 i) = s) && cnd v (bkL b (F.2 i))) j i < F.1 then nI (fnd (fun i => decide (bkS b (F.2 i) = s) && cnd v (bkL b (F.2 i))) j i) else -1, S') := by
  intro j
  induction j with
  | zero =>
    intro i h S hB hM hv
    refine ⟨S, fr_rfl _ _ _, ?_⟩
    rw [show 0 + 1 + e = e + 1 by omega, m_first_h2, hM.1, if_pos (nI_le (by omega) (by omega)), fnd, if_neg (by omega)]
  | succ j ih =>
    intro i h S hB hM hv
    have u := hF.1 i (by omega)
    have hu := used_lt hb u
    have h5 := (okB_u hb u).1
    rw [show j + 1 + 1 + e = (j + 1 + e) + 1 by omega, m_first_h2, hM.1, if_neg (nI_ge (by omega) (by omega)), fnd]
    unfold m_first_j40
    simp only [G_in (show i < 144 by omega) (by decide : 144 < 2 ^ 31), nI_clamp (show i < 2 ^ 31 by omega), hM.2 i (by omega), G_in (show F.2 i < 168 by omega) (by decide : 168 < 2 ^ 31), nI_clamp (show F.2 i < 2 ^ 31 by omega), (BM_u hB u).2.1, nI_1]
    by_cases c : bkS b (F.2 i) = s
    · rw [if_pos (by rw [c]), decide_eq_true c, Bool.true_and]
      obtain ⟨S1, g1, g2⟩ := hld hb hB u hv
      rw [g2, chkS]
      cases cnd v (bkL b (F.2 i))
      · simp only [Bool.false_eq_true, if_false]
        obtain ⟨S2, k1, k2⟩ := ih (i + 1) (by omega) S1 (BM_k (p2_c (by decide) (by decide) g1) hB) (inM_fr g1 hM) (fun i hi => by rw [g1.2.1 21 (by decide)]; exact hv i hi)
        exact ⟨S2, fr_tr g1 k1, k2⟩
      · simp only [if_true]
        exact ⟨S1, g1, by rw [if_pos (show i < F.1 by omega)]⟩
    · rw [if_neg (fun q => c ((nI_eq (by omega) (by omega)).mp q)), decide_eq_false c, Bool.false_and]
      simp only [Bool.false_eq_true, if_false]
      exact ih (i + 1) (by omega) S hB hM hv
theorem fst_M {S : ST} {b : BK} {v : Nat → Int32} (hb : okB b) (hB : BM S b) {D : Nat} (hM : inM S (AL b D)) {s : Nat} (hs : s ≤ 5) (hv : VM S v) : ∃ S', fr [15] [22] S S' ∧ m_first S (nI s) = some (if fdx v b s (AL b D) < (AL b D).1 then nI (fdx v b s (AL b D)) else -1, S') := by
  have h144 := AL_le hb D
  obtain ⟨e, he⟩ := FU_s ((AL b D).1 + 1) (by omega)
  unfold m_first
  rw [he]
  exact fst_h2 hb (AL_ok hb D).1 h144 hs e (AL b D).1 0 (by omega) S hB hM hv
/-- the value of a rule's expression, in the reference -/
theorem val_M {S : ST} {b : BK} {v : Nat → Int32} (hb : okB b) (hB : BM S b) {r : Nat} (u : used b r) (h0 : bkS b r = 0) (hv : VM S v) : ∃ S', fr [15] [22] S S' ∧ m_termOf S (S.2.1 8 r) (S.2.1 9 r) = some (evV v (bkV b r), S') := by
  have hr := used_lt hb u
  have h6 := hb.1
  have u1 := u.1
  obtain ⟨q1, q2, ⟨a, q3, q4, q5, q6⟩, -⟩ := (BM_u hB u).1
  rw [show 24 * (r / 24) + r % 24 = r by omega] at q3 q4 q5 q6
  obtain ⟨S', g1, g2, g3⟩ := trm (v := v) (show a + (bkV b r).length ≤ 2800 by omega) ((okB_u hb u).2.2.2.1 h0) q6 hv
  exact ⟨S', g1, by rw [q3, q4]; exact g3⟩
