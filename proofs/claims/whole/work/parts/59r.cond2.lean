def preC (L : List LIT) (q : Bool) : List Nat := ccX true L ++ (if (q && !L.isEmpty) = true then [40000] else [])
def lcC (l : LIT) : List Nat := l.2.2.2.1.map xen ++ (l.2.2.2.2.map xen ++ [30062 + 2 * l.1 + l.2.1.toNat])
theorem ccX_f (l : LIT) : ∀ r, ccX false (r ++ [l]) = ccX false r ++ ((if l.2.2.1 = true then [40000] else []) ++ lcC l) := by
  intro r
  induction r with
  | nil => simp [ccX, lcC]
  | cons x r ih => rw [List.cons_append, ccX, ih, ccX]; simp [List.append_assoc]
theorem ccX_snoc (L : List LIT) (l : LIT) : ccX true (L ++ [l]) = preC L l.2.2.1 ++ lcC l := by
  cases L with
  | nil => simp [ccX, preC, lcC]
  | cons x r => rw [List.cons_append, ccX, ccX_f, preC, ccX]; simp [List.append_assoc]
theorem lsM_snoc {S : ST} {top : Nat} {l : LIT} : ∀ {L : List LIT} {f : Nat}, lsM S top f L → i1 l S top (f + L.length) → lsM S top f (L ++ [l]) := by
  intro L
  induction L with
  | nil => intro f _ h; exact ⟨h.1, h.2.1, h.2.2.1, h.2.2.2, trivial⟩
  | cons x r ih =>
    intro f h h2
    obtain ⟨h0, h1⟩ := lsF_i1 h
    have := ih h1 (by rw [show f + 1 + r.length = f + (x :: r).length by simp; omega]; exact h2)
    exact ⟨h0.1, h0.2.1, h0.2.2.1, h0.2.2.2, this⟩
theorem lsM_mono {S : ST} {top top' : Nat} (ht : top ≤ top') : ∀ {L : List LIT} {f : Nat}, lsM S top f L → lsM S top' f L := by
  intro L
  induction L with
  | nil => intro f _; trivial
  | cons x r ih =>
    intro f h
    obtain ⟨⟨a1, a2, a3, p, a4, a5, a6, a7, a8⟩, h1⟩ := lsF_i1 h
    exact ⟨a1, a2, a3, ⟨p, a4, a5, a6, by omega, a8⟩, ih h1⟩
theorem lsM_c {S S' : ST} {d f : Nat} (h : MC d f S S') : ∀ {L : List LIT} {f0 : Nat}, f0 + L.length ≤ f → lsM S d f0 L → lsM S' d f0 L := by
  intro L
  induction L with
  | nil => intro f0 _ _; trivial
  | cons x r ih =>
    intro f0 hf hl
    rw [List.length_cons] at hf
    obtain ⟨⟨a1, a2, a3, p, a4, a5, a6, a7, a8, a9⟩, h1⟩ := lsF_i1 hl
    obtain ⟨c1, c2, c3, c4, c5, c6⟩ := h.2.2 f0 (by omega)
    refine ⟨c1.trans a1, c2.trans a2, c3.trans a3, ⟨p, c4.trans a4, c5.trans a5, c6.trans a6, a7, sgM_c (fun i h1 h2 => h.2.1 i (by omega)) a8, sgM_c (fun i h1 h2 => h.2.1 i (by omega)) a9⟩, ih (by omega) h1⟩
theorem em_d {a f q : Nat} {S : ST} (ho : okD f q) (hD : dX f q S) (hb : ∃ a', a ≤ a' ∧ a' ≤ 2400 ∧ S.1 2 = nI a') (n : Nat) (c v : Int32) : ∃ S', (calV (x7_emit S v) fun S79 => if (S79.1 7) = 3 then (calV (x7_emit S79 40000) fun S96 => x2_parseCondition_j103 (x2_parseCondition_h4 (n + 1)) S96 c) else (x2_parseCondition_j103 (x2_parseCondition_h4 (n + 1)) S79 c)) = some S' ∧ XE a S S' ∧ dX f q S' ∧ ∃ a', a ≤ a' ∧ a' ≤ 2400 ∧ S'.1 2 = nI a' := by
  have j99 : ∀ S', ¬ S'.1 9 = 0 → x2_parseCondition_j103 (x2_parseCondition_h4 (n + 1)) S' c = some S' := fun S' h => by
    unfold x2_parseCondition_j103 x2_parseCondition_j119 x2_parseCondition_j134 x2_parseCondition_j135
    try dsimp only
    rw [acc_d h, cal_s, if_pos rfl, x2_parseCondition_h4, if_pos rfl, ite_self, ite_self]
  obtain ⟨a1, b1, b2, b3⟩ := hb
  obtain ⟨S1, g1, g2, g3', a2, g4, g5, g6⟩ := emT b1 b2 b3 v
  have d1 : dX f q S1 := ⟨(g2.1 9 (by decide)).trans hD.1, (g2.1 10 (by decide)).trans hD.2⟩
  have f1 : XE a S S1 := ⟨g3_sub (by decide) (by decide) (by decide) g2, g3'⟩
  rw [g1, calV_s]
  obtain ⟨S2, k1, k2, k3, k4⟩ := emT g4 g5 g6 40000
  have d2 : dX f q S2 := ⟨(k2.1 9 (by decide)).trans d1.1, (k2.1 10 (by decide)).trans d1.2⟩
  rw [k1, calV_s, j99 S1 (dX0 ho d1), j99 S2 (dX0 ho d2)]
  by_cases c3 : S1.1 7 = 3
  · rw [if_pos c3]
    exact ⟨S2, rfl, XE_tr f1 ⟨g3_sub (by decide) (by decide) (by decide) k2, k3⟩, d2, k4⟩
  · rw [if_neg c3]
    exact ⟨S1, rfl, f1, d1, a2, g4, g5, g6⟩
theorem mt_d {f q : Nat} {T : ST} (ho : okD f q) (h : dM f q T) (K : ST → Int32 → Option ST) (n : Nat) (l3 : Int32) : (cal (m_is T 29) fun r271 S271 => if r271 = 0 then (cal (m_is S271 30) fun r284 S284 => if r284 = 0 then (m_tellRule_j295 (m_tellRule_h250 K (n + 1)) K S284 l3 r271 0) else (m_tellRule_j290 (m_tellRule_h250 K (n + 1)) K S284 l3 r271)) else (m_tellRule_j290 (m_tellRule_h250 K (n + 1)) K S271 l3 r271)) = K T l3 := by
  rw [is_d (dM0 ho h), cal_s, if_pos rfl, is_d (dM0 ho h), cal_s, if_pos rfl]
  unfold m_tellRule_j295
  rw [if_pos rfl, m_tellRule_h250, if_pos rfl]
theorem sub11 {k : Nat} (hk : k < 100) : (nI k - 11 < 0 ↔ k < 11) ∧ (nI k - 11 ≤ 3 ↔ k ≤ 14) := by
  have h : (nI k - 11).toInt = (k : Int) - 11 := pk_sub_toInt (b := 11) (by omega) (by decide)
  rw [Int32.lt_iff_toInt_lt, Int32.le_iff_toInt_le, h]
  have h0 : (0 : Int32).toInt = 0 := rfl
  have h3 : (3 : Int32).toInt = 3 := rfl
  omega
theorem litW_eq {T : ST} {f : Nat} (hf : f < 980) (e : T.1 12 = nI f) (l1 l2 l3 l4 v93 : Int32) : (G (inb (T.1 12) 980) <|
  let S117 := sA T 12 (upd (T.2.1 12) (Int32.toNatClampNeg (T.1 12)) l4)
  G (inb (S117.1 12) 980) <|
  let S127 := sA S117 13 (upd (S117.2.1 13) (Int32.toNatClampNeg (S117.1 12)) (vp_nar .boolean l2))
  G (inb (S127.1 12) 980) <|
  let S137 := sA S127 14 (upd (S127.2.1 14) (Int32.toNatClampNeg (S127.1 12)) (vp_nar .boolean l1))
  G (inb (S137.1 12) 980) <|
  let S147 := sA S137 15 (upd (S137.2.1 15) (Int32.toNatClampNeg (S137.1 12)) l3)
  G (inb (S147.1 12) 980) <|
  let S158 := sA S147 16 (upd (S147.2.1 16) (Int32.toNatClampNeg (S147.1 12)) v93)
  G (inb (S158.1 12) 980) <|
  let S171 := sA S158 17 (upd (S158.2.1 17) (Int32.toNatClampNeg (S158.1 12)) (S158.1 13))
  let S179 := sI S171 12 ((S171.1 12) + 1)
  some S179) = some (litW T f l4 (vp_nar .boolean l2) (vp_nar .boolean l1) l3 v93 (T.1 13)) := by
  have hs : ∀ (U : ST), U.1 12 = nI f → inb (U.1 12) 980 = true ∧ Int32.toNatClampNeg (U.1 12) = f ∧ U.1 12 + 1 = nI (f + 1) := fun U h => by rw [h]; exact ⟨inb_nI hf (by decide), nI_clamp (by omega), nI_1 f⟩
  obtain ⟨h1, h2, h3⟩ := hs T e
  rw [G_t h1, h2]
  dsimp only
  rw [G_t (hs (sA T 12 _) e).1, (hs (sA T 12 _) e).2.1, G_t (hs (sA (sA T 12 _) 13 _) e).1, (hs (sA (sA T 12 _) 13 _) e).2.1, G_t (hs (sA (sA (sA T 12 _) 13 _) 14 _) e).1, (hs (sA (sA (sA T 12 _) 13 _) 14 _) e).2.1, G_t (hs (sA (sA (sA (sA T 12 _) 13 _) 14 _) 15 _) e).1, (hs (sA (sA (sA (sA T 12 _) 13 _) 14 _) 15 _) e).2.1, G_t (hs (sA (sA (sA (sA (sA T 12 _) 13 _) 14 _) 15 _) 16 _) e).1, (hs (sA (sA (sA (sA (sA T 12 _) 13 _) 14 _) 15 _) 16 _) e).2.1, (hs (sA (sA (sA (sA (sA (sA T 12 _) 13 _) 14 _) 15 _) 16 _) 17 _) e).2.2]
  rfl
theorem lv_31 {z : TZ} {S : ST} {p : Nat} (hz : okZ z) (hX : lvX z S p) (Kb : ST → Int32 → Int32 → Option ST) (c0 l2 : Int32) : (let v38 := (S.1 7); if v38 < 31 then (x2_parseCondition_j53 Kb S c0 l2 v38) else (if v38 ≤ 34 then (x2_parseCondition_j58 Kb S c0 l2 v38) else (x2_parseCondition_j53 Kb S c0 l2 v38))) = if 31 ≤ zK z p ∧ zK z p ≤ 34 then x2_parseCondition_j58 Kb S c0 l2 (nI (zK z p)) else x2_parseCondition_j58 Kb (sI (sI S 9 1) 10 (nI (zP z p))) c0 l2 (nI (zK z p)) := by
  have h38 := hz.2.2.1 p
  dsimp only
  rw [hX.2.2.2.1]
  have j51 : x2_parseCondition_j53 Kb S c0 l2 (nI (zK z p)) = x2_parseCondition_j58 Kb (sI (sI S 9 1) 10 (nI (zP z p))) c0 l2 (nI (zK z p)) := by
    unfold x2_parseCondition_j53
    rw [ref_y hX.2.2.2.2.2.2, calV_s, hX.2.2.2.2.1]
  rw [j51]
  by_cases c : zK z p < 31
  · rw [if_pos (show nI (zK z p) < 31 from nI_lt (b := 31) c (by decide)), if_neg (by omega)]
  · rw [if_neg (show ¬ nI (zK z p) < 31 from nI_nlt (b := 31) (by omega) (by omega))]
    by_cases c2 : zK z p ≤ 34
    · rw [if_pos (show nI (zK z p) ≤ 34 from nI_le (b := 34) c2 (by decide)), if_pos (by omega)]
    · rw [if_neg (show ¬ nI (zK z p) ≤ 34 from nI_ge (a := 34) (by omega) (by omega)), if_neg (by omega)]
theorem xcp_d {a f q : Nat} {S : ST} (ho : okD f q) (hD : dX f q S) (hb : ∃ a', a ≤ a' ∧ a' ≤ 2400 ∧ S.1 2 = nI a') (n : Nat) (c l2 : Int32) : ∃ S', (let v38 := (S.1 7); if v38 < 31 then (x2_parseCondition_j53 (x2_parseCondition_h4 (n + 1)) S c l2 v38) else (if v38 ≤ 34 then (x2_parseCondition_j58 (x2_parseCondition_h4 (n + 1)) S c l2 v38) else (x2_parseCondition_j53 (x2_parseCondition_h4 (n + 1)) S c l2 v38))) = some S' ∧ XE a S S' ∧ dX f q S' ∧ ∃ a', a ≤ a' ∧ a' ≤ 2400 ∧ S'.1 2 = nI a' := by
  obtain ⟨S', h⟩ := j56_d ho hD hb n c l2 (S.1 7)
  refine ⟨S', ?_, h.2⟩
  dsimp only
  unfold x2_parseCondition_j53
  rw [ref_d (dX0 ho hD), calV_s, h.1, ite_self, ite_self]
