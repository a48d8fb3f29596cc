theorem okB_u {b : BK} (hb : okB b) {r : Nat} (u : used b r) : okR1 b r := by
  have := hb.2.2 _ u.1 _ u.2
  rw [show 24 * (r / 24) + r % 24 = r by omega] at this; exact this
theorem used_lt {b : BK} (hb : okB b) {r : Nat} (u : used b r) : r < 144 := by
  have := hb.1; have := u.1; omega
theorem BM_u {S : ST} {b : BK} (h : BM S b) {r : Nat} (u : used b r) : rM1 S b (r / 24) (r % 24) ∧ S.2.1 7 r = nI (bkS b r) ∧ S.2.2 2 r = lN (e27 (bkM b r)) := by
  have := h.2.2.1 _ u.1 _ u.2
  refine ⟨this, ?_⟩
  have q := this
  unfold rM1 at q
  rw [show 24 * (r / 24) + r % 24 = r by omega] at q
  exact ⟨q.1, q.2.1⟩
theorem tb_le {b : BK} (hb : okB b) : ∀ k, k ≤ bkN b → tb b k ≤ 24 * k := by
  intro k
  induction k with
  | zero => intro _; exact Nat.le_refl _
  | succ k ih => intro h; have := ih (by omega); have := (hb.2.1 k (by omega)).2; rw [tb]; omega
theorem xr_lt {b : BK} (hb : okB b) {r : Nat} (u : used b r) : xr b r < 144 := by
  have := tb_le hb (r / 24) (by have := u.1; omega)
  have := hb.1; have := u.1
  unfold xr; omega
/-- the list in force of the reference: a rule comes -/
theorem mcom_h4 {S : ST} {b : BK} {F : FL} {r : Nat} (hB : BM S b) (hb : okB b) (hF : okF b F) (h144 : F.1 ≤ 144) (hr : used b r) (hM : inM S F) (K : ST → Int32 → Int32 → Option ST) (e : Nat) : ∀ j i, i + j = F.1 → m_comes_h4 K (j + 1 + e) S (nI r) (if cmP b r F < i then nI (cmP b r F) else -1) (nI i) = K S (nI r) (if cmP b r F < F.1 then nI (cmP b r F) else -1) := by
  have hrl := used_lt hb hr
  intro j
  induction j with
  | zero => intro i h; rw [show 0 + 1 + e = e + 1 by omega, m_comes_h4, hM.1, if_pos (nI_le (by omega) (by omega)), show i = F.1 by omega]
  | succ j ih =>
    intro i h
    have ui := hF.1 i (by omega)
    have hil := used_lt hb ui
    rw [show j + 1 + 1 + e = (j + 1 + e) + 1 by omega, m_comes_h4, hM.1, if_neg (nI_ge (by omega) (by omega)), ← ih (i + 1) (by omega)]
    unfold m_comes_j35
    simp only [G_in (show i < 144 by omega) (by decide : 144 < 2 ^ 31), nI_clamp (show i < 2 ^ 31 by omega), hM.2 i (by omega), G_in (show F.2 i < 168 by omega) (by decide : 168 < 2 ^ 31), nI_clamp (show F.2 i < 2 ^ 31 by omega), G_in (show r < 168 by omega) (by decide : 168 < 2 ^ 31), nI_clamp (show r < 2 ^ 31 by omega), (BM_u hB ui).2.2, (BM_u hB hr).2.2, cmp0, n27 (okB_u hb ui).2.1 (okB_u hb hr).2.1 (okB_u hb ui).2.2.1 (okB_u hb hr).2.2.1, nI_1]
    have hle := cmP_le b r F
    by_cases c : bkM b (F.2 i) = bkM b r
    · rw [if_pos c]
      have c1 : ¬ i < cmP b r F := fun q => cmP_no b r F q c
      have c2 : cmP b r F < F.1 := by omega
      have c3 : i = cmP b r F := hF.2 i _ (by omega) c2 (by rw [c, cmP_yes b r F c2])
      rw [if_pos (show cmP b r F < i + 1 by omega), ← c3]
    · rw [if_neg c]
      have c3 : ¬ i = cmP b r F := fun q => c (by rw [q]; exact cmP_yes b r F (by omega))
      by_cases c4 : cmP b r F < i
      · rw [if_pos c4, if_pos (by omega)]
      · rw [if_neg c4, if_neg (by omega)]
theorem mcom_h69 {n p : Nat} (hn : n ≤ 143) (e : Nat) : ∀ j i, i + j = n → ∀ S, S.1 17 = nI n → ∃ S', m_comes_h69 (j + 1 + e) S (nI i) = some S' ∧ fr [17] [23] S S' ∧ S'.1 17 = nI n ∧ (∀ q, q < i → S'.2.1 23 q = S.2.1 23 q) ∧ (∀ q, i ≤ q → q < n → S'.2.1 23 q = S.2.1 23 (q + 1)) := by
  intro j
  induction j with
  | zero => intro i h S hS; exact ⟨S, by rw [show 0 + 1 + e = e + 1 by omega, m_comes_h69, hS, if_pos (nI_le (by omega) (by omega))], fr_rfl _ _ _, hS, fun _ _ => rfl, fun q h1 h2 => by omega⟩
  | succ j ih =>
    intro i h S hS
    obtain ⟨S', g1, g2, g3, g4, g5⟩ := ih (i + 1) (by omega) (sA S 23 (upd (S.2.1 23) i (S.2.1 23 (i + 1)))) hS
    refine ⟨S', ?_, fr_tr (fr_A S _ (by decide)) g2, g3, fun q hq => ?_, fun q h1 h2 => ?_⟩
    · rw [← g1, show j + 1 + 1 + e = (j + 1 + e) + 1 by omega, m_comes_h69, hS, if_neg (nI_ge (by omega) (by omega))]
      simp only [nI_1, G_in (show i + 1 < 144 by omega) (by decide : 144 < 2 ^ 31), G_in (show i < 144 by omega) (by decide : 144 < 2 ^ 31), nI_clamp (show i < 2 ^ 31 by omega), nI_clamp (show i + 1 < 2 ^ 31 by omega)]
    · rw [g4 q (by omega)]; show upd (S.2.1 23) i _ q = _; rw [pk_un (by omega)]
    · by_cases c : q = i
      · rw [c, g4 i (by omega)]; show upd (S.2.1 23) i _ i = _; rw [pk_us]
      · rw [g5 q (by omega) h2]; show upd (S.2.1 23) i _ (q + 1) = _; rw [pk_un (by omega)]
theorem mcom {S : ST} {b : BK} {F : FL} {r : Nat} (hB : BM S b) (hb : okB b) (hF : okF b F) (h144 : F.1 < 144) (hr : used b r) (hM : inM S F) : ∃ S', m_comes S (nI r) = some S' ∧ fr [17] [23] S S' ∧ inM S' (com b r F) := by
  obtain ⟨e, he⟩ := FU_s (F.1 + 1) (by omega)
  have hrl := used_lt hb hr
  have h5 : bkS b r ≤ 5 := (okB_u hb hr).1
  have pre : m_comes S (nI r) = m_comes_j41 S (nI r) (if cmP b r F < F.1 then nI (cmP b r F) else -1) := by
    unfold m_comes
    rw [he]
    have := mcom_h4 hB hb hF (by omega) hr hM m_comes_j41 e F.1 0 (by omega)
    rw [if_neg (Nat.not_lt_zero _)] at this
    exact this
  rw [pre]
  unfold m_comes_j41 com
  rw [G_in (by omega) (by decide), nI_clamp (by omega), (BM_u hB hr).2.1]
  by_cases c : cmP b r F < F.1
  · simp only [c, if_true]
    rw [if_neg (nI_m1 (by omega)), if_neg (nI_m1 (by omega))]
    by_cases c5 : bkS b r = 5
    · rw [if_pos (by rw [c5]; rfl), if_pos c5, hM.1, show (1 : Int32) = nI 1 from rfl, pk_sub (by omega)]
      obtain ⟨e2, he2⟩ := FU_s (F.1 - 1 - cmP b r F + 1) (by omega)
      obtain ⟨S', g1, g2, g3, g4, g5⟩ := mcom_h69 (n := F.1 - 1) (p := 0) (by omega) e2 (F.1 - 1 - cmP b r F) (cmP b r F) (by omega) (sI S 17 (nI (F.1 - 1))) rfl
      refine ⟨S', by rw [he2]; exact g1, fr_tr (fr_I S _ (by decide)) g2, g3, fun i hi => ?_⟩
      have hi : i < F.1 - 1 := hi
      show _ = nI (if i < cmP b r F then F.2 i else F.2 (i + 1))
      by_cases q : i < cmP b r F
      · rw [if_pos q, g4 i q]; exact hM.2 i (by omega)
      · rw [if_neg q, g5 i (by omega) hi]; exact hM.2 (i + 1) (by omega)
    · rw [if_neg (show ¬ nI (bkS b r) = 5 from fun q => c5 ((nI_eq (by omega) (by decide)).mp (show _ = nI 5 from q))), if_neg c5, G_in (by omega) (by decide)]
      refine ⟨_, rfl, fr_A S _ (by decide), hM.1, fun i hi => ?_⟩
      show upd (S.2.1 23) (nI (cmP b r F)).toNatClampNeg (nI r) i = nI (if i = cmP b r F then r else F.2 i)
      rw [nI_clamp (by omega)]
      by_cases q : i = cmP b r F
      · rw [if_pos q, q, pk_us]
      · rw [if_neg q, pk_un q]; exact hM.2 i hi
  · simp only [c, if_false]
    by_cases c5 : bkS b r = 5
    · rw [if_pos (by rw [c5]; rfl), if_pos c5]
      simp only [if_true]
      exact ⟨S, rfl, fr_rfl _ _ _, hM⟩
    · rw [if_neg (show ¬ nI (bkS b r) = 5 from fun q => c5 ((nI_eq (by omega) (by decide)).mp (show _ = nI 5 from q))), if_neg c5]
      simp only [if_true, hM.1, nI_1, G_in h144 (by decide : 144 < 2 ^ 31), nI_clamp (show F.1 < 2 ^ 31 by omega)]
      refine ⟨_, rfl, fr_tr (fr_I S _ (by decide)) (fr_A _ _ (by decide)), rfl, fun i hi => ?_⟩
      have hi : i < F.1 + 1 := hi
      show upd (S.2.1 23) F.1 (nI r) i = nI (if i = F.1 then r else F.2 i)
      by_cases q : i = F.1
      · rw [if_pos q, q, pk_us]
      · rw [if_neg q, pk_un q]; exact hM.2 i (by omega)
theorem p2_c {I A : List Nat} {S S' : ST} (hI : ∀ k, k ∈ I → k ∈ [15, 16, 17]) (hA : ∀ k, k ∈ A → k ∈ [22, 23]) (h : fr I A S S') : p2 S' = p2 S := p2_fr (I := [15, 16, 17]) (A := [22, 23]) (by decide) (by decide) (fr_sub hI hA h)
theorem frc_h55 {b : BK} (hb : okB b) {k : Nat} (hk : k < bkN b) {L : Nat} (hL : L ≤ 5) (l1 l2 : Int32) (K : ST → Int32 → Int32 → Int32 → Option ST) (e : Nat) : ∀ j i, i + j = bkR b k → ∀ S F, BM S b → okF b F → F.1 ≤ 24 * L + i → inM S F → ∃ S', fr [17] [23] S S' ∧ inM S' (comT b k j i F) ∧ m_forces_h55 K (j + 1 + e) S l1 l2 (nI k) (nI (24 * k + i)) = K S' l1 l2 (nI k) := by
  have h24 := (hb.2.1 k hk).2
  have h6 := hb.1
  intro j
  induction j with
  | zero =>
    intro i h S F hB hF hl hM
    refine ⟨S, fr_rfl _ _ _, hM, ?_⟩
    rw [show 0 + 1 + e = e + 1 by omega, m_forces_h55, G_in (by omega) (by decide), nI_clamp (by omega), (hB.2.1 k hk).2, show (24 : Int32) = nI 24 from rfl, pk_mul, nI_add, if_pos (nI_le (by omega) (by omega))]
  | succ j ih =>
    intro i h S F hB hF hl hM
    have hu := used_i hk (show i < bkR b k by omega) h24
    obtain ⟨S1, g1, g2, g3⟩ := mcom hB hb hF (by omega) hu hM
    have hc := com_ok hu hF
    obtain ⟨S2, k1, k2, k3⟩ := ih (i + 1) (by omega) S1 (com b (24 * k + i) F) (BM_k (p2_c (by decide) (by decide) g2) hB) hc.1 (by omega) g3
    refine ⟨S2, fr_tr g2 k1, k2, ?_⟩
    rw [← k3, show j + 1 + 1 + e = (j + 1 + e) + 1 by omega, m_forces_h55, G_in (by omega) (by decide), nI_clamp (by omega), (hB.2.1 k hk).2, show (24 : Int32) = nI 24 from rfl, pk_mul, nI_add, if_neg (nI_ge (by omega) (by omega)), g1, calV_s, nI_1]
    rfl
theorem frc_h28 {b : BK} (hb : okB b) (d : Nat) (hd : d < 100) (l1 : Int32) (K : ST → Int32 → Int32 → Option ST) (e : Nat) : ∀ j k, k + j = bkN b → ∀ S F, BM S b → okF b F → F.1 ≤ 24 * lvK b d k → inM S F → ∃ S', fr [17] [23] S S' ∧ inM S' (comD b d j k F) ∧ m_forces_h28 K (j + 1 + e) S l1 (nI d) (nI k) = K S' l1 (nI d) := by
  have h6 := hb.1
  intro j
  induction j with
  | zero =>
    intro k h S F hB hF hl hM
    refine ⟨S, fr_rfl _ _ _, hM, ?_⟩
    rw [show 0 + 1 + e = e + 1 by omega, m_forces_h28, hB.1, if_pos (nI_le (by omega) (by omega))]
  | succ j ih =>
    intro k h S F hB hF hl hM
    have hk : k < bkN b := by omega
    have h24 := hb.2.1 k hk
    rw [comD]
    by_cases c : bkD b k = d
    · have hlt := lvK_lt b hk c
      obtain ⟨e2, he2⟩ := FU_s (bkR b k + 1) (by omega)
      obtain ⟨S1, g1, g2, g3⟩ := frc_h55 hb hk (L := lvK b d k) (by omega) l1 (nI d) (m_forces_j83 (m_forces_h28 K (j + 1 + e)) K) e2 (bkR b k) 0 (by omega) S F hB hF (by omega) hM
      have hc := comT_ok hk h24.2 (bkR b k) 0 F (by omega) hF
      obtain ⟨S2, k1, k2, k3⟩ := ih (k + 1) (by omega) S1 _ (BM_k (p2_c (by decide) (by decide) g1) hB) hc.1 (by rw [lvK_y b hk c]; omega) g2
      rw [if_pos c]
      refine ⟨S2, fr_tr g1 k1, k2, ?_⟩
      rw [← k3, show j + 1 + 1 + e = (j + 1 + e) + 1 by omega, m_forces_h28, hB.1, if_neg (nI_ge (by omega) (by omega)), G_in (by omega) (by decide), nI_clamp (by omega), (hB.2.1 k hk).1, if_pos (by rw [c]), show (24 : Int32) = nI 24 from rfl, pk_mul, he2, ← Nat.add_zero (24 * k), g3]
      unfold m_forces_j83
      rw [nI_1]
    · rw [if_neg c]
      obtain ⟨S2, k1, k2, k3⟩ := ih (k + 1) (by omega) S F hB hF (by rw [lvK_no b c]; exact hl) hM
      refine ⟨S2, k1, k2, ?_⟩
      rw [← k3, show j + 1 + 1 + e = (j + 1 + e) + 1 by omega, m_forces_h28, hB.1, if_neg (nI_ge (by omega) (by omega)), G_in (by omega) (by decide), nI_clamp (by omega), (hB.2.1 k hk).1, if_neg (fun q => c ((nI_eq (by omega) (by omega)).mp q))]
      unfold m_forces_j83
      rw [nI_1]
theorem frc_h21 {b : BK} (hb : okB b) (d : Nat) (hd : d < 100) (e : Nat) : ∀ j D, D + j = d + 1 → ∀ S, BM S b → inM S (AL b D) → ∃ S', fr [17] [23] S S' ∧ inM S' (AL b (d + 1)) ∧ m_forces_h21 (j + 1 + e) S (nI d) (nI D) = some S' := by
  have h6 := hb.1
  intro j
  induction j with
  | zero =>
    intro D h S hB hM
    refine ⟨S, fr_rfl _ _ _, by rw [show d + 1 = D by omega]; exact hM, ?_⟩
    rw [show 0 + 1 + e = e + 1 by omega, m_forces_h21, if_pos (nI_lt (by omega) (by omega))]
  | succ j ih =>
    intro D h S hB hM
    have ho := AL_ok hb D
    obtain ⟨e2, he2⟩ := FU_s (bkN b + 1) (by omega)
    obtain ⟨S1, g1, g2, g3⟩ := frc_h28 hb D (by omega) (nI d) (m_forces_j89 (m_forces_h21 (j + 1 + e))) e2 (bkN b) 0 (by omega) S (AL b D) hB ho.1 (by rw [lvK_0]; exact ho.2) hM
    obtain ⟨S2, k1, k2, k3⟩ := ih (D + 1) (by omega) S1 (BM_k (p2_c (by decide) (by decide) g1) hB) g2
    refine ⟨S2, fr_tr g1 k1, k2, ?_⟩
    rw [← k3, show j + 1 + 1 + e = (j + 1 + e) + 1 by omega, m_forces_h21, if_neg (nI_nlt (by omega) (by omega)), he2, show (0 : Int32) = nI 0 from rfl, g3]
    unfold m_forces_j89
    rw [nI_1]
/-- the reference finds out what is in force on a day -/
def FD (S : ST) (b : BK) (d : Nat) : Prop := S.1 16 = nI d ∧ inM S (AL b (d + 1))
theorem frc {S : ST} {b : BK} (hb : okB b) (hB : BM S b) (hC : CM S b) {d : Nat} (hd : d < 100) : ∃ S', m_forces S (nI d) = some S' ∧ fr [16, 17] [23] S S' ∧ FD S' b d := by
  unfold m_forces
  by_cases c : S.1 16 = nI d
  · rw [if_pos c]
    rcases hC with q | ⟨d', hd', q1, q2⟩
    · rw [q] at c; exact absurd c.symm (nI_m1 (by omega))
    · have : d' = d := (nI_eq (by omega) (by omega)).mp (q1.symm.trans c)
      subst this
      exact ⟨S, rfl, fr_rfl _ _ _, q1, q2⟩
  · rw [if_neg c]
    obtain ⟨e, he⟩ := FU_s (d + 1 + 1) (by omega)
    obtain ⟨S', g1, g2, g3⟩ := frc_h21 hb d hd e (d + 1) 0 (by omega) (sI (sI S 16 (nI d)) 17 0) hB ⟨rfl, fun i hi => absurd hi (Nat.not_lt_zero i)⟩
    refine ⟨S', by rw [he]; exact g3, fr_tr (fr_I S _ (by decide)) (fr_tr (fr_I _ _ (by decide)) (fr_sub (by decide) (by decide) g1)), ?_, g2⟩
    rw [g1.1 16 (by decide)]; rfl
theorem FD_CM {S : ST} {b : BK} {d : Nat} (hd : d < 100) (h : FD S b d) : CM S b := Or.inr ⟨d, hd, h.1, h.2⟩
/-! the class -/
theorem lvl_h4 {S : ST} {b : BK} (hb : okB b) (hB : BX S b) {d : Nat} (hd : d < 100) (e : Nat) : ∀ j k, k + j = bkN b → x7_levelOn_h4 (j + 1 + e) S (nI d) (nI (cnP (fun k => decide (bkD b k < d + 1)) k)) (nI k) = some (nI (lvD b (d + 1)), S) := by
  have h6 := hb.1
  intro j
  induction j with
  | zero => intro k h; rw [show 0 + 1 + e = e + 1 by omega, x7_levelOn_h4, hB.1, if_pos (nI_le (by omega) (by omega)), show k = bkN b by omega]; rfl
  | succ j ih =>
    intro k h
    have h24 := hb.2.1 k (by omega)
    rw [show j + 1 + 1 + e = (j + 1 + e) + 1 by omega, x7_levelOn_h4, hB.1, if_neg (nI_ge (by omega) (by omega)), ← ih (k + 1) (by omega), G_in (by omega) (by decide), nI_clamp (by omega), (hB.2.1 k (by omega)).1, cnP]
    unfold x7_levelOn_j25
    simp only [nI_1]
    by_cases c : d < bkD b k
    · rw [if_pos (nI_lt c (by omega)), decide_eq_false (by omega)]; rfl
    · rw [if_neg (nI_nlt (by omega) (by omega)), decide_eq_true (by omega)]; rfl
theorem lvl {S : ST} {b : BK} (hb : okB b) (hB : BX S b) {d : Nat} (hd : d < 100) : x7_levelOn S (nI d) = some (nI (lvD b (d + 1)), S) := by
  have h6 := hb.1
  obtain ⟨e, he⟩ := FU_s (bkN b + 1) (by omega)
  unfold x7_levelOn
  rw [he]
  exact lvl_h4 hb hB hd e (bkN b) 0 (by omega)
theorem lvD_le {b : BK} (hb : okB b) (D : Nat) : lvD b D ≤ 6 := Nat.le_trans (cnP_le _ _) hb.1
theorem sim_rules {Sx Sm : ST} (h : RR Sx Sm) (a0 : Int32) : ∃ r Sx' Sm', x11_rules Sx a0 = some (r, Sx') ∧ m_rules Sm a0 = some (r, Sm') ∧ RR Sx' Sm' := by
  obtain ⟨hZ, b, hb, hX, hM, hC⟩ := RR_un h
  unfold x11_rules m_rules
  simp only [b100, mDay, chk]
  cases c0 : rb a0 100
  · exact ⟨_, _, _, rfl, rfl, h⟩
  obtain ⟨d, hd, rfl⟩ := rb_rng (by decide) c0
  obtain ⟨S', g1, g2, g3⟩ := frc hb hM hC hd
  have hl := lvD_le hb (d + 1)
  have hi := hX.2.2.2 (d + 1) (by omega)
  unfold x7_howManyInForce
  simp only [if_true, g1, calV_s, lvl hb hX hd, cal_s, G_in (show lvD b (d + 1) < 7 by omega) (by decide : 7 < 2 ^ 31), nI_clamp (show lvD b (d + 1) < 2 ^ 31 by omega), hi.1, g3.2.1]
  exact ⟨_, _, _, rfl, rfl, RR_mk hZ hX hM hb rfl (p2_c (by decide) (by decide) g2) (FD_CM hd g3)⟩
theorem BX_u {S : ST} {b : BK} (h : BX S b) {r : Nat} (u : used b r) : S.2.1 2 (xr b r) = nI (bkS b r) ∧ S.2.2 0 (xr b r) = lN (e32 (bkM b r)) ∧ S.2.1 3 (xr b r) = nI (r / 24) ∧ S.2.1 4 (xr b r) = nI (r % 24) := by
  obtain ⟨ce, -, -, q⟩ := h.2.2.1
  have := q _ u.1 _ u.2
  unfold rX1 at this
  rw [show 24 * (r / 24) + r % 24 = r by omega] at this
  exact ⟨this.1, this.2.1, this.2.2.1, this.2.2.2.1⟩
theorem sim_rule {Sx Sm : ST} (h : RR Sx Sm) (a0 a1 a2 : Int32) : ∃ r Sx' Sm', x11_rule Sx a0 a1 a2 = some (r, Sx') ∧ m_rule Sm a0 a1 a2 = some (r, Sm') ∧ RR Sx' Sm' := by
  obtain ⟨hZ, b, hb, hX, hM, hC⟩ := RR_un h
  unfold x11_rule m_rule
  simp only [b100, mDay, chk]
  cases c0 : rb a0 100
  · exact ⟨_, _, _, rfl, rfl, h⟩
  obtain ⟨d, hd, rfl⟩ := rb_rng (by decide) c0
  obtain ⟨S', g1, g2, g3⟩ := frc hb hM hC hd
  have hl := lvD_le hb (d + 1)
  have hi := hX.2.2.2 (d + 1) (by omega)
  have h144 := AL_le hb (d + 1)
  have hr := RR_mk hZ hX hM hb (Sx' := Sx) rfl (p2_c (by decide) (by decide) g2) (FD_CM hd g3)
  have hM' := BM_k (p2_c (by decide) (by decide) g2) hM
  unfold x7_inForceAt
  simp only [if_true, g1, calV_s, lvl hb hX hd, cal_s, G_in (show lvD b (d + 1) < 7 by omega) (by decide : 7 < 2 ^ 31), nI_clamp (show lvD b (d + 1) < 2 ^ 31 by omega), hi.1, g3.2.1]
  by_cases c1 : a1 < 0
  · simp only [c1, if_true, cal_s]; exact ⟨_, _, _, rfl, rfl, hr⟩
  obtain ⟨k, hk, rfl⟩ := nI_of c1
  simp only [c1, if_false]
  by_cases c2 : k < (AL b (d + 1)).1
  · have u := (AL_ok hb (d + 1)).1.1 k c2
    have hx := xr_lt hb u
    have hu := used_lt hb u
    simp only [show (144 : Int32) = nI 144 from rfl, pk_mul, nI_add, if_neg (nI_ge c2 (show (AL b (d + 1)).1 < 2 ^ 31 by omega)), if_pos (nI_lt c2 (show (AL b (d + 1)).1 < 2 ^ 31 by omega)), G_in (show 144 * lvD b (d + 1) + k < 1008 by omega) (by decide : 1008 < 2 ^ 31), nI_clamp (show 144 * lvD b (d + 1) + k < 2 ^ 31 by omega), Nat.mul_comm (lvD b (d + 1)) 144, hi.2 k c2, cal_s, if_neg (nI_m1 (show xr b ((AL b (d + 1)).2 k) < 2 ^ 31 by omega)), G_in (show k < 144 by omega) (by decide : 144 < 2 ^ 31), nI_clamp (show k < 2 ^ 31 by omega), g3.2.2 k c2, G_in hx (by decide : 144 < 2 ^ 31), nI_clamp (show xr b ((AL b (d + 1)).2 k) < 2 ^ 31 by omega), G_in (show (AL b (d + 1)).2 k < 168 by omega) (by decide : 168 < 2 ^ 31), nI_clamp (show (AL b (d + 1)).2 k < 2 ^ 31 by omega), (BX_u hX u).1, (BX_u hX u).2.2.1, (BX_u hX u).2.2.2, (BM_u hM' u).2.1]
    simp only [show (24 : Int32) = nI 24 from rfl, pk_div (show (AL b (d + 1)).2 k < 2 ^ 31 by omega) (by decide : 0 < 24) (by decide : 24 < 2 ^ 31), pk_mul, pk_sub (show (AL b (d + 1)).2 k / 24 * 24 ≤ (AL b (d + 1)).2 k by omega), show (AL b (d + 1)).2 k - (AL b (d + 1)).2 k / 24 * 24 = (AL b (d + 1)).2 k % 24 by omega]
    by_cases q0 : a2 = 0
    · simp only [q0, if_true]; exact ⟨_, _, _, rfl, rfl, hr⟩
    by_cases q1 : a2 = 1
    · simp only [q0, if_false, if_true, q1, i10]; exact ⟨_, _, _, rfl, rfl, hr⟩
    by_cases q2 : a2 = 2
    · simp only [q0, q1, if_false, q2, if_true, show ((2 : Int32) = 0) = False from eq_false (by decide), show ((2 : Int32) = 1) = False from eq_false (by decide)]; exact ⟨_, _, _, rfl, rfl, hr⟩
    simp only [q0, q1, q2, if_false]; exact ⟨_, _, _, rfl, rfl, hr⟩
  · simp only [if_pos (nI_le (show (AL b (d + 1)).1 ≤ k by omega) hk), if_neg (nI_nlt (show (AL b (d + 1)).1 ≤ k by omega) hk), cal_s, if_true]
    exact ⟨_, _, _, rfl, rfl, hr⟩
