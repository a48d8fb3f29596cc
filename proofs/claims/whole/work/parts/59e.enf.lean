def BE (S : ST) (b : BK) : Prop := S.1 4 = nI (bkN b) ∧ (∀ k, k < bkN b → S.2.1 8 k = nI (bkD b k) ∧ S.2.1 9 k = nI (tb b (k + 1))) ∧ ∀ r, used b r → S.2.1 2 (xr b r) = nI (bkS b r) ∧ S.2.2 0 (xr b r) = lN (e32 (bkM b r))
theorem BE_fr {S S' : ST} {b : BK} (h : fr [] [10, 11] S S') (g : BE S b) : BE S' b := by
  refine ⟨(h.1 4 (by decide)).trans g.1, fun k hk => ?_, fun r hr => ?_⟩
  · rw [h.2.1 8 (by decide), h.2.1 9 (by decide)]; exact g.2.1 k hk
  · rw [h.2.1 2 (by decide), h.2.2]; exact g.2.2 r hr
/-- levels up to l stay -/
def fl (l : Nat) (S S' : ST) : Prop := (∀ j, j < 144 * (l + 1) → S'.2.1 10 j = S.2.1 10 j) ∧ ∀ j, j ≤ l → S'.2.1 11 j = S.2.1 11 j
theorem fl_rfl (l : Nat) (S : ST) : fl l S S := ⟨fun _ _ => rfl, fun _ _ => rfl⟩
theorem fl_tr {l : Nat} {S T U : ST} (h : fl l S T) (g : fl l T U) : fl l S U := ⟨fun j hj => (g.1 j hj).trans (h.1 j hj), fun j hj => (g.2 j hj).trans (h.2 j hj)⟩
theorem fl_le {l m : Nat} {S T : ST} (hl : l ≤ m) (h : fl m S T) : fl l S T := ⟨fun j hj => h.1 j (by omega), fun j hj => h.2 j (by omega)⟩
theorem inX_fl {l m : Nat} {S T : ST} {b : BK} {F : FL} (hl : l ≤ m) (h144 : F.1 ≤ 144) (h : fl m S T) (g : inX S b l F) : inX T b l F := ⟨(h.2 l hl).trans g.1, fun i hi => (h.1 _ (by omega)).trans (g.2 i hi)⟩
theorem xr_i {b : BK} {k i : Nat} (hi : i < 24) : xr b (24 * k + i) = tb b k + i := by
  unfold xr
  rw [show (24 * k + i) / 24 = k by omega, show (24 * k + i) % 24 = i by omega]
theorem nif {S : ST} {b : BK} {F : FL} {r lv : Nat} (hE : BE S b) (hb : okB b) (hF : okF b F) (h144 : F.1 ≤ 144) (hr : used b r) (hl : lv ≤ 6) (hi : inX S b lv F) : x7_namedInForce S (nI lv) (lN (e32 (bkM b r))) = some (if cmP b r F < F.1 then nI (cmP b r F) else -1, S) := by
  obtain ⟨e, he⟩ := FU_s (F.1 + 1) (by omega)
  have lp : ∀ j i, i + j = F.1 → x7_namedInForce_h3 (j + 1 + e) S (nI lv) (lN (e32 (bkM b r))) (nI i) = some (if fnd (fun i => decide (bkM b (F.2 i) = bkM b r)) j i < F.1 then nI (fnd (fun i => decide (bkM b (F.2 i) = bkM b r)) j i) else -1, S) := by
    intro j
    induction j with
    | zero => intro i h; rw [show 0 + 1 + e = e + 1 by omega, x7_namedInForce_h3, G_in (by omega) (by decide), nI_clamp (by omega), hi.1, if_pos (nI_le (by omega) (by omega)), fnd, if_neg (by omega)]
    | succ j ih =>
      intro i h
      have ui := hF.1 i (by omega)
      have hx := xr_lt hb ui
      rw [show j + 1 + 1 + e = (j + 1 + e) + 1 by omega, x7_namedInForce_h3, G_in (by omega) (by decide), nI_clamp (by omega), hi.1, if_neg (nI_ge (by omega) (by omega)), show (144 : Int32) = nI 144 from rfl, pk_mul, nI_add, Nat.mul_comm lv 144, G_in (by omega) (by decide), nI_clamp (by omega), hi.2 i (by omega), G_in hx (by decide), nI_clamp (by omega), (hE.2.2 _ ui).2, nI_1, ih (i + 1) (by omega), fnd]
      simp only [cmp0, n32 (okB_u hb ui).2.1 (okB_u hb hr).2.1 (okB_u hb ui).2.2.1 (okB_u hb hr).2.2.1, decide_eq_true_eq]
      by_cases c : bkM b (F.2 i) = bkM b r
      · rw [if_pos c]; simp only [c, if_true]; rw [if_pos (by omega)]
      · rw [if_neg c]; simp only [c, if_false]
  unfold x7_namedInForce
  rw [he]
  exact lp F.1 0 (by omega)
theorem tka {lv n : Nat} (hlv : lv ≤ 6) (hn : n ≤ 143) (e : Nat) : ∀ j i, i + j = n → ∀ S, S.2.1 11 lv = nI n → ∃ S', x7_takeAway_h25 (j + 1 + e) S (nI lv) (nI (144 * lv)) (nI i) = some S' ∧ fr [] [10] S S' ∧ (∀ q, q < 144 * lv + i → S'.2.1 10 q = S.2.1 10 q) ∧ (∀ q, i ≤ q → q < n → S'.2.1 10 (144 * lv + q) = S.2.1 10 (144 * lv + q + 1)) := by
  intro j
  induction j with
  | zero => intro i h S hS; exact ⟨S, by rw [show 0 + 1 + e = e + 1 by omega, x7_takeAway_h25, G_in (by omega) (by decide), nI_clamp (by omega), hS, if_pos (nI_le (by omega) (by omega))], fr_rfl _ _ _, fun _ _ => rfl, fun q h1 h2 => by omega⟩
  | succ j ih =>
    intro i h S hS
    obtain ⟨S', g1, g2, g4, g5⟩ := ih (i + 1) (by omega) (sA S 10 (upd (S.2.1 10) (144 * lv + i) (S.2.1 10 (144 * lv + i + 1)))) hS
    refine ⟨S', ?_, fr_tr (fr_A S _ (by decide)) g2, fun q hq => ?_, fun q h1 h2 => ?_⟩
    · rw [← g1, show j + 1 + 1 + e = (j + 1 + e) + 1 by omega, x7_takeAway_h25, G_in (by omega) (by decide), nI_clamp (by omega), hS, if_neg (nI_ge (by omega) (by omega))]
      simp only [nI_add, nI_1, G_in (show 144 * lv + i + 1 < 1008 by omega) (by decide : 1008 < 2 ^ 31), G_in (show 144 * lv + i < 1008 by omega) (by decide : 1008 < 2 ^ 31), nI_clamp (show 144 * lv + i < 2 ^ 31 by omega), nI_clamp (show 144 * lv + i + 1 < 2 ^ 31 by omega)]
    · rw [g4 q (by omega)]; show upd (S.2.1 10) (144 * lv + i) _ q = _; rw [pk_un (by omega)]
    · by_cases c : q = i
      · rw [c, g4 (144 * lv + i) (by omega)]; show upd (S.2.1 10) (144 * lv + i) _ (144 * lv + i) = _; rw [pk_us]
      · rw [g5 q (by omega) h2]; show upd (S.2.1 10) (144 * lv + i) _ (144 * lv + q + 1) = _; rw [pk_un (by omega)]
theorem xcm {S : ST} {b : BK} {F : FL} {k i L : Nat} (hE : BE S b) (hb : okB b) (hF : okF b F) (h144 : F.1 < 144) (hk : k < bkN b) (hi : i < bkR b k) (hL : L ≤ 5) (hX : inX S b (L + 1) F) (n : Nat) : ∃ S', x7_enforceText_h66 (n + 1) S (nI k) (nI L) (nI (144 * (L + 1))) (nI (tb b k + i)) = x7_enforceText_h66 n S' (nI k) (nI L) (nI (144 * (L + 1))) (nI (tb b k + (i + 1))) ∧ fr [] [10, 11] S S' ∧ fl L S S' ∧ inX S' b (L + 1) (com b (24 * k + i) F) := by
  have h6 := hb.1
  have h24 := (hb.2.1 k hk).2
  have hr := used_i hk hi h24
  have htb := tb_le hb (k + 1) (by omega)
  have htb' : tb b (k + 1) = tb b k + bkR b k := rfl
  have hxr : xr b (24 * k + i) = tb b k + i := xr_i (by omega)
  have h5 : bkS b (24 * k + i) ≤ 5 := (okB_u hb hr).1
  have hn := nif hE hb hF (by omega) hr (show L + 1 ≤ 6 by omega) hX
  have hEr := hE.2.2 _ hr
  rw [hxr] at hEr
  rw [x7_enforceText_h66, G_in (by omega) (by decide), nI_clamp (by omega), (hE.2.1 k hk).2, if_neg (nI_ge (by omega) (by omega)), G_in (by omega) (by decide), nI_clamp (by omega), nI_1, hEr.2, hn, cal_s, G_in (by omega) (by decide), hEr.1, com]
  unfold x7_enforceText_j181
  rw [nI_1, show tb b k + i + 1 = tb b k + (i + 1) by omega]
  generalize cmP b (24 * k + i) F = p
  by_cases c : p < F.1
  · simp only [c, if_true]
    by_cases c5 : bkS b (24 * k + i) = 5
    · rw [if_pos (by rw [c5]; rfl), if_pos c5]
      obtain ⟨e2, he2⟩ := FU_s (F.1 - 1 - p + 1) (by omega)
      obtain ⟨S', g1, g2, g4, g5⟩ := tka (lv := L + 1) (n := F.1 - 1) (by omega) (by omega) e2 (F.1 - 1 - p) p (by omega) (sA S 11 (upd (S.2.1 11) (L + 1) (nI (F.1 - 1)))) pk_us
      refine ⟨S', ?_, fr_tr (fr_A S _ (by decide)) (fr_sub (by decide) (by decide) g2), ⟨fun j hj => (g4 j (by omega)).trans rfl, fun j hj => ?_⟩, ?_, fun q hq => ?_⟩
      · unfold x7_takeAway
        rw [if_neg (nI_m1 (by omega)), G_in (by omega) (by decide), G_in (by omega) (by decide), nI_clamp (by omega), hX.1, show (1 : Int32) = nI 1 from rfl, pk_sub (by omega), show (144 : Int32) = nI 144 from rfl, pk_mul, Nat.mul_comm (L + 1) 144, he2, g1, calV_s]
      · rw [g2.2.1 11 (by decide)]; show upd (S.2.1 11) (L + 1) _ j = _; exact pk_un (by omega)
      · rw [g2.2.1 11 (by decide)]; exact pk_us
      · have hq : q < F.1 - 1 := hq
        show _ = nI (xr b (if q < p then F.2 q else F.2 (q + 1)))
        by_cases z : q < p
        · rw [if_pos z, g4 _ (by omega)]; exact hX.2 q (by omega)
        · rw [if_neg z, g5 q (by omega) hq]; exact hX.2 (q + 1) (by omega)
    · rw [if_neg (show ¬ nI (bkS b (24 * k + i)) = 5 from fun q => c5 ((nI_eq (by omega) (by decide)).mp (show _ = nI 5 from q))), if_neg c5, if_neg (nI_m1 (by omega)), nI_add, G_in (by omega) (by decide), nI_clamp (by omega)]
      refine ⟨_, rfl, fr_A S _ (by decide), ⟨fun j hj => pk_un (by omega), fun j hj => rfl⟩, hX.1, fun q hq => ?_⟩
      show upd (S.2.1 10) (144 * (L + 1) + p) (nI (tb b k + i)) (144 * (L + 1) + q) = nI (xr b (if q = p then 24 * k + i else F.2 q))
      by_cases z : q = p
      · rw [if_pos z, z, pk_us, hxr]
      · rw [if_neg z, pk_un (by omega)]; exact hX.2 q hq
  · simp only [c, if_false]
    by_cases c5 : bkS b (24 * k + i) = 5
    · rw [if_pos (by rw [c5]; rfl), if_pos c5]
      refine ⟨S, ?_, fr_rfl _ _ _, fl_rfl _ _, hX⟩
      unfold x7_takeAway
      rw [if_pos rfl, calV_s]
    · rw [if_neg (show ¬ nI (bkS b (24 * k + i)) = 5 from fun q => c5 ((nI_eq (by omega) (by decide)).mp (show _ = nI 5 from q))), if_neg c5, if_pos trivial]
      simp only [G_in (show L + 1 < 7 by omega) (by decide : 7 < 2 ^ 31), nI_clamp (show L + 1 < 2 ^ 31 by omega), hX.1, if_neg (show ¬ (144 : Int32) ≤ nI F.1 from nI_ge (b := 144) (by omega) (by decide)), nI_add, nI_1, G_in (show 144 * (L + 1) + F.1 < 1008 by omega) (by decide : 1008 < 2 ^ 31), nI_clamp (show 144 * (L + 1) + F.1 < 2 ^ 31 by omega)]
      refine ⟨_, rfl, fr_tr (fr_A S _ (by decide)) (fr_A _ _ (by decide)), ⟨fun j hj => pk_un (by omega), fun j hj => pk_un (by omega)⟩, ?_, fun q hq => ?_⟩
      · show upd (S.2.1 11) (L + 1) (S.2.1 11 (L + 1) + 1) (L + 1) = _; rw [pk_us, hX.1, nI_1]
      · have hq : q < F.1 + 1 := hq
        show upd (S.2.1 10) (144 * (L + 1) + F.1) (nI (tb b k + i)) (144 * (L + 1) + q) = nI (xr b (if q = F.1 then 24 * k + i else F.2 q))
        by_cases z : q = F.1
        · rw [if_pos z, z, pk_us, hxr]
        · rw [if_neg z, pk_un (by omega)]; exact hX.2 q (by omega)
theorem xtx_lp {b : BK} (hb : okB b) {k L : Nat} (hk : k < bkN b) (hL : L ≤ 5) (e : Nat) : ∀ j i, i + j = bkR b k → ∀ S F, BE S b → okF b F → F.1 ≤ 24 * L + i → inX S b (L + 1) F → ∃ S', x7_enforceText_h66 (j + 1 + e) S (nI k) (nI L) (nI (144 * (L + 1))) (nI (tb b k + i)) = some S' ∧ fr [] [10, 11] S S' ∧ fl L S S' ∧ inX S' b (L + 1) (comT b k j i F) := by
  have h6 := hb.1
  have h24 := (hb.2.1 k hk).2
  have htb := tb_le hb (k + 1) (by omega)
  have htb' : tb b (k + 1) = tb b k + bkR b k := rfl
  intro j
  induction j with
  | zero =>
    intro i h S F hE hF hl hX
    refine ⟨S, ?_, fr_rfl _ _ _, fl_rfl _ _, hX⟩
    rw [show 0 + 1 + e = e + 1 by omega, x7_enforceText_h66, G_in (by omega) (by decide), nI_clamp (by omega), (hE.2.1 k hk).2, if_pos (nI_le (by omega) (by omega))]
  | succ j ih =>
    intro i h S F hE hF hl hX
    obtain ⟨S1, g1, g2, g3, g4⟩ := xcm hE hb hF (by omega) hk (show i < bkR b k by omega) hL hX (j + 1 + e)
    have hc := com_ok (used_i hk (show i < bkR b k by omega) h24) hF
    obtain ⟨S2, k1, k2, k3, k4⟩ := ih (i + 1) (by omega) S1 _ (BE_fr g2 hE) hc.1 (by omega) g4
    exact ⟨S2, by rw [show j + 1 + 1 + e = (j + 1 + e) + 1 by omega, g1]; exact k1, fr_tr g2 k2, fl_tr g3 k3, k4⟩
theorem xtx {S : ST} {b : BK} {F : FL} (hb : okB b) {k L : Nat} (hk : k < bkN b) (hL : L ≤ 5) (hE : BE S b) (hF : okF b F) (hl : F.1 ≤ 24 * L) (hX : inX S b L F) : ∃ S', x7_enforceText S (nI k) (nI L) = some S' ∧ fr [] [10, 11] S S' ∧ fl L S S' ∧ inX S' b (L + 1) (comT b k (bkR b k) 0 F) := by
  have h6 := hb.1
  have h24 := (hb.2.1 k hk).2
  obtain ⟨e, he⟩ := FU_s (bkR b k + 1) (by omega)
  have hcp : cpyOK (nI (144 * L)) (nI (144 * (L + 1))) (nI 144) 1008 1008 = true := by
    unfold cpyOK
    rw [nI_clamp (show 144 * L < 2 ^ 31 by omega), nI_clamp (show 144 * (L + 1) < 2 ^ 31 by omega), show (nI 144).toNatClampNeg = 144 from rfl, decide_eq_true (nI_pos (by omega)), decide_eq_true (nI_pos (by omega)), decide_eq_true (by decide), decide_eq_true (by omega), decide_eq_true (by omega)]
    rfl
  have hcy : ∀ j, j < 144 * (L + 1) → va_cpy (S.2.1 10) (S.2.1 10) (144 * L) (144 * (L + 1)) 144 j = S.2.1 10 j := fun j hj => pk_cpy_out (Or.inl hj)
  have hcz : ∀ i, i < F.1 → va_cpy (S.2.1 10) (S.2.1 10) (144 * L) (144 * (L + 1)) 144 (144 * (L + 1) + i) = nI (xr b (F.2 i)) := fun i hi => by
    rw [pk_cpy_in (by omega) (by omega), show 144 * L + (144 * (L + 1) + i - 144 * (L + 1)) = 144 * L + i by omega]
    exact hX.2 i hi
  have f1 : fr [] [10, 11] S (sA (sA S 10 (va_cpy (S.2.1 10) (S.2.1 10) (144 * L) (144 * (L + 1)) 144)) 11 (upd (S.2.1 11) (L + 1) (S.2.1 11 L))) := fr_tr (fr_A _ _ (by decide)) (fr_A _ _ (by decide))
  have l1 : fl L S (sA (sA S 10 (va_cpy (S.2.1 10) (S.2.1 10) (144 * L) (144 * (L + 1)) 144)) 11 (upd (S.2.1 11) (L + 1) (S.2.1 11 L))) := ⟨hcy, fun j hj => pk_un (by omega)⟩
  obtain ⟨S', g1, g2, g3, g4⟩ := xtx_lp hb hk hL e (bkR b k) 0 (by omega) _ F (BE_fr f1 hE) hF (by omega) ⟨by show upd (S.2.1 11) (L + 1) (S.2.1 11 L) (L + 1) = _; rw [pk_us]; exact hX.1, hcz⟩
  refine ⟨S', ?_, fr_tr f1 g2, fl_tr l1 g3, g4⟩
  unfold x7_enforceText x7_enforceText_j60
  rw [show (144 : Int32) = nI 144 from rfl, pk_mul]
  simp only [nI_add, nI_1, show L * 144 = 144 * L by omega, show 144 * L + 144 = 144 * (L + 1) by omega]
  rw [G_t hcp, G_in (by omega) (by decide), G_in (by omega) (by decide)]
  simp only [nI_clamp (show 144 * L < 2 ^ 31 by omega), nI_clamp (show 144 * (L + 1) < 2 ^ 31 by omega), nI_clamp (show L + 1 < 2 ^ 31 by omega), nI_clamp (show L < 2 ^ 31 by omega), show (nI 144).toNatClampNeg = 144 from rfl]
  rw [he]
  by_cases c : k = 0
  · subst c
    rw [if_pos (show nI 0 ≤ 0 from by decide)]
    exact g1
  · rw [if_neg (show ¬ nI k ≤ 0 from nI_ge (a := 0) (by omega) (by omega)), show (1 : Int32) = nI 1 from rfl, pk_sub (by omega), G_in (by omega) (by decide), nI_clamp (by omega)]
    have e9 : S.2.1 9 (k - 1) = nI (tb b k + 0) := by rw [(hE.2.1 (k - 1) (by omega)).2, show k - 1 + 1 = k by omega]; rfl
    show x7_enforceText_h66 _ _ _ _ _ (S.2.1 9 (k - 1)) = _
    rw [e9]
    exact g1
theorem full6 {b : BK} (hb : okB b) {d : Nat} : ∀ j k F, k + j = bkN b → lvK b d k = 6 → comD b d j k F = F ∧ lvD b (d + 1) = 6 := by
  have h6 := hb.1
  intro j
  induction j with
  | zero => intro k F h h1; rw [show k = bkN b by omega, lvK_n] at h1; exact ⟨rfl, h1⟩
  | succ j ih =>
    intro k F h h1
    have c : bkD b k ≠ d := fun c => by have := lvK_lt b (show k < bkN b by omega) c; omega
    rw [comD, if_neg c]
    exact ih (k + 1) F (by omega) (by rw [lvK_no b c]; exact h1)
theorem xall_h12 {b : BK} (hb : okB b) {d : Nat} (hd : d < 100) (K : ST → Int32 → Int32 → Option ST) (e : Nat) : ∀ j k, k + j = bkN b → ∀ S F, BE S b → okF b F → F.1 ≤ 24 * lvK b d k → inX S b (lvK b d k) F → ∃ S', x7_enforceAll_h12 K (j + 1 + e) S (nI (lvK b d k)) (nI d) (nI k) = K S' (nI (lvD b (d + 1))) (nI d) ∧ fr [] [10, 11] S S' ∧ fl (lvK b d k) S S' ∧ inX S' b (lvD b (d + 1)) (comD b d j k F) := by
  have h6 := hb.1
  intro j
  induction j with
  | zero =>
    intro k h S F hE hF hl hX
    have hk : k = bkN b := by omega
    subst hk
    rw [lvK_n] at *
    refine ⟨S, ?_, fr_rfl _ _ _, fl_rfl _ _, hX⟩
    rw [show 0 + 1 + e = e + 1 by omega, x7_enforceAll_h12, hE.1, if_pos (nI_le (by omega) (by omega))]
  | succ j ih =>
    intro k h S F hE hF hl hX
    have hk : k < bkN b := by omega
    have h24 := hb.2.1 k hk
    have hlv : lvK b d k ≤ bkN b := cnP_le _ _
    by_cases c6 : lvK b d k = 6
    · obtain ⟨w1, w2⟩ := full6 hb (j + 1) k F h c6
      rw [w1, w2, c6]
      rw [c6] at hX
      refine ⟨S, ?_, fr_rfl _ _ _, fl_rfl _ _, hX⟩
      rw [show j + 1 + 1 + e = (j + 1 + e) + 1 by omega, x7_enforceAll_h12, hE.1, if_neg (nI_ge (by omega) (by omega)), if_pos (show (6 : Int32) ≤ nI 6 from by decide)]
    rw [comD]
    by_cases c : bkD b k = d
    · have hlt := lvK_lt b hk c
      obtain ⟨S1, g1, g2, g3, g4⟩ := xtx hb hk (show lvK b d k ≤ 5 by omega) hE hF hl hX
      have hc := comT_ok hk h24.2 (bkR b k) 0 F (by omega) hF
      have hy := lvK_y b hk c
      obtain ⟨S2, k1, k2, k3, k4⟩ := ih (k + 1) (by omega) S1 _ (BE_fr g2 hE) hc.1 (by rw [hy]; omega) (by rw [hy]; exact g4)
      rw [if_pos c]
      refine ⟨S2, ?_, fr_tr g2 k2, fl_tr g3 (fl_le (by omega) k3), k4⟩
      rw [← k1, show j + 1 + 1 + e = (j + 1 + e) + 1 by omega, x7_enforceAll_h12, hE.1, if_neg (nI_ge (by omega) (by omega)), if_neg (show ¬ (6 : Int32) ≤ nI (lvK b d k) from nI_ge (b := 6) (by omega) (by decide)), G_in (by omega) (by decide), nI_clamp (by omega), (hE.2.1 k hk).1, if_pos (by rw [c]), g1, calV_s]
      unfold x7_enforceAll_j45
      rw [nI_1, nI_1, hy]
    · rw [if_neg c]
      have hy := lvK_no b (k := k) c
      obtain ⟨S2, k1, k2, k3, k4⟩ := ih (k + 1) (by omega) S F hE hF (by rw [hy]; exact hl) (by rw [hy]; exact hX)
      rw [hy] at k1 k3
      refine ⟨S2, ?_, k2, k3, k4⟩
      rw [← k1, show j + 1 + 1 + e = (j + 1 + e) + 1 by omega, x7_enforceAll_h12, hE.1, if_neg (nI_ge (by omega) (by omega)), if_neg (show ¬ (6 : Int32) ≤ nI (lvK b d k) from nI_ge (b := 6) (by omega) (by decide)), G_in (by omega) (by decide), nI_clamp (by omega), (hE.2.1 k hk).1, if_neg (fun q => c ((nI_eq (by omega) (by omega)).mp q))]
      unfold x7_enforceAll_j45
      rw [nI_1]
theorem cnP_mono {p q : Nat → Bool} (h : ∀ i, p i = true → q i = true) : ∀ n, cnP p n ≤ cnP q n := by
  intro n
  induction n with
  | zero => exact Nat.le_refl _
  | succ n ih =>
    rw [cnP, cnP]
    have : (p n).toNat ≤ (q n).toNat := by
      cases c : p n
      · exact Nat.zero_le _
      · rw [h n c]; exact Nat.le_refl _
    omega
theorem xall_h4 {b : BK} (hb : okB b) (e : Nat) : ∀ j D, D + j = 100 → ∀ S, BE S b → (∀ D', D' ≤ D → inX S b (lvD b D') (AL b D')) → ∃ S', x7_enforceAll_h4 (j + 1 + e) S (nI (lvD b D)) (nI D) = some S' ∧ fr [] [10, 11] S S' ∧ ∀ D', D' ≤ 100 → inX S' b (lvD b D') (AL b D') := by
  have h6 := hb.1
  intro j
  induction j with
  | zero =>
    intro D h S hE hX
    refine ⟨S, ?_, fr_rfl _ _ _, fun D' h' => hX D' (by omega)⟩
    rw [show 0 + 1 + e = e + 1 by omega, x7_enforceAll_h4, if_pos (show (100 : Int32) ≤ nI D from nI_le (a := 100) (by omega) (by omega))]
  | succ j ih =>
    intro D h S hE hX
    obtain ⟨e2, he2⟩ := FU_s (bkN b + 1) (by omega)
    have ho := AL_ok hb D
    obtain ⟨S1, g1, g2, g3, g4⟩ := xall_h12 hb (d := D) (by omega) (x7_enforceAll_j51 (x7_enforceAll_h4 (j + 1 + e))) e2 (bkN b) 0 (by omega) S (AL b D) hE ho.1 (by rw [lvK_0]; exact ho.2) (by rw [lvK_0]; exact hX D (by omega))
    rw [lvK_0] at g1 g3
    obtain ⟨S2, k1, k2, k3⟩ := ih (D + 1) (by omega) S1 (BE_fr g2 hE) (fun D' h' => by
      by_cases c : D' = D + 1
      · rw [c]; exact g4
      · refine inX_fl ?_ (AL_le hb D') g3 (hX D' (by omega))
        exact cnP_mono (fun i hi => by
          simp only [decide_eq_true_eq] at hi ⊢; omega) (bkN b))
    refine ⟨S2, ?_, fr_tr g2 k2, k3⟩
    rw [← k1, show j + 1 + 1 + e = (j + 1 + e) + 1 by omega, x7_enforceAll_h4, if_neg (show ¬ (100 : Int32) ≤ nI D from nI_ge (b := 100) (by omega) (by decide)), he2, show (0 : Int32) = nI 0 from rfl, g1]
    unfold x7_enforceAll_j51
    rw [nI_1]
theorem lvD_0 (b : BK) : lvD b 0 = 0 := by
  unfold lvD
  have : ∀ n, cnP (fun k => decide (bkD b k < 0)) n = 0 := by
    intro n
    induction n with
    | zero => rfl
    | succ n ih => rw [cnP, ih, decide_eq_false (by omega)]; rfl
  exact this _
theorem xall {S : ST} {b : BK} (hb : okB b) (hE : BE S b) (h0 : S.2.1 11 0 = 0) : ∃ S', x7_enforceAll S = some S' ∧ fr [] [10, 11] S S' ∧ ∀ D', D' ≤ 100 → inX S' b (lvD b D') (AL b D') := by
  obtain ⟨e, he⟩ := FU_s (100 + 1) (by omega)
  obtain ⟨S', g1, g2, g3⟩ := xall_h4 hb e 100 0 (by omega) S hE (fun D' h' => by
    rw [show D' = 0 by omega, lvD_0]
    exact ⟨h0, fun i hi => absurd hi (Nat.not_lt_zero i)⟩)
  rw [lvD_0] at g1
  refine ⟨S', ?_, g2, g3⟩
  unfold x7_enforceAll
  rw [he]
  exact g1
