def pz (c : Nat → Nat) (t : Nat) : Nat → Nat
  | 0 => 0
  | q + 1 => if eB c t (pz c t q) < t then lexE c t (eB c t (pz c t q)) else t
def tP (c : Nat → Nat) (t q : Nat) : Nat := eB c t (pz c t q)
def tK (c : Nat → Nat) (t q : Nat) : Nat := if tP c t q < t then lexK c t (tP c t q) else 37
def tV (c : Nat → Nat) (t q : Nat) : Nat := dgv c (tP c t q) (eD c t (tP c t q) - tP c t q)
def tN (c : Nat → Nat) (t q : Nat) : List Nat := nml c (tP c t q) (eL c t (tP c t q) - tP c t q)
theorem eB_r {c : Nat → Nat} {t i : Nat} (h : i ≤ t) : i ≤ eB c t i ∧ eB c t i ≤ t := by
  have h1 := fnd_lo (fun x => !isBb (c x)) (t - i) i
  have h2 := fnd_le (fun x => !isBb (c x)) (t - i) i
  unfold eB
  omega
theorem eB_nb {c : Nat → Nat} {t i : Nat} (hi : i ≤ t) (h : eB c t i < t) : isBb (c (eB c t i)) = false := by
  have := fnd_yes (fun x => !isBb (c x)) (t - i) i (by unfold eB at h; omega)
  unfold eB
  simpa using this
theorem eB_s {c : Nat → Nat} {t i : Nat} (h : i < t) (hb : isBb (c i) = true) : eB c t (i + 1) = eB c t i := by
  unfold eB
  rw [show t - i = (t - (i + 1)) + 1 by omega, fnd, hb]
  rfl
theorem eB_0 {c : Nat → Nat} {t i : Nat} (h : i < t) (hb : isBb (c i) = false) : eB c t i = i := by
  unfold eB
  rw [show t - i = (t - (i + 1)) + 1 by omega, fnd, hb]
  rfl
theorem pz_le (c : Nat → Nat) (t : Nat) : ∀ q, pz c t q ≤ t := by
  intro q
  induction q with
  | zero => exact Nat.zero_le _
  | succ q ih =>
    rw [pz]
    by_cases a : eB c t (pz c t q) < t
    · rw [if_pos a]; exact (lexE_gt a).2
    · rw [if_neg a]; exact Nat.le_refl _
theorem tP_le (c : Nat → Nat) (t q : Nat) : tP c t q ≤ t := (eB_r (pz_le c t q)).2
theorem tK_le (c : Nat → Nat) (t q : Nat) : tK c t q ≤ 38 := by
  unfold tK
  split
  · exact (lexK_le c t _).1
  · decide
theorem tV_lt {c : Nat → Nat} {t q : Nat} (h : tK c t q = 25) : tV c t q < 10000 := by
  unfold tK at h
  split at h
  · have h2 := (lexK_25 h).2.2
    have hv : tV c t q < 10 ^ (eD c t (tP c t q) - tP c t q) := dgv_lt (fun x hx => eD_in x hx)
    have hp : 10 ^ (eD c t (tP c t q) - tP c t q) ≤ 10 ^ 4 := Nat.pow_le_pow_right (by decide) h2
    omega
  · omega
theorem tN_ok {c : Nat → Nat} {t q : Nat} (h : tK c t q = 24) : lets (tN c t q) ∧ (tN c t q).length ≤ 8 := by
  unfold tK at h
  split at h
  · have h2 := (lexK_24 h).2
    exact ⟨nml_lets (fun x hx => eL_in x hx), by unfold tN; rw [nml_len]; exact h2⟩
  · omega
def tokX (c : Nat → Nat) (t : Nat) (S : ST) (q : Nat) : Prop := S.2.1 35 q = nI (tK c t q) ∧ S.2.1 36 q = nI (tP c t q) ∧ (tK c t q = 25 → S.2.2 2 q = lN (tV c t q)) ∧ (tK c t q = 24 → S.2.2 2 q = lN (e32 (tN c t q)))
def tokM (c : Nat → Nat) (t : Nat) (T : ST) (q : Nat) : Prop := T.2.1 2 q = nI (kM (tK c t q)) ∧ T.2.1 3 q = nI (tP c t q) ∧ (tK c t q = 25 → T.2.1 4 q = nI (tV c t q)) ∧ (tK c t q = 24 → T.2.2 0 q = lN (e27 (tN c t q)))
theorem xcut_h9 {c : Nat → Nat} {t : Nat} (e : Nat) : ∀ j q S, q + j = 401 → S.1 27 = nI q → BYX c t S → (∀ q', q' < q → tokX c t S q' ∧ tK c t q' ≠ 37 ∧ tK c t q' ≠ 38) → ∃ S' nx, x10_cut_h9 (j + 1 + e) S (nI (pz c t q)) 1 = some S' ∧ g3 [27] [35, 36] [2] S S' ∧ S'.1 27 = nI nx ∧ q ≤ nx ∧ (q < 401 → q < nx) ∧ nx ≤ 401 ∧ (∀ q', q' < nx → tokX c t S' q') ∧ (∀ q', q' + 1 < nx → tK c t q' ≠ 37 ∧ tK c t q' ≠ 38) ∧ (nx = 401 ∨ tK c t (nx - 1) = 37 ∨ tK c t (nx - 1) = 38) := by
  intro j
  induction j with
  | zero =>
    intro q S h e27 hB hT
    refine ⟨S, q, ?_, g3_rfl _ _ _ _, e27, Nat.le_refl _, fun z => by omega, by omega, fun q' h' => (hT q' h').1, fun q' h' => (hT q' (by omega)).2, Or.inl (by omega)⟩
    rw [show 0 + 1 + e = e + 1 by omega, x10_cut_h9, if_neg (by decide), e27, if_pos (show (401 : Int32) ≤ nI q from nI_le (a := 401) (by omega) (by omega))]
  | succ j ih =>
    intro q S h e27 hB hT
    have ht := hB.2.1
    have hq : q < 401 := by omega
    rw [show j + 1 + 1 + e = (j + 1 + e) + 1 by omega, x10_cut_h9, if_neg (by decide), e27, if_neg (show ¬ (401 : Int32) ≤ nI q from nI_ge (b := 401) hq (by decide)), xblk hB (pz_le c t q), cal_s, e27, G_in hq (by decide), nI_clamp (by omega)]
    have hp : eB c t (pz c t q) = tP c t q := rfl
    rw [hp]
    have e27a : (sA S 36 (upd (S.2.1 36) q (nI (tP c t q)))).1 27 = nI q := e27
    simp only [e27a, G_in hq (by decide : 401 < 2 ^ 31), nI_clamp (show q < 2 ^ 31 by omega)]
    have fS2 : g3 [27] [35, 36] [2] S (sL (sA S 36 (upd (S.2.1 36) q (nI (tP c t q)))) 2 (vp_updL ((sA S 36 (upd (S.2.1 36) q (nI (tP c t q)))).2.2 2) q 0)) := g3_tr (g3_A _ _ (by decide)) (g3_L _ _ (by decide))
    have hone : ∃ S3 i', x10_cutOne (sL (sA S 36 (upd (S.2.1 36) q (nI (tP c t q)))) 2 (vp_updL ((sA S 36 (upd (S.2.1 36) q (nI (tP c t q)))).2.2 2) q 0)) (nI (tP c t q)) = some (nI i', S3) ∧ g3 [27] [35, 36] [2] S S3 ∧ S3.1 27 = nI q ∧ (∀ j, j ≠ q → S3.2.1 35 j = S.2.1 35 j ∧ S3.2.1 36 j = S.2.1 36 j ∧ S3.2.2 2 j = S.2.2 2 j) ∧ tokX c t S3 q ∧ (tK c t q ≠ 37 → tK c t q ≠ 38 → i' = pz c t (q + 1)) := by
      have hB2 := BYX_g (by decide) (by decide) fS2 hB
      by_cases a : tP c t q < t
      · obtain ⟨S3, i', g1, g2, g3', g4, g5, g6, g7⟩ := xone hB2 a hq (show (sL (sA S 36 (upd (S.2.1 36) q (nI (tP c t q)))) 2 (vp_updL ((sA S 36 (upd (S.2.1 36) q (nI (tP c t q)))).2.2 2) q 0)).1 27 = nI q from e27)
        have hk : tK c t q = lexK c t (tP c t q) := by unfold tK; rw [if_pos a]
        refine ⟨S3, i', g1, g3_tr fS2 (g3_sub (by decide) (by decide) (by decide) g2), (g2.1 27 (by decide)).trans e27, fun j hj => ⟨(g3' j hj).1, ?_, ?_⟩, ⟨by rw [hk]; exact g4, ?_, fun z => g5 (by rw [← hk]; exact z), fun z => g6 (by rw [← hk]; exact z)⟩, fun _ z => ?_⟩
        · rw [g2.2.1 36 (by decide)]; exact pk_un hj
        · rw [(g3' j hj).2]; exact pk_uLn hj
        · rw [g2.2.1 36 (by decide)]; exact pk_us
        · rw [g7 (by rw [← hk]; exact z), pz]; show _ = if tP c t q < t then _ else _; rw [if_pos a]; rfl
      · have hk : tK c t q = 37 := by unfold tK; rw [if_neg a]
        have hpe : tP c t q = t := by have := tP_le c t q; omega
        refine ⟨_, tP c t q, ?_, g3_tr fS2 (g3_A (k := 35) _ (upd (S.2.1 35) q 37) (by decide)), e27, fun j hj => ⟨pk_un hj, pk_un hj, pk_uLn hj⟩, ⟨by rw [hk]; exact pk_us, pk_us, fun z => by omega, fun z => by omega⟩, fun z => absurd hk z⟩
        unfold x10_cutOne
        rw [hpe, bx_n (hpe ▸ hB2) (by omega) (by omega), cal_s, if_pos rfl, keep_y (S := sL (sA S 36 (upd (S.2.1 36) q (nI t))) 2 (vp_updL ((sA S 36 (upd (S.2.1 36) q (nI t))).2.2 2) q 0)) hq e27, cal_s]
        rfl
    obtain ⟨S3, i', g1, g2, g3', g4, g5, g6⟩ := hone
    have hB3 := BYX_g (by decide) (by decide) g2 hB
    rw [g1, cal_s, g3', G_in hq (by decide), nI_clamp (by omega), g5.1]
    unfold x10_cut_j90 x10_cut_j91
    simp only [g3', nI_1]
    have old : ∀ q', q' < q → tokX c t (sI S3 27 (nI (q + 1))) q' := fun q' h' => by
      obtain ⟨o1, o2, o3⟩ := g4 q' (by omega)
      show tokX c t S3 q'
      unfold tokX
      rw [o1, o2, o3]
      exact (hT q' h').1
    have all : ∀ q', q' < q + 1 → tokX c t (sI S3 27 (nI (q + 1))) q' := fun q' h' => by
      by_cases z : q' = q
      · rw [z]; exact g5
      · exact old q' (by omega)
    have fin : tK c t q = 37 ∨ tK c t q = 38 → ∃ S' nx, x10_cut_h9 (j + 1 + e) (sI S3 27 (nI (q + 1))) (nI i') 0 = some S' ∧ g3 [27] [35, 36] [2] S S' ∧ S'.1 27 = nI nx ∧ q ≤ nx ∧ (q < 401 → q < nx) ∧ nx ≤ 401 ∧ (∀ q', q' < nx → tokX c t S' q') ∧ (∀ q', q' + 1 < nx → tK c t q' ≠ 37 ∧ tK c t q' ≠ 38) ∧ (nx = 401 ∨ tK c t (nx - 1) = 37 ∨ tK c t (nx - 1) = 38) := fun z => by
      refine ⟨sI S3 27 (nI (q + 1)), q + 1, ?_, g3_tr g2 (g3_I _ _ (by decide)), rfl, by omega, fun _ => by omega, by omega, all, fun q' h' => (hT q' (by omega)).2, Or.inr z⟩
      rw [show j + 1 + e = (j + e) + 1 by omega, x10_cut_h9, if_pos rfl]
    have hkl := tK_le c t q
    by_cases k37 : tK c t q = 37
    · rw [if_pos (by rw [k37]; rfl)]
      exact fin (Or.inl k37)
    · rw [if_neg (show ¬ nI (tK c t q) = 37 from fun z => k37 ((nI_eq (b := 37) (by omega) (by decide)).mp z)), G_in hq (by decide)]
      by_cases k38 : tK c t q = 38
      · rw [if_pos (by rw [k38]; rfl)]
        exact fin (Or.inr k38)
      · rw [if_neg (show ¬ nI (tK c t q) = 38 from fun z => k38 ((nI_eq (b := 38) (by omega) (by decide)).mp z)), g6 k37 k38]
        obtain ⟨S', nx, k1, k2, k3, k4, k5, k6, k7, k8, k9⟩ := ih (q + 1) (sI S3 27 (nI (q + 1))) (by omega) rfl (BYX_g (I := [27]) (A := []) (L := []) (by decide) (by decide) (g3_I _ _ (by decide)) hB3) (fun q' h' => ⟨all q' h', by
          by_cases z : q' = q
          · rw [z]; exact ⟨k37, k38⟩
          · exact (hT q' (by omega)).2⟩)
        exact ⟨S', nx, k1, g3_tr g2 (g3_tr (g3_I _ _ (by decide)) k2), k3, by omega, fun _ => by omega, k6, k7, k8, k9⟩
theorem mcut_h7 {c : Nat → Nat} {t : Nat} (e : Nat) : ∀ r i q T, i ≤ t → t - i ≤ r → q ≤ 401 → eB c t i = tP c t q → T.1 3 = nI q → BYM c t T → (∀ k, k < 24 → T.2.2 1 k = lN (keyT.getD k 0)) → (∀ q', q' < q → tokM c t T q') → ∃ T' n', m_cut_h7 m_cut_j31 (r + 1 + e) T (nI i) = some T' ∧ g3 [3] [2, 3, 4] [0] T T' ∧ T'.1 3 = nI n' ∧ q ≤ n' ∧ n' ≤ 401 ∧ (∀ q', q' < n' → tokM c t T' q') ∧ (n' = 401 ∨ (1 ≤ n' ∧ tK c t (n' - 1) = 37)) := by
  intro r
  induction r with
  | zero =>
    intro i q T hi hr hq hp h3 hB hk hT
    have ht := hB.2.1
    have hit : i = t := by omega
    subst hit
    by_cases c4 : q = 401
    · refine ⟨T, q, ?_, g3_rfl _ _ _ _, h3, Nat.le_refl _, hq, hT, Or.inl c4⟩
      rw [show 0 + 1 + e = e + 1 by omega, m_cut_h7, h3, if_pos (show (400 : Int32) < nI q from nI_lt (a := 400) (by omega) (by omega))]
    · have hpe : tP c i q = i := by rw [← hp]; have := eB_r (c := c) (Nat.le_refl i); omega
      have hk37 : tK c i q = 37 := by unfold tK; rw [if_neg (by omega)]
      refine ⟨tkM T q 0 (nI i) 0 0, q + 1, ?_, tkM_g _ _ _ _ _ _, rfl, by omega, by omega, fun q' h' => ?_, Or.inr ⟨by omega, hk37⟩⟩
      · rw [show 0 + 1 + e = e + 1 by omega, m_cut_h7, h3, if_neg (show ¬ (400 : Int32) < nI q from nI_nlt (a := 400) (by omega) (by decide)), bm_n hB (Nat.le_refl _) (by omega), cal_s, hB.1, if_neg (nI_nlt (Nat.le_refl _) (by omega))]
        unfold m_cut_j31
        rw [tok_y (by omega) h3, calV_s, hB.1]
      · by_cases z : q' = q
        · subst z
          exact ⟨by rw [hk37]; exact pk_us, by rw [hpe]; exact pk_us, fun z => by omega, fun z => by omega⟩
        · unfold tokM
          rw [show (tkM T q 0 (nI i) 0 0).2.1 2 q' = T.2.1 2 q' from pk_un z, show (tkM T q 0 (nI i) 0 0).2.1 3 q' = T.2.1 3 q' from pk_un z, show (tkM T q 0 (nI i) 0 0).2.1 4 q' = T.2.1 4 q' from pk_un z, show (tkM T q 0 (nI i) 0 0).2.2 0 q' = T.2.2 0 q' from pk_uLn z]
          exact hT q' (by omega)
  | succ r ih =>
    intro i q T hi hr hq hp h3 hB hk hT
    have ht := hB.2.1
    by_cases c4 : q = 401
    · refine ⟨T, q, ?_, g3_rfl _ _ _ _, h3, Nat.le_refl _, hq, hT, Or.inl c4⟩
      rw [show r + 1 + 1 + e = (r + 1 + e) + 1 by omega, m_cut_h7, h3, if_pos (show (400 : Int32) < nI q from nI_lt (a := 400) (by omega) (by omega))]
    by_cases cit : i = t
    · subst cit
      have hpe : tP c i q = i := by rw [← hp]; have := eB_r (c := c) (Nat.le_refl i); omega
      have hk37 : tK c i q = 37 := by unfold tK; rw [if_neg (by omega)]
      refine ⟨tkM T q 0 (nI i) 0 0, q + 1, ?_, tkM_g _ _ _ _ _ _, rfl, by omega, by omega, fun q' h' => ?_, Or.inr ⟨by omega, hk37⟩⟩
      · rw [show r + 1 + 1 + e = (r + 1 + e) + 1 by omega, m_cut_h7, h3, if_neg (show ¬ (400 : Int32) < nI q from nI_nlt (a := 400) (by omega) (by decide)), bm_n hB (Nat.le_refl _) (by omega), cal_s, hB.1, if_neg (nI_nlt (Nat.le_refl _) (by omega))]
        unfold m_cut_j31
        rw [tok_y (by omega) h3, calV_s, hB.1]
      · by_cases z : q' = q
        · subst z
          exact ⟨by rw [hk37]; exact pk_us, by rw [hpe]; exact pk_us, fun z => by omega, fun z => by omega⟩
        · unfold tokM
          rw [show (tkM T q 0 (nI i) 0 0).2.1 2 q' = T.2.1 2 q' from pk_un z, show (tkM T q 0 (nI i) 0 0).2.1 3 q' = T.2.1 3 q' from pk_un z, show (tkM T q 0 (nI i) 0 0).2.1 4 q' = T.2.1 4 q' from pk_un z, show (tkM T q 0 (nI i) 0 0).2.2 0 q' = T.2.2 0 q' from pk_uLn z]
          exact hT q' (by omega)
    have hlt : i < t := by omega
    have hc := (hB.2.2 i hlt).2
    cases cb : isBb (c i)
    · have hpi : tP c t q = i := by rw [← hp]; exact eB_0 hlt cb
      obtain ⟨T1, g1, g2, g3', g4, g5, g6, g7, g8⟩ := mone hB hk hlt (show q < 401 by omega) h3 cb m_cut_j31 (r + 1 + e)
      have hE := lexE_gt (c := c) hlt
      have hkq : tK c t q = lexK c t i := by unfold tK; rw [hpi, if_pos hlt]
      obtain ⟨T', n', k1, k2, k3, k4, k5, k6, k7⟩ := ih (lexE c t i) (q + 1) T1 hE.2 (by omega) (by omega) (by
        unfold tP; rw [pz]; show _ = eB c t (if tP c t q < t then lexE c t (tP c t q) else t); rw [hpi, if_pos hlt]) g3' (BYM_g (by decide) (by decide) g2 hB) (fun k h => by rw [g2.2.2 1 (by decide)]; exact hk k h) (fun q' h' => by
        by_cases z : q' = q
        · rw [z]
          exact ⟨by rw [hkq]; exact g5, by rw [hpi]; exact g6, fun w => by unfold tV; rw [hpi]; exact g7 (by rw [← hkq]; exact w), fun w => by unfold tN; rw [hpi]; exact g8 (by rw [← hkq]; exact w)⟩
        · obtain ⟨o1, o2, o3, o4⟩ := g4 q' z
          unfold tokM
          rw [o1, o2, o3, o4]
          exact hT q' (by omega))
      exact ⟨T', n', by rw [show r + 1 + 1 + e = (r + 1 + e) + 1 by omega, g1]; exact k1, g3_tr g2 k2, k3, by omega, k5, k6, k7⟩
    · obtain ⟨T', n', k1, k2⟩ := ih (i + 1) q T (by omega) (by omega) hq (by rw [eB_s hlt cb]; exact hp) h3 hB hk hT
      refine ⟨T', n', ?_, k2⟩
      rw [← k1, show r + 1 + 1 + e = (r + 1 + e) + 1 by omega, m_cut_h7, h3, if_neg (show ¬ (400 : Int32) < nI q from nI_nlt (a := 400) (by omega) (by decide)), bm_y hB hlt, cal_s, hB.1, if_pos (nI_lt hlt (by omega))]
      unfold m_cut_j67 m_cut_j291
      rw [nI_1]
      unfold isBb at cb
      simp only [Bool.or_eq_true, decide_eq_true_eq] at cb
      by_cases z9 : c i = 9
      · rw [if_pos (show nI (c i) = 9 from by rw [z9]; rfl)]
      · rw [if_neg (show ¬ nI (c i) = 9 from fun z => z9 ((nI_eq (b := 9) (by omega) (by decide)).mp z))]
        by_cases z10 : c i = 10
        · rw [if_pos (show nI (c i) = 10 from by rw [z10]; rfl)]
        · rw [if_neg (show ¬ nI (c i) = 10 from fun z => z10 ((nI_eq (b := 10) (by omega) (by decide)).mp z))]
          by_cases z13 : c i = 13
          · rw [if_pos (show nI (c i) = 13 from by rw [z13]; rfl)]
          · rw [if_neg (show ¬ nI (c i) = 13 from fun z => z13 ((nI_eq (b := 13) (by omega) (by decide)).mp z))]
            have z32 : c i = 32 := by rcases cb with z | z | z | z <;> omega
            rw [if_pos (show nI (c i) = 32 from by rw [z32]; rfl)]
theorem xcut {c : Nat → Nat} {t : Nat} {S : ST} (h : BYX c t S) : ∃ S' nx, x10_cut S = some S' ∧ g3 [27] [35, 36] [2] S S' ∧ S'.1 27 = nI nx ∧ 1 ≤ nx ∧ nx ≤ 401 ∧ (∀ q', q' < nx → tokX c t S' q') ∧ (∀ q', q' + 1 < nx → tK c t q' ≠ 37 ∧ tK c t q' ≠ 38) ∧ (nx = 401 ∨ tK c t (nx - 1) = 37 ∨ tK c t (nx - 1) = 38) := by
  obtain ⟨e, he⟩ := FU_s (401 + 1) (by decide)
  obtain ⟨S', nx, k1, k2, k3, k4, k5, k6, k7, k8, k9⟩ := xcut_h9 e 401 0 (sI S 27 0) (by omega) rfl (BYX_g (I := [27]) (A := []) (L := []) (by decide) (by decide) (g3_I _ _ (by decide)) h) (fun q' h' => by omega)
  refine ⟨S', nx, ?_, g3_tr (g3_I _ _ (by decide)) k2, k3, k5 (by decide), k6, k7, k8, k9⟩
  unfold x10_cut
  rw [he]
  exact k1
theorem mcut {c : Nat → Nat} {t : Nat} {T : ST} (h : BYM c t T) (hk : ∀ k, k < 24 → T.2.2 1 k = lN (keyT.getD k 0)) : ∃ T' n', m_cut T = some T' ∧ g3 [3] [2, 3, 4] [0] T T' ∧ n' ≤ 401 ∧ (∀ q', q' < n' → tokM c t T' q') ∧ (n' = 401 ∨ (1 ≤ n' ∧ tK c t (n' - 1) = 37)) := by
  have ht := h.2.1
  obtain ⟨e, he⟩ := FU_s (t + 1) (by omega)
  obtain ⟨T', n', k1, k2, k3, k4, k5, k6, k7⟩ := mcut_h7 e t 0 0 (sI T 3 0) (by omega) (by omega) (by omega) rfl rfl (BYM_g (I := [3]) (A := []) (L := []) (by decide) (by decide) (g3_I _ _ (by decide)) h) hk (fun q' h' => by omega)
  refine ⟨T', n', ?_, g3_tr (g3_I _ _ (by decide)) k2, k5, k6, k7⟩
  unfold m_cut
  rw [he]
  exact k1
