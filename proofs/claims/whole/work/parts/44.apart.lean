def neq (S : ST) (w x i j : Nat) : Nat := if wW S w i = wW S x j then 0 else 1
def rowN (S : ST) (w x : Nat) (p : Nat → Nat) (i : Nat) : Nat → Nat
  | 0 => i + 1
  | j + 1 => min (p j + neq S w x i j) (min (p (j + 1) + 1) (rowN S w x p i j + 1))
def Dn (S : ST) (w x : Nat) : Nat → Nat → Nat
  | 0 => fun j => j
  | i + 1 => rowN S w x (Dn S w x i) i
theorem Dn_le (S : ST) (w x : Nat) : ∀ i j, Dn S w x i j ≤ i + j := by
  intro i
  induction i with
  | zero => intro j; show j ≤ 0 + j; omega
  | succ i ih =>
    intro j
    induction j with
    | zero => exact Nat.le_refl _
    | succ j ih2 => show min _ (min _ (Dn S w x (i + 1) j + 1)) ≤ _; omega
theorem Dn_s (S : ST) (w x i j : Nat) : Dn S w x (i + 1) (j + 1) = min (Dn S w x i j + neq S w x i j) (min (Dn S w x i (j + 1) + 1) (Dn S w x (i + 1) j + 1)) := rfl
theorem RK_pX {Sx S Sm : ST} (h : pX S = pX Sx) (hK : RK Sx Sm) : RK S Sm := by
  have : RK (rX (pX S)) Sm := by rw [h]; exact hK
  exact this
theorem dist_h52 {Sx Sm : ST} (hK : RK Sx Sm) {w x i : Nat} (hw : w < 3) (hx : x < 3) (hi : i < CK Sm w) (K : ST → Int32 → Int32 → Int32 → Option (Int32 × ST)) (e : Nat) : ∀ j jj, jj + j = CK Sm x → ∀ S, pX S = pX Sx → (∀ q, q ≤ jj → S.2.1 28 q = nI (Dn Sm w x (i + 1) q)) → (∀ q, jj < q → q ≤ CK Sm x → S.2.1 28 q = nI (Dn Sm w x i q)) → ∃ S', pX S' = pX Sx ∧ (∀ q, q ≤ CK Sm x → S'.2.1 28 q = nI (Dn Sm w x (i + 1) q)) ∧ x8_distance_h52 K (j + 1 + e) S (nI w) (nI x) (nI i) (nI (Dn Sm w x i jj)) (nI jj) = K S' (nI w) (nI x) (nI i) := by
  obtain ⟨hcw, -⟩ := RK_C hK hw
  obtain ⟨hcx, -⟩ := RK_C hK hx
  intro j
  induction j with
  | zero =>
    intro jj h S hp h1 h2
    have hK' := RK_pX hp hK
    refine ⟨S, hp, fun q hq => h1 q (by omega), ?_⟩
    rw [show 0 + 1 + e = e + 1 by omega, x8_distance_h52, lengthOf_y S hx, (RK_C hK' hx).2.1, cal_s, if_pos (nI_le (by omega) (by omega))]
  | succ j ih =>
    intro jj h S hp h1 h2
    have hK' := RK_pX hp hK
    have d1 := Dn_le Sm w x i jj
    have d2 := Dn_le Sm w x i (jj + 1)
    have d3 := Dn_le Sm w x (i + 1) jj
    have hne : neq Sm w x i jj ≤ 1 := by unfold neq; by_cases c : wW Sm w i = wW Sm x jj <;> simp [c]
    have go : ∃ S', pX S' = pX Sx ∧ (∀ q, q ≤ CK Sm x → S'.2.1 28 q = nI (Dn Sm w x (i + 1) q)) ∧ x8_distance_j92 (x8_distance_h52 K (j + 1 + e)) K S (nI w) (nI x) (nI i) (nI jj) (nI (neq Sm w x i jj)) (nI (Dn Sm w x i jj)) = K S' (nI w) (nI x) (nI i) := by
      unfold x8_distance_j92
      simp only [nI_add, nI_1, G_in (show jj + 1 < 13 by omega) (by decide : 13 < 2 ^ 31), G_in (show jj < 13 by omega) (by decide : 13 < 2 ^ 31), nI_clamp (show jj + 1 < 2 ^ 31 by omega), nI_clamp (show jj < 2 ^ 31 by omega), h1 jj (Nat.le_refl _), h2 (jj + 1) (by omega) (by omega)]
      have e1 : (if nI (Dn Sm w x (i + 1) jj) < nI (Dn Sm w x i (jj + 1)) then nI (Dn Sm w x (i + 1) jj) else nI (Dn Sm w x i (jj + 1))) = nI (min (Dn Sm w x i (jj + 1)) (Dn Sm w x (i + 1) jj)) := by
        by_cases c : Dn Sm w x (i + 1) jj < Dn Sm w x i (jj + 1)
        · rw [if_pos (nI_lt c (by omega)), Nat.min_eq_right (by omega)]
        · rw [if_neg (nI_nlt (by omega) (by omega)), Nat.min_eq_left (by omega)]
      simp only [e1, show (1 : Int32) = nI 1 from rfl, nI_add]
      have e2 : (if nI (1 + min (Dn Sm w x i (jj + 1)) (Dn Sm w x (i + 1) jj)) < nI (Dn Sm w x i jj + neq Sm w x i jj) then nI (1 + min (Dn Sm w x i (jj + 1)) (Dn Sm w x (i + 1) jj)) else nI (Dn Sm w x i jj + neq Sm w x i jj)) = nI (Dn Sm w x (i + 1) (jj + 1)) := by
        rw [Dn_s]
        by_cases c : 1 + min (Dn Sm w x i (jj + 1)) (Dn Sm w x (i + 1) jj) < Dn Sm w x i jj + neq Sm w x i jj
        · rw [if_pos (nI_lt c (by omega))]; congr 1; omega
        · rw [if_neg (nI_nlt (by omega) (by omega))]; congr 1; omega
      rw [e2]
      refine ih (jj + 1) (by omega) _ hp (fun q hq => ?_) (fun q hq hq2 => ?_)
      · show upd (S.2.1 28) (jj + 1) _ q = _
        by_cases c : q = jj + 1
        · rw [c, pk_us]
        · rw [pk_un c]; exact h1 q (by omega)
      · show upd (S.2.1 28) (jj + 1) _ q = _
        rw [pk_un (by omega)]; exact h2 q (by omega) hq2
    obtain ⟨S', hp', h', hr⟩ := go
    refine ⟨S', hp', h', ?_⟩
    rw [← hr, show j + 1 + 1 + e = (j + 1 + e) + 1 by omega, x8_distance_h52, lengthOf_y S hx, (RK_C hK' hx).2.1, cal_s, if_neg (nI_ge (by omega) (by omega)), if_neg (show ¬ (12 : Int32) ≤ nI jj from nI_ge (b := 12) (by omega) (by decide)), wordAt_y hK' hw hi, cal_s, wordAt_y hK' hx (show jj < CK Sm x by omega), cal_s]
    unfold neq
    by_cases c : wW Sm w i = wW Sm x jj
    · simp only [c, if_true]; rfl
    · simp only [c, if_false]; rfl
theorem dist_h23 {Sx Sm : ST} (hK : RK Sx Sm) {w x : Nat} (hw : w < 3) (hx : x < 3) (K : ST → Int32 → Option (Int32 × ST)) (e : Nat) : ∀ j i, i + j = CK Sm w → ∀ S, pX S = pX Sx → (∀ q, q ≤ CK Sm x → S.2.1 28 q = nI (Dn Sm w x i q)) → ∃ S', pX S' = pX Sx ∧ (∀ q, q ≤ CK Sm x → S'.2.1 28 q = nI (Dn Sm w x (CK Sm w) q)) ∧ x8_distance_h23 K (j + 1 + e) S (nI w) (nI x) (nI i) = K S' (nI x) := by
  obtain ⟨hcw, -⟩ := RK_C hK hw
  obtain ⟨hcx, -⟩ := RK_C hK hx
  intro j
  induction j with
  | zero =>
    intro i h S hp h1
    have hK' := RK_pX hp hK
    refine ⟨S, hp, fun q hq => by rw [h1 q hq, show i = CK Sm w by omega], ?_⟩
    rw [show 0 + 1 + e = e + 1 by omega, x8_distance_h23, lengthOf_y S hw, (RK_C hK' hw).2.1, cal_s, if_pos (nI_le (by omega) (by omega))]
  | succ j ih =>
    intro i h S hp h1
    have hK' := RK_pX hp hK
    obtain ⟨e2, he2⟩ := FU_s (CK Sm x + 1) (by omega)
    obtain ⟨S', hp', h', hr⟩ := dist_h52 hK hw hx (show i < CK Sm w by omega) (x8_distance_j140 (x8_distance_h23 K (j + 1 + e)) K) e2 (CK Sm x) 0 (by omega) (sA S 28 (upd (S.2.1 28) 0 (nI (i + 1)))) hp (fun q hq => by show upd (S.2.1 28) 0 _ q = _; rw [show q = 0 by omega, pk_us]; rfl) (fun q hq hq2 => by show upd (S.2.1 28) 0 _ q = _; rw [pk_un (by omega)]; exact h1 q hq2)
    obtain ⟨S2, hp2, h2, hr2⟩ := ih (i + 1) (by omega) S' hp' h'
    refine ⟨S2, hp2, h2, ?_⟩
    rw [← hr2, show j + 1 + 1 + e = (j + 1 + e) + 1 by omega, x8_distance_h23, lengthOf_y S hw, (RK_C hK' hw).2.1, cal_s, if_neg (nI_ge (by omega) (by omega)), G_t (show inb 0 13 = true from rfl)]
    simp only [z0, h1 0 (by omega), nI_1, he2, G_t (show inb 0 13 = true from rfl)]
    refine Eq.trans hr ?_
    unfold x8_distance_j140
    rw [nI_1]
theorem dist_h2 {Sx : ST} (w x : Int32) (K : ST → Int32 → Int32 → Option (Int32 × ST)) (e : Nat) : ∀ j i, i + j = 13 → ∀ S, pX S = pX Sx → (∀ q, q < i → S.2.1 28 q = nI q) → ∃ S', pX S' = pX Sx ∧ (∀ q, q < 13 → S'.2.1 28 q = nI q) ∧ x8_distance_h2 K (j + 1 + e) S w x (nI i) = K S' w x := by
  intro j
  induction j with
  | zero =>
    intro i h S hp h1
    refine ⟨S, hp, fun q hq => h1 q (by omega), ?_⟩
    rw [show 0 + 1 + e = e + 1 by omega, x8_distance_h2, if_pos (show (12 : Int32) < nI i from nI_lt (a := 12) (by omega) (by omega))]
  | succ j ih =>
    intro i h S hp h1
    obtain ⟨S', hp', h', hr⟩ := ih (i + 1) (by omega) (sA S 28 (upd (S.2.1 28) i (nI i))) hp (fun q hq => by
      show upd (S.2.1 28) i _ q = _
      by_cases c : q = i
      · rw [c, pk_us]
      · rw [pk_un c]; exact h1 q (by omega))
    refine ⟨S', hp', h', ?_⟩
    rw [← hr, show j + 1 + 1 + e = (j + 1 + e) + 1 by omega, x8_distance_h2, if_neg (show ¬ (12 : Int32) < nI i from nI_nlt (a := 12) (by omega) (by decide)), G_in (by omega) (by decide), nI_clamp (by omega), nI_1]
theorem dist_eq {Sx Sm : ST} (hK : RK Sx Sm) {w x : Nat} (hw : w < 3) (hx : x < 3) : ∃ S', pX S' = pX Sx ∧ x8_distance Sx (nI w) (nI x) = some (nI (Dn Sm w x (CK Sm w) (CK Sm x)), S') := by
  obtain ⟨hcw, -⟩ := RK_C hK hw
  obtain ⟨hcx, -⟩ := RK_C hK hx
  obtain ⟨e1, he1⟩ := FU_s (13 + 1) (by omega)
  obtain ⟨e2, he2⟩ := FU_s (CK Sm w + 1) (by omega)
  obtain ⟨S1, p1, h1, r1⟩ := dist_h2 (Sx := Sx) (nI w) (nI x) x8_distance_j21 e1 13 0 (by omega) Sx rfl (fun q hq => absurd hq (Nat.not_lt_zero q))
  obtain ⟨S2, p2, h2, r2⟩ := dist_h23 hK hw hx x8_distance_j146 e2 (CK Sm w) 0 (by omega) S1 p1 (fun q hq => h1 q (by omega))
  refine ⟨S2, p2, ?_⟩
  unfold x8_distance
  rw [he1, show (0 : Int32) = nI 0 from rfl, r1]
  unfold x8_distance_j21
  rw [he2, show (0 : Int32) = nI 0 from rfl, r2]
  unfold x8_distance_j146
  rw [lengthOf_y S2 hx, (RK_C (RK_pX p2 hK) hx).2.1, cal_s, if_neg (nI_pos (by omega)), if_neg (show ¬ (12 : Int32) < nI (CK Sm x) from nI_nlt (a := 12) hcx (by decide)), G_in (by omega) (by decide), nI_clamp (by omega), h2 _ (Nat.le_refl _)]
/-! the reference's table -/
theorem pM_A {S Sm : ST} (h : pM S = pM Sm) : S.2.1 33 = Sm.2.1 33 ∧ S.2.1 34 = Sm.2.1 34 := by
  have : ((rM (pM S)).2.1 33 = (rM (pM Sm)).2.1 33) ∧ ((rM (pM S)).2.1 34 = (rM (pM Sm)).2.1 34) := by rw [h]; exact ⟨rfl, rfl⟩
  exact this
theorem ap_h35 {Sx Sm : ST} (hK : RK Sx Sm) {w x i : Nat} (hw : w < 3) (hx : x < 3) (hi : i ≤ CK Sm w) (K : ST → Int32 → Int32 → Int32 → Option (Int32 × ST)) (e : Nat) : ∀ j jj, jj + j = CK Sm x + 1 → ∀ S, pM S = pM Sm → (∀ a, a < i → ∀ q, q ≤ CK Sm x → S.2.1 35 (13 * a + q) = nI (Dn Sm w x a q)) → (∀ q, q < jj → S.2.1 35 (13 * i + q) = nI (Dn Sm w x i q)) → ∃ S', pM S' = pM Sm ∧ (∀ a, a < i + 1 → ∀ q, q ≤ CK Sm x → S'.2.1 35 (13 * a + q) = nI (Dn Sm w x a q)) ∧ m_apart_h35 K (j + 1 + e) S (nI w) (nI x) (nI i) (nI jj) = K S' (nI w) (nI x) (nI i) := by
  obtain ⟨hcw, -, kw, -⟩ := RK_C hK hw
  obtain ⟨hcx, -, kx, -⟩ := RK_C hK hx
  intro j
  induction j with
  | zero =>
    intro jj h S hp h1 h2
    refine ⟨S, hp, fun a ha q hq => ?_, ?_⟩
    · by_cases c : a = i
      · rw [c]; exact h2 q (by omega)
      · exact h1 a (by omega) q hq
    · rw [show 0 + 1 + e = e + 1 by omega, m_apart_h35, G_in hx (by decide), nI_clamp (by omega), (pM_A hp).2, kx, if_pos (nI_lt (by omega) (by omega))]
  | succ j ih =>
    intro jj h S hp h1 h2
    have go : ∃ S', pM S' = pM Sm ∧ (∀ a, a < i + 1 → ∀ q, q ≤ CK Sm x → S'.2.1 35 (13 * a + q) = nI (Dn Sm w x a q)) ∧ m_apart_j214 (m_apart_h35 K (j + 1 + e)) K S (nI w) (nI x) (nI i) (nI jj) (nI (Dn Sm w x i jj)) = K S' (nI w) (nI x) (nI i) := by
      obtain ⟨S', hp', h', hr⟩ := ih (jj + 1) (by omega) (sA S 35 (upd (S.2.1 35) (13 * i + jj) (nI (Dn Sm w x i jj)))) hp (fun a ha q hq => by
        show upd (S.2.1 35) (13 * i + jj) _ _ = _
        rw [pk_un (by omega)]; exact h1 a ha q hq) (fun q hq => by
        show upd (S.2.1 35) (13 * i + jj) _ _ = _
        by_cases c : q = jj
        · rw [c, pk_us]
        · rw [pk_un (by omega)]; exact h2 q (by omega))
      refine ⟨S', hp', h', ?_⟩
      rw [← hr]
      unfold m_apart_j214
      simp (disch := omega) only [G_in, nI_add, nI_1, pk_mul, pk_sub, pk_m1, nI_clamp, nI_leI, nI_ltI, nI_eq, cal_s, calV_s, cal0_s, if_pos, if_neg, show (13 : Int32) = nI 13 from rfl]
    obtain ⟨S', hp', h', hr⟩ := go
    refine ⟨S', hp', h', ?_⟩
    rw [← hr, show j + 1 + 1 + e = (j + 1 + e) + 1 by omega, m_apart_h35, G_in hx (by decide), nI_clamp (by omega), (pM_A hp).2, kx, if_neg (nI_nlt (by omega) (by omega))]
    unfold m_apart_j115 m_apart_j116 m_apart_j166
    rcases i with _ | i
    · simp only [show (nI 0 = (0 : Int32)) = True from eq_true rfl, show (nI 0 ≤ (0 : Int32)) = True from eq_true (by decide), if_true]
      rfl
    · simp only [nI_ne0 (show 0 < i + 1 by omega) (by omega), nI_nle (show 0 < i + 1 by omega) (by omega), if_false]
      rcases jj with _ | jj
      · simp only [show (nI 0 = (0 : Int32)) = True from eq_true rfl, show (nI 0 ≤ (0 : Int32)) = True from eq_true (by decide), if_true]
        rfl
      · simp only [nI_ne0 (show 0 < jj + 1 by omega) (by omega), nI_nle (show 0 < jj + 1 by omega) (by omega), if_false]
        have d1 := Dn_le Sm w x i jj
        have d2 := Dn_le Sm w x i (jj + 1)
        have d3 := Dn_le Sm w x (i + 1) jj
        have a1 : nI (13 * i + (jj + 1)) - 1 = nI (13 * i + jj) := by rw [← Nat.add_assoc, nI_pred]
        have a2 : (13 : Int32) * (nI (i + 1) - 1) + nI (jj + 1) = nI (13 * i + (jj + 1)) := by rw [nI_pred, show (13 : Int32) = nI 13 from rfl, pk_mul, nI_add]
        have a3 : (13 : Int32) * nI (i + 1) + nI (jj + 1) - 1 = nI (13 * (i + 1) + jj) := by rw [show (13 : Int32) = nI 13 from rfl, pk_mul, nI_add, ← Nat.add_assoc, nI_pred]
        have a4 : (12 : Int32) * nI w + nI (i + 1) - 1 = nI (12 * w + i) := by rw [show (12 : Int32) = nI 12 from rfl, pk_mul, nI_add, ← Nat.add_assoc, nI_pred]
        have a5 : (12 : Int32) * nI x + nI (jj + 1) - 1 = nI (12 * x + jj) := by rw [show (12 : Int32) = nI 12 from rfl, pk_mul, nI_add, ← Nat.add_assoc, nI_pred]
        simp only [a1, a2, a3, a4, a5, G_in (show 13 * i + jj < 169 by omega) (by decide : 169 < 2 ^ 31), G_in (show 13 * i + (jj + 1) < 169 by omega) (by decide : 169 < 2 ^ 31), G_in (show 13 * (i + 1) + jj < 169 by omega) (by decide : 169 < 2 ^ 31), G_in (show 12 * w + i < 36 by omega) (by decide : 36 < 2 ^ 31), G_in (show 12 * x + jj < 36 by omega) (by decide : 36 < 2 ^ 31), nI_clamp (show 13 * i + jj < 2 ^ 31 by omega), nI_clamp (show 13 * i + (jj + 1) < 2 ^ 31 by omega), nI_clamp (show 13 * (i + 1) + jj < 2 ^ 31 by omega), nI_clamp (show 12 * w + i < 2 ^ 31 by omega), nI_clamp (show 12 * x + jj < 2 ^ 31 by omega), (pM_A hp).1, h1 i (by omega) jj (by omega), h1 i (by omega) (jj + 1) (by omega), h2 jj (by omega)]
        have key : ∀ v : Nat, v = neq Sm w x i jj → (if nI (Dn Sm w x i jj + v) ≤ nI (Dn Sm w x i (jj + 1) + 1) then (if nI (Dn Sm w x i jj + v) ≤ nI (Dn Sm w x (i + 1) jj + 1) then m_apart_j214 (m_apart_h35 K (j + 1 + e)) K S (nI w) (nI x) (nI (i + 1)) (nI (jj + 1)) (nI (Dn Sm w x i jj + v)) else m_apart_j214 (m_apart_h35 K (j + 1 + e)) K S (nI w) (nI x) (nI (i + 1)) (nI (jj + 1)) (nI (Dn Sm w x (i + 1) jj + 1))) else (if nI (Dn Sm w x i (jj + 1) + 1) ≤ nI (Dn Sm w x (i + 1) jj + 1) then m_apart_j214 (m_apart_h35 K (j + 1 + e)) K S (nI w) (nI x) (nI (i + 1)) (nI (jj + 1)) (nI (Dn Sm w x i (jj + 1) + 1)) else m_apart_j214 (m_apart_h35 K (j + 1 + e)) K S (nI w) (nI x) (nI (i + 1)) (nI (jj + 1)) (nI (Dn Sm w x (i + 1) jj + 1)))) = m_apart_j214 (m_apart_h35 K (j + 1 + e)) K S (nI w) (nI x) (nI (i + 1)) (nI (jj + 1)) (nI (Dn Sm w x (i + 1) (jj + 1))) := by
          intro v hv
          have hv1 : v ≤ 1 := by rw [hv]; unfold neq; by_cases c : wW Sm w i = wW Sm x jj <;> simp [c]
          rw [Dn_s, ← hv]
          simp (disch := omega) only [nI_leI]
          by_cases c1 : Dn Sm w x i jj + v ≤ Dn Sm w x i (jj + 1) + 1
          · rw [if_pos c1]
            by_cases c2 : Dn Sm w x i jj + v ≤ Dn Sm w x (i + 1) jj + 1
            · rw [if_pos c2, Nat.min_eq_left (by omega)]
            · rw [if_neg c2, show min (Dn Sm w x i jj + v) (min (Dn Sm w x i (jj + 1) + 1) (Dn Sm w x (i + 1) jj + 1)) = Dn Sm w x (i + 1) jj + 1 by omega]
          · rw [if_neg c1]
            by_cases c2 : Dn Sm w x i (jj + 1) + 1 ≤ Dn Sm w x (i + 1) jj + 1
            · rw [if_pos c2, show min (Dn Sm w x i jj + v) (min (Dn Sm w x i (jj + 1) + 1) (Dn Sm w x (i + 1) jj + 1)) = Dn Sm w x i (jj + 1) + 1 by omega]
            · rw [if_neg c2, show min (Dn Sm w x i jj + v) (min (Dn Sm w x i (jj + 1) + 1) (Dn Sm w x (i + 1) jj + 1)) = Dn Sm w x (i + 1) jj + 1 by omega]
        by_cases c : Sm.2.1 33 (12 * w + i) = Sm.2.1 33 (12 * x + jj)
        · simp only [c, if_true, show (0 : Int32) = nI 0 from rfl, nI_add, nI_1]
          exact key 0 (by unfold neq wW; rw [if_pos c])
        · simp only [c, if_false, nI_1]
          exact key 1 (by unfold neq wW; rw [if_neg c])
theorem ap_h22 {Sx Sm : ST} (hK : RK Sx Sm) {w x : Nat} (hw : w < 3) (hx : x < 3) (K : ST → Int32 → Int32 → Option (Int32 × ST)) (e : Nat) : ∀ j i, i + j = CK Sm w + 1 → ∀ S, pM S = pM Sm → (∀ a, a < i → ∀ q, q ≤ CK Sm x → S.2.1 35 (13 * a + q) = nI (Dn Sm w x a q)) → ∃ S', pM S' = pM Sm ∧ (∀ a, a < CK Sm w + 1 → ∀ q, q ≤ CK Sm x → S'.2.1 35 (13 * a + q) = nI (Dn Sm w x a q)) ∧ m_apart_h22 K (j + 1 + e) S (nI w) (nI x) (nI i) = K S' (nI w) (nI x) := by
  obtain ⟨hcw, -, kw, -⟩ := RK_C hK hw
  obtain ⟨hcx, -, kx, -⟩ := RK_C hK hx
  intro j
  induction j with
  | zero =>
    intro i h S hp h1
    refine ⟨S, hp, fun a ha => h1 a (by omega), ?_⟩
    rw [show 0 + 1 + e = e + 1 by omega, m_apart_h22, G_in hw (by decide), nI_clamp (by omega), (pM_A hp).2, kw, if_pos (nI_lt (by omega) (by omega))]
  | succ j ih =>
    intro i h S hp h1
    obtain ⟨e2, he2⟩ := FU_s (CK Sm x + 1 + 1) (by omega)
    obtain ⟨S', hp', h', hr⟩ := ap_h35 hK hw hx (show i ≤ CK Sm w by omega) (m_apart_j234 (m_apart_h22 K (j + 1 + e)) K) e2 (CK Sm x + 1) 0 (by omega) S hp h1 (fun q hq => absurd hq (Nat.not_lt_zero q))
    obtain ⟨S2, hp2, h2, hr2⟩ := ih (i + 1) (by omega) S' hp' h'
    refine ⟨S2, hp2, h2, ?_⟩
    rw [← hr2, show j + 1 + 1 + e = (j + 1 + e) + 1 by omega, m_apart_h22, G_in hw (by decide), nI_clamp (by omega), (pM_A hp).2, kw, if_neg (nI_nlt (by omega) (by omega)), he2, show (0 : Int32) = nI 0 from rfl, hr]
    unfold m_apart_j234
    rw [nI_1]
theorem sim_apart {Sx Sm : ST} (h : RR Sx Sm) (a0 a1 : Int32) : ∃ r Sx' Sm', x11_apart Sx a0 a1 = some (r, Sx') ∧ m_apart Sm a0 a1 = some (r, Sm') ∧ RR Sx' Sm' := by
  have hK := h.2.2.2.1
  unfold x11_apart m_apart
  simp only [b3, n2, chk, calR]
  cases c0 : rb a0 3
  · exact ⟨_, _, _, rfl, rfl, h⟩
  cases c1 : rb a1 3
  · exact ⟨_, _, _, rfl, rfl, h⟩
  obtain ⟨w, hw, rfl⟩ := rb_rng (by decide) c0
  obtain ⟨x, hx, rfl⟩ := rb_rng (by decide) c1
  obtain ⟨hcw, -, kw, -⟩ := RK_C hK hw
  obtain ⟨hcx, -, kx, -⟩ := RK_C hK hx
  obtain ⟨S', p', r'⟩ := dist_eq hK hw hx
  obtain ⟨e, he⟩ := FU_s (CK Sm w + 1 + 1) (by omega)
  obtain ⟨S2, p2, h2, r2⟩ := ap_h22 hK hw hx m_apart_j240 e (CK Sm w + 1) 0 (by omega) Sm rfl (fun a ha => absurd ha (Nat.not_lt_zero a))
  simp only [if_true]
  rw [he, show (0 : Int32) = nI 0 from rfl, r2, r']
  refine ⟨_, S', S2, rfl, ?_, RR_keep h p' p2⟩
  unfold m_apart_j240
  rw [(pM_A p2).2]
  simp (disch := omega) only [G_in, nI_add, nI_1, pk_mul, pk_sub, pk_m1, nI_clamp, nI_leI, nI_ltI, nI_eq, cal_s, calV_s, cal0_s, if_pos, if_neg, show (13 : Int32) = nI 13 from rfl, kw, kx]
  rw [h2 _ (by omega) _ (Nat.le_refl _)]
