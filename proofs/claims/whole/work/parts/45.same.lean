theorem factR_keep {Sx Sm S T : ST} {f : Nat} (hx : pX S = pX Sx) (hm : pM T = pM Sm) (h : factR Sx Sm f) : factR S T f := by
  have : factR (rX (pX S)) (rM (pM T)) f := by rw [hx, hm]; exact h
  exact this
theorem pM_F {S Sm : ST} (h : pM S = pM Sm) : S.2.1 24 = Sm.2.1 24 ∧ S.2.1 25 = Sm.2.1 25 ∧ S.2.1 26 = Sm.2.1 26 ∧ S.2.1 27 = Sm.2.1 27 := by
  have : ((rM (pM S)).2.1 24 = (rM (pM Sm)).2.1 24) ∧ ((rM (pM S)).2.1 25 = (rM (pM Sm)).2.1 25) ∧ ((rM (pM S)).2.1 26 = (rM (pM Sm)).2.1 26) ∧ ((rM (pM S)).2.1 27 = (rM (pM Sm)).2.1 27) := by rw [h]; exact ⟨rfl, rfl, rfl, rfl⟩
  exact this
def rA (S : ST) (f : Nat) : Nat := (S.2.1 26 f).toNatClampNeg
def rB (S : ST) (f : Nat) : Nat := (S.2.1 27 f).toNatClampNeg
def isR (S : ST) (day : Int32) (f : Nat) : Bool := decide (S.2.1 24 f = 8) && !decide (day < S.2.1 25 f)
def mrk (a b : Nat) (mk : Nat → Bool) : Nat → Bool := fun w => if w = a ∨ w = b then true else mk w
def pst (S : ST) (day : Int32) (f : Nat) (q : (Nat → Bool) × Bool) : (Nat → Bool) × Bool := if (isR S day f && (q.1 (rA S f) != q.1 (rB S f))) = true then (mrk (rA S f) (rB S f) q.1, true) else q
def pfd (S : ST) (day : Int32) : Nat → Nat → (Nat → Bool) × Bool → (Nat → Bool) × Bool
  | 0, _, q => q
  | j + 1, f, q => pfd S day j (f + 1) (pst S day f q)
def MK (S : ST) (k : Nat) (mk : Nat → Bool) : Prop := ∀ w, w < 1000 → S.2.1 k w = bit (mk w)
theorem nb1 : vp_nar .boolean 1 = 1 := by decide
theorem nb0 : vp_nar .boolean 0 = 0 := by decide
theorem gath_eq {S : ST} {mk : Nat → Bool} (h : MK S 25 mk) {a : Nat} (h1 : 1 ≤ a) (h2 : a ≤ 999) : x5_gathered S (nI a) = some (bit (mk a), S) := by
  unfold x5_gathered
  rw [word_y h1 h2, cal0_s, if_neg (by decide), G_in (by omega) (by decide), nI_clamp (by omega), h a (by omega)]
  cases mk a <;> rfl
theorem mark_eq (S : ST) {a : Nat} (h1 : 1 ≤ a) (h2 : a ≤ 999) : x5_mark S (nI a) = some (sA S 25 (upd (S.2.1 25) a 1)) := by
  unfold x5_mark
  rw [word_y h1 h2, cal0_s, if_neg (by decide), G_in (by omega) (by decide), nI_clamp (by omega), nb1]
theorem MK_2 {S T : ST} {k : Nat} {mk : Nat → Bool} {a b : Nat} (h : MK S k mk) (e : T.2.1 k = upd (upd (S.2.1 k) a 1) b 1) : MK T k (mrk a b mk) := by
  intro w hw
  rw [e, mrk]
  by_cases c : w = b
  · rw [c, pk_us, if_pos (Or.inr rfl)]; rfl
  · rw [pk_un c]
    by_cases c2 : w = a
    · rw [c2, pk_us, if_pos (Or.inl rfl)]; rfl
    · rw [pk_un c2, if_neg (by simp [c, c2]), h w hw]
theorem once_h5 {Sx Sm : ST} {n : Nat} (hn : n ≤ 180) (hf : ∀ f, f < n → factR Sx Sm f) (day : Int32) (e : Nat) : ∀ j f, f + j = n → ∀ S mk mo, pX S = pX Sx → MK S 25 mk → ∃ S', pX S' = pX Sx ∧ MK S' 25 (pfd Sm day j f (mk, mo)).1 ∧ x5_joinOnce_h5 (j + 1 + e) S day (nI n) (bit mo) (nI f) = some (bit (pfd Sm day j f (mk, mo)).2, S') := by
  intro j
  induction j with
  | zero =>
    intro f h S mk mo hp hM
    refine ⟨S, hp, hM, ?_⟩
    rw [show 0 + 1 + e = e + 1 by omega, x5_joinOnce_h5, if_pos (nI_le (by omega) (by omega)), G_t (by cases mo <;> decide)]
    rfl
  | succ j ih =>
    intro f h S mk mo hp hM
    have hR := factR_keep hp (rfl : pM Sm = pM Sm) (hf f (by omega))
    rw [show j + 1 + 1 + e = (j + 1 + e) + 1 by omega, x5_joinOnce_h5, if_neg (nI_ge (by omega) (by omega)), pfd]
    unfold x5_joinOnce_j101
    simp only [G_in (show f < 180 by omega) (by decide : 180 < 2 ^ 31), nI_clamp (show f < 2 ^ 31 by omega), nI_1]
    have out : ∀ c : (isR Sm day f && ((mk (rA Sm f)) != (mk (rB Sm f)))) = false, ∃ S', pX S' = pX Sx ∧ MK S' 25 (pfd Sm day j (f + 1) (pst Sm day f (mk, mo))).1 ∧ x5_joinOnce_h5 (j + 1 + e) S day (nI n) (bit mo) (nI (f + 1)) = some (bit (pfd Sm day j (f + 1) (pst Sm day f (mk, mo))).2, S') := fun c => by
      have : pst Sm day f (mk, mo) = (mk, mo) := by unfold pst; rw [if_neg (by rw [c]; decide)]
      rw [this]; exact ih (f + 1) (by omega) S mk mo hp hM
    by_cases c1 : Sm.2.1 24 f = 8
    · obtain ⟨v1, ⟨a, ha1, ha2, va⟩, v2, ⟨b, hb1, hb2, vb⟩, v3⟩ := hR.2.2.2.2.2.2.2.2.2.1 c1
      have x1 : S.2.1 13 f = 8 := by have := FK_8 hR.1; rw [decide_eq_true c1, decide_eq_true_eq] at this; exact this
      have eA : rA Sm f = a := by unfold rA; rw [va, nI_clamp (by omega)]
      have eB : rB Sm f = b := by unfold rB; rw [vb, nI_clamp (by omega)]
      rw [x1, if_pos rfl, v3, v1, va]
      by_cases c2 : day < Sm.2.1 25 f
      · rw [if_pos c2]; exact out (by unfold isR; rw [decide_eq_true c2]; simp)
      · rw [if_neg c2, gath_eq hM ha1 ha2, cal_s, v2, vb, gath_eq hM hb1 hb2, cal_s]
        simp only [bit_inj]
        by_cases c3 : mk a = mk b
        · rw [if_pos c3]; exact out (by rw [eA, eB, c3]; simp)
        · rw [if_neg c3, v1, va, mark_eq S ha1 ha2, calV_s]
          show ∃ S', _ ∧ _ ∧ calV (x5_mark (sA S 25 (upd (S.2.1 25) a 1)) (S.2.1 22 f)) _ = _
          rw [v2, vb, mark_eq _ hb1 hb2, calV_s]
          have : pst Sm day f (mk, mo) = (mrk a b mk, true) := by
            unfold pst
            rw [if_pos (by unfold isR; rw [decide_eq_true c1, decide_eq_false c2, eA, eB]; simp [c3]), eA, eB]
          rw [this]
          exact ih (f + 1) (by omega) _ (mrk a b mk) true hp (MK_2 hM rfl)
    · have x1 : ¬ S.2.1 13 f = 8 := by have := FK_8 hR.1; rw [decide_eq_false c1, decide_eq_false_iff_not] at this; exact this
      rw [if_neg x1]; exact out (by unfold isR; rw [decide_eq_false c1]; simp)
theorem sames_h49 {Sx Sm : ST} {n : Nat} (hn : n ≤ 180) (hf : ∀ f, f < n → factR Sx Sm f) (day : Int32) (K : ST → Int32 → Int32 → Int32 → Option ST) (e : Nat) : ∀ j f, f + j = n → ∀ S mk mo, pM S = pM Sm → MK S 40 mk → ∃ S', pM S' = pM Sm ∧ MK S' 40 (pfd Sm day j f (mk, mo)).1 ∧ m_sames_h49 K (j + 1 + e) S day (nI n) (bit mo) (nI f) = K S' day (nI n) (bit (pfd Sm day j f (mk, mo)).2) := by
  intro j
  induction j with
  | zero =>
    intro f h S mk mo hp hM
    refine ⟨S, hp, hM, ?_⟩
    rw [show 0 + 1 + e = e + 1 by omega, m_sames_h49, if_pos (nI_le (by omega) (by omega))]
    rfl
  | succ j ih =>
    intro f h S mk mo hp hM
    have hR := hf f (by omega)
    obtain ⟨q1, q2, q3, q4⟩ := pM_F hp
    rw [show j + 1 + 1 + e = (j + 1 + e) + 1 by omega, m_sames_h49, if_neg (nI_ge (by omega) (by omega)), pfd]
    unfold m_sames_j137
    simp only [G_in (show f < 180 by omega) (by decide : 180 < 2 ^ 31), nI_clamp (show f < 2 ^ 31 by omega), nI_1, nb1]
    have out : ∀ c : (isR Sm day f && ((mk (rA Sm f)) != (mk (rB Sm f)))) = false, ∃ S', pM S' = pM Sm ∧ MK S' 40 (pfd Sm day j (f + 1) (pst Sm day f (mk, mo))).1 ∧ m_sames_h49 K (j + 1 + e) S day (nI n) (bit mo) (nI (f + 1)) = K S' day (nI n) (bit (pfd Sm day j (f + 1) (pst Sm day f (mk, mo))).2) := fun c => by
      have : pst Sm day f (mk, mo) = (mk, mo) := by unfold pst; rw [if_neg (by rw [c]; decide)]
      rw [this]; exact ih (f + 1) (by omega) S mk mo hp hM
    rw [q1, q2, q3, q4]
    by_cases c1 : Sm.2.1 24 f = 8
    · obtain ⟨v1, ⟨a, ha1, ha2, va⟩, v2, ⟨b, hb1, hb2, vb⟩, v3⟩ := hR.2.2.2.2.2.2.2.2.2.1 c1
      have eA : rA Sm f = a := by unfold rA; rw [va, nI_clamp (by omega)]
      have eB : rB Sm f = b := by unfold rB; rw [vb, nI_clamp (by omega)]
      rw [if_pos c1, va, vb]
      by_cases c2 : day < Sm.2.1 25 f
      · rw [if_pos c2]; exact out (by unfold isR; rw [decide_eq_true c2]; simp)
      · rw [if_neg c2]
        simp only [G_in (show a < 1000 by omega) (by decide : 1000 < 2 ^ 31), G_in (show b < 1000 by omega) (by decide : 1000 < 2 ^ 31), nI_clamp (show a < 2 ^ 31 by omega), nI_clamp (show b < 2 ^ 31 by omega), hM a (by omega), hM b (by omega), bit_inj]
        by_cases c3 : mk a = mk b
        · rw [if_pos c3]; exact out (by rw [eA, eB, c3]; simp)
        · rw [if_neg c3]
          have : pst Sm day f (mk, mo) = (mrk a b mk, true) := by
            unfold pst
            rw [if_pos (by unfold isR; rw [decide_eq_true c1, decide_eq_false c2, eA, eB]; simp [c3]), eA, eB]
          rw [this]
          have e27 : ∀ g : Nat → Int32, (sA S 40 g).2.1 27 f = nI b := fun g => by rw [show (sA S 40 g).2.1 27 f = S.2.1 27 f from rfl, q4, vb]
          simp only [e27, G_in (show b < 1000 by omega) (by decide : 1000 < 2 ^ 31), nI_clamp (show b < 2 ^ 31 by omega)]
          exact ih (f + 1) (by omega) _ (mrk a b mk) true hp (MK_2 hM rfl)
    · rw [if_neg c1]; exact out (by unfold isR; rw [decide_eq_false c1]; simp)
/-- renames both of whose words are marked -/
def stl (S : ST) (day : Int32) (mk : Nat → Bool) (f : Nat) : Bool := isR S day f && (mk (rA S f) && mk (rB S f))
theorem cntU_mono {p q : Nat → Bool} (h : ∀ f, p f = true → q f = true) : ∀ n, cntU p n ≤ cntU q n := by
  intro n
  induction n with
  | zero => exact Nat.le_refl 0
  | succ n ih =>
    rw [cntU, cntU]
    have := h n
    cases c : p n
    · simp; omega
    · rw [this c]; omega
theorem cntU_more {p q : Nat → Bool} (h : ∀ f, p f = true → q f = true) {f : Nat} (h1 : p f = false) (h2 : q f = true) : ∀ n, f < n → cntU p n + 1 ≤ cntU q n := by
  intro n
  induction n with
  | zero => intro hf; omega
  | succ n ih =>
    intro hf
    rw [cntU, cntU]
    by_cases c : f = n
    · subst c; have := cntU_mono h f; rw [h1, h2]; simp; omega
    · have := ih (by omega)
      have := h n
      cases c : p n
      · simp; omega
      · rw [this c]; omega
theorem mrk_mono (a b : Nat) (mk : Nat → Bool) (w : Nat) (h : mk w = true) : mrk a b mk w = true := by
  unfold mrk; by_cases c : w = a ∨ w = b
  · rw [if_pos c]
  · rw [if_neg c]; exact h
theorem stl_mrk {S : ST} {day : Int32} {mk : Nat → Bool} (a b : Nat) (f : Nat) (h : stl S day mk f = true) : stl S day (mrk a b mk) f = true := by
  unfold stl at *
  rw [Bool.and_eq_true, Bool.and_eq_true] at *
  exact ⟨h.1, mrk_mono _ _ _ _ h.2.1, mrk_mono _ _ _ _ h.2.2⟩
theorem bne_and : ∀ r x y : Bool, (x != y) = true → (r && (x && y)) = false := by decide
theorem pfd_cnt (S : ST) (day : Int32) {n : Nat} : ∀ j f q, f + j = n → cntU (stl S day q.1) n + (if q.2 = false ∧ (pfd S day j f q).2 = true then 1 else 0) ≤ cntU (stl S day (pfd S day j f q).1) n := by
  intro j
  induction j with
  | zero => intro f q h; rw [pfd]; cases q.2 <;> simp
  | succ j ih =>
    intro f q h
    have := ih (f + 1) (pst S day f q) (by omega)
    rw [pfd]
    by_cases c : (isR S day f && (q.1 (rA S f) != q.1 (rB S f))) = true
    · have e : pst S day f q = (mrk (rA S f) (rB S f) q.1, true) := by unfold pst; rw [if_pos c]
      rw [e] at this ⊢
      rw [Bool.and_eq_true] at c
      have m1 := cntU_more (p := stl S day q.1) (q := stl S day (mrk (rA S f) (rB S f) q.1)) (fun g hg => stl_mrk _ _ g hg) (f := f) (by
        exact bne_and _ _ _ c.2) (by
        unfold stl mrk; simp [c.1]) n (by omega)
      simp at this
      split <;> omega
    · have e : pst S day f q = q := by unfold pst; rw [if_neg c]
      rw [e] at this ⊢
      exact this
theorem gat_run {Sx Sm : ST} {n : Nat} (hn : n ≤ 180) (hf : ∀ f, f < n → factR Sx Sm f) (day : Int32) (e : Nat) : ∀ c mk, n ≤ cntU (stl Sm day mk) n + c → ∀ S T r, r + c ≤ n → pX S = pX Sx → pM T = pM Sm → MK S 25 mk → MK T 40 mk → ∃ S' T' mk', pX S' = pX Sx ∧ pM T' = pM Sm ∧ MK S' 25 mk' ∧ MK T' 40 mk' ∧ x5_gather_h41 (c + 2 + e) S day (nI n) 1 (nI r) = some S' ∧ m_sames_h38 (c + 2 + e) T day (nI n) 1 = some T' := by
  intro c
  induction c with
  | zero =>
    intro mk hc S T r hr hS hT hMS hMT
    obtain ⟨e1, he1⟩ := FU_s (n + 1) (by omega)
    obtain ⟨S', p1, k1, r1⟩ := once_h5 hn hf day e1 n 0 (by omega) S mk false hS hMS
    obtain ⟨T', p2, k2, r2⟩ := sames_h49 hn hf day (m_sames_j143 (m_sames_h38 (0 + 1 + e))) e1 n 0 (by omega) T mk false hT hMT
    have hq : (pfd Sm day n 0 (mk, false)).2 = false := by
      have := pfd_cnt Sm day (n := n) n 0 (mk, false) (by omega)
      have b := cntU_le (stl Sm day (pfd Sm day n 0 (mk, false)).1) n
      cases q : (pfd Sm day n 0 (mk, false)).2
      · rfl
      · rw [q] at this; simp at this; omega
    refine ⟨S', T', _, p1, p2, k1, k2, ?_, ?_⟩
    · rw [show 0 + 2 + e = e + 1 + 1 by omega, x5_gather_h41, if_neg (by decide), if_neg (nI_nlt (by omega) (by omega))]
      unfold x5_joinOnce
      rw [he1, show x5_joinOnce_h5 (n + 1 + e1) S day (nI n) 0 0 = _ from r1, cal_s, hq]
      rfl
    · rw [show 0 + 2 + e = (0 + 1 + e) + 1 by omega, m_sames_h38, if_neg (by decide), he1, show m_sames_h49 (m_sames_j143 (m_sames_h38 (0 + 1 + e))) (n + 1 + e1) T day (nI n) 0 0 = _ from r2, hq]
      unfold m_sames_j143
      rw [show 0 + 1 + e = e + 1 by omega, m_sames_h38]
      rfl
  | succ c ih =>
    intro mk hc S T r hr hS hT hMS hMT
    obtain ⟨e1, he1⟩ := FU_s (n + 1) (by omega)
    obtain ⟨S', p1, k1, r1⟩ := once_h5 hn hf day e1 n 0 (by omega) S mk false hS hMS
    obtain ⟨T', p2, k2, r2⟩ := sames_h49 hn hf day (m_sames_j143 (m_sames_h38 (c + 2 + e))) e1 n 0 (by omega) T mk false hT hMT
    have hb := pfd_cnt Sm day (n := n) n 0 (mk, false) (by omega)
    cases hq : (pfd Sm day n 0 (mk, false)).2
    · refine ⟨S', T', _, p1, p2, k1, k2, ?_, ?_⟩
      · rw [show c + 1 + 2 + e = c + 1 + e + 1 + 1 by omega, x5_gather_h41, if_neg (by decide), if_neg (nI_nlt (by omega) (by omega))]
        unfold x5_joinOnce
        rw [he1, show x5_joinOnce_h5 (n + 1 + e1) S day (nI n) 0 0 = _ from r1, cal_s, hq]
        rfl
      · rw [show c + 1 + 2 + e = (c + 2 + e) + 1 by omega, m_sames_h38, if_neg (by decide), he1, show m_sames_h49 (m_sames_j143 (m_sames_h38 (c + 2 + e))) (n + 1 + e1) T day (nI n) 0 0 = _ from r2, hq]
        unfold m_sames_j143
        rw [show c + 2 + e = c + 1 + e + 1 by omega, m_sames_h38]
        rfl
    · rw [hq] at hb
      simp at hb
      obtain ⟨S2, T2, mk2, a1, a2, a3, a4, a5, a6⟩ := ih _ (by omega) S' T' (r + 1) (by omega) p1 p2 k1 k2
      refine ⟨S2, T2, mk2, a1, a2, a3, a4, ?_, ?_⟩
      · rw [show c + 1 + 2 + e = (c + 2 + e) + 1 by omega, x5_gather_h41, if_neg (by decide), if_neg (nI_nlt (by omega) (by omega))]
        unfold x5_joinOnce
        rw [he1, show x5_joinOnce_h5 (n + 1 + e1) S day (nI n) 0 0 = _ from r1, cal_s, hq, nI_1]
        exact a5
      · rw [show c + 1 + 2 + e = (c + 2 + e) + 1 by omega, m_sames_h38, if_neg (by decide), he1, show m_sames_h49 (m_sames_j143 (m_sames_h38 (c + 2 + e))) (n + 1 + e1) T day (nI n) 0 0 = _ from r2, hq]
        exact a6
theorem gat_h3 (K : ST → Int32 → Int32 → Option ST) {Sx : ST} (o d n : Int32) (e : Nat) : ∀ j i, i + j = 1000 → ∀ S, pX S = pX Sx → (∀ w, w < i → S.2.1 25 w = bit (decide (nI w = o))) → ∃ S', pX S' = pX Sx ∧ MK S' 25 (fun w => decide (nI w = o)) ∧ x5_gather_h3 K (j + 1 + e) S o d n (nI i) = K S' d n := by
  intro j
  induction j with
  | zero =>
    intro i h S hp hM
    refine ⟨S, hp, fun w hw => hM w (by omega), ?_⟩
    rw [show 0 + 1 + e = e + 1 by omega, x5_gather_h3, if_pos (show (1000 : Int32) ≤ nI i from nI_le (a := 1000) (by omega) (by omega))]
  | succ j ih =>
    intro i h S hp hM
    obtain ⟨S', a1, a2, a3⟩ := ih (i + 1) (by omega) (sA S 25 (upd (S.2.1 25) i (bit (decide (nI i = o))))) hp (fun w hw => by
      show upd (S.2.1 25) i _ w = _
      by_cases c : w = i
      · rw [c, pk_us]
      · rw [pk_un c]; exact hM w (by omega))
    refine ⟨S', a1, a2, ?_⟩
    rw [← a3, show j + 1 + 1 + e = (j + 1 + e) + 1 by omega, x5_gather_h3, if_neg (show ¬ (1000 : Int32) ≤ nI i from nI_ge (b := 1000) (by omega) (by omega))]
    unfold x5_gather_j28
    simp only [G_in (show i < 1000 by omega) (by decide : 1000 < 2 ^ 31), nI_clamp (show i < 2 ^ 31 by omega), nI_1, nb1, nb0]
    by_cases c : nI i = o
    · rw [if_pos c, decide_eq_true c]; rfl
    · rw [if_neg c, decide_eq_false c]; rfl
theorem sam_h3 (K : ST → Int32 → Int32 → Option ST) {Sm : ST} (o d n : Int32) (e : Nat) : ∀ j i, i + j = 1000 → ∀ S, pM S = pM Sm → (∀ w, w < i → S.2.1 40 w = bit (decide (nI w = o))) → ∃ S', pM S' = pM Sm ∧ MK S' 40 (fun w => decide (nI w = o)) ∧ m_sames_h3 K (j + 1 + e) S o d n (nI i) = K S' d n := by
  intro j
  induction j with
  | zero =>
    intro i h S hp hM
    refine ⟨S, hp, fun w hw => hM w (by omega), ?_⟩
    rw [show 0 + 1 + e = e + 1 by omega, m_sames_h3, if_pos (show (1000 : Int32) ≤ nI i from nI_le (a := 1000) (by omega) (by omega))]
  | succ j ih =>
    intro i h S hp hM
    obtain ⟨S', a1, a2, a3⟩ := ih (i + 1) (by omega) (sA S 40 (upd (S.2.1 40) i (bit (decide (nI i = o))))) hp (fun w hw => by
      show upd (S.2.1 40) i _ w = _
      by_cases c : w = i
      · rw [c, pk_us]
      · rw [pk_un c]; exact hM w (by omega))
    refine ⟨S', a1, a2, ?_⟩
    rw [← a3, show j + 1 + 1 + e = (j + 1 + e) + 1 by omega, m_sames_h3, if_neg (show ¬ (1000 : Int32) ≤ nI i from nI_ge (b := 1000) (by omega) (by omega))]
    unfold m_sames_j28
    simp only [G_in (show i < 1000 by omega) (by decide : 1000 < 2 ^ 31), nI_clamp (show i < 2 ^ 31 by omega), nI_1, nb1, nb0]
    by_cases c : nI i = o
    · rw [if_pos c, decide_eq_true c]; rfl
    · rw [if_neg c, decide_eq_false c]; rfl
/-- both gather the same words -/
theorem gather_rel {Sx Sm : ST} {n : Nat} (hn : n ≤ 180) (hf : ∀ f, f < n → factR Sx Sm f) (o day : Int32) : ∃ S' T' mk', pX S' = pX Sx ∧ pM T' = pM Sm ∧ MK S' 25 mk' ∧ MK T' 40 mk' ∧ x5_gather Sx o day (nI n) = some S' ∧ m_sames Sm o day (nI n) = some T' := by
  obtain ⟨e, he⟩ := FU_s (1000 + 1) (by omega)
  obtain ⟨S1, p1, k1, r1⟩ := gat_h3 x5_gather_j35 (Sx := Sx) o day (nI n) e 1000 0 (by omega) Sx rfl (fun w hw => absurd hw (Nat.not_lt_zero w))
  obtain ⟨T1, p2, k2, r2⟩ := sam_h3 m_sames_j35 (Sm := Sm) o day (nI n) e 1000 0 (by omega) Sm rfl (fun w hw => absurd hw (Nat.not_lt_zero w))
  obtain ⟨e2, he2⟩ := FU_s (n + 2) (by omega)
  obtain ⟨S2, T2, mk, a1, a2, a3, a4, a5, a6⟩ := gat_run hn hf day e2 n _ (by omega) S1 T1 0 (by omega) p1 p2 k1 k2
  refine ⟨S2, T2, mk, a1, a2, a3, a4, ?_, ?_⟩
  · unfold x5_gather
    rw [he, show (0 : Int32) = nI 0 from rfl, r1]
    unfold x5_gather_j35
    rw [he2]; exact a5
  · unfold m_sames
    rw [he, show (0 : Int32) = nI 0 from rfl, r2]
    unfold m_sames_j35
    rw [he2]; exact a6
theorem sim_same {Sx Sm : ST} (h : RR Sx Sm) (a0 a1 a2 a3 : Int32) : ∃ r Sx' Sm', x11_same Sx a0 a1 a2 a3 = some (r, Sx') ∧ m_same Sm a0 a1 a2 a3 = some (r, Sm') ∧ RR Sx' Sm' := by
  obtain ⟨hT, hP, ⟨n, hn, f1, f2, hf⟩, hK, hW, hB⟩ := id h
  unfold x11_same m_same
  simp only [bW, mW, b100, mDay, known_x hn f1, known_m hn f2, chk, chkS]
  cases wb a0
  · exact ⟨_, _, _, rfl, rfl, h⟩
  cases c1 : wb a1
  · exact ⟨_, _, _, rfl, rfl, h⟩
  cases rb a2 100
  · exact ⟨_, _, _, rfl, rfl, h⟩
  cases c : rb a3 (n + 1)
  · exact ⟨_, _, _, rfl, rfl, h⟩
  obtain ⟨m, hm, rfl⟩ := rb_rng (by omega) c
  obtain ⟨o, ho1, ho2, rfl⟩ := wb_rn c1
  obtain ⟨S2, T2, mk, q1, q2, q3, q4, q5, q6⟩ := gather_rel (show m ≤ 180 by omega) (fun f hf2 => hf f (by omega)) a0 a2
  simp only [if_true]
  rw [q5, q6, calV_s, calV_s, gath_eq q3 ho1 ho2, cal_s, G_in (by omega) (by decide), nI_clamp (by omega), q4 o (by omega)]
  have hr := RR_keep h q1 q2
  cases mk o
  · exact ⟨0, S2, T2, rfl, rfl, hr⟩
  · exact ⟨1, S2, T2, rfl, rfl, hr⟩
