theorem and1 (x : Int32) : x &&& 1 = 0 ∨ x &&& 1 = 1 := by
  obtain ⟨j, hj, e⟩ := pk_andE x (m := 1) 1 (by decide)
  rcases (show j = 0 ∨ j = 1 by omega) with rfl | rfl
  · exact Or.inl e
  · exact Or.inr e
theorem RV_sp {Sx Sm : ST} (h : RV Sx Sm) {r : Nat} (hr : r < 4) : Sm.2.1 36 r = nI (spN Sm r) ∧ Sx.2.1 29 r = nI (spN Sm r) ∧ Sx.2.1 30 r = Sm.2.1 37 r := by
  obtain ⟨h1, ⟨v, hv1, hv2, hv⟩, h3, -⟩ := h r hr
  have e : spN Sm r = v := by unfold spN; rw [hv, nI_clamp (by omega)]; omega
  rw [e]; exact ⟨hv, h1.trans hv, h3⟩
theorem qM_A {S Sm : ST} (h : qM S = qM Sm) : S.2.1 36 = Sm.2.1 36 ∧ S.2.1 37 = Sm.2.1 37 := by
  have : ((wM (qM S)).2.1 36 = (wM (qM Sm)).2.1 36) ∧ ((wM (qM S)).2.1 37 = (wM (qM Sm)).2.1 37) := by rw [h]; exact ⟨rfl, rfl⟩
  exact this
theorem qX_A {S Sm : ST} (h : qX S = qX Sm) : S.2.1 29 = Sm.2.1 29 ∧ S.2.1 30 = Sm.2.1 30 := by
  have : ((wX (qX S)).2.1 29 = (wX (qX Sm)).2.1 29) ∧ ((wX (qX S)).2.1 30 = (wX (qX Sm)).2.1 30) := by rw [h]; exact ⟨rfl, rfl⟩
  exact this
theorem may_h18 {Sx Sm S : ST} (hV : RV Sx Sm) (hq : qM S = qM Sm) {k r : Nat} (hk : k < 8) (hr : r < 4) {a : Nat → Nat} (ha : ∀ i, i < k → S.2.1 38 i = nI (a i)) (h4 : ∀ i, i < k → a i < 4) (e : Nat) : ∀ j i, i + j = k → anyB (blk (spN Sm) a k r) i = false → m_mayTake_h18 (j + 1 + e) S (nI k) (nI r) (nI i) = some (bit (!anyB (blk (spN Sm) a k r) k), S) := by
  intro j
  induction j with
  | zero =>
    intro i h h0
    rw [show 0 + 1 + e = e + 1 by omega, m_mayTake_h18, if_pos (nI_le (by omega) (by omega)), show k = i by omega]
    rw [show k = i by omega] at h0
    rw [h0]; rfl
  | succ j ih =>
    intro i h h0
    have hs := spN_le Sm r
    rw [show j + 1 + 1 + e = (j + 1 + e) + 1 by omega, m_mayTake_h18, if_neg (nI_ge (by omega) (by omega))]
    unfold m_mayTake_j47
    simp only [G_in (show i < 8 by omega) (by decide : 8 < 2 ^ 31), G_in hr (by decide : 4 < 2 ^ 31), nI_clamp (show i < 2 ^ 31 by omega), nI_clamp (show r < 2 ^ 31 by omega), nI_1, (qM_A hq).1, (RV_sp hV hr).1, nI_add, ha i (by omega)]
    have hi4 := h4 i (by omega)
    have go : blk (spN Sm) a k r i = false → m_mayTake_h18 (j + 1 + e) S (nI k) (nI r) (nI (i + 1)) = some (bit (!anyB (blk (spN Sm) a k r) k), S) := fun q => ih (i + 1) (by omega) (by rw [anyB, h0, q]; rfl)
    by_cases c : a i = r
    · rw [if_pos (by rw [c])]
      by_cases c2 : i + spN Sm r < k
      · rw [if_pos (nI_lt c2 (by omega))]
        exact go (by unfold blk; rw [decide_eq_false (show ¬ k ≤ i + spN Sm r by omega), Bool.and_false])
      · rw [if_neg (nI_nlt (by omega) (by omega)), anyB_mono (m := i + 1) (by rw [anyB, blk, decide_eq_true c, decide_eq_true (show k ≤ i + spN Sm r by omega), h0]; rfl) (by omega)]; rfl
    · rw [if_neg (fun q => c ((nI_eq (by omega) (by omega)).mp q))]
      exact go (by unfold blk; rw [decide_eq_false c, Bool.false_and])
theorem may_eq {Sx Sm S : ST} (hV : RV Sx Sm) (hq : qM S = qM Sm) {k r : Nat} (hk : k < 8) (hr : r < 4) {a : Nat → Nat} (ha : ∀ i, i < k → S.2.1 38 i = nI (a i)) (h4 : ∀ i, i < k → a i < 4) : m_mayTake S (nI k) (nI r) = some (bit (okR Sm a k r), S) := by
  obtain ⟨e, he⟩ := FU_s (k + 1) (by omega)
  unfold m_mayTake
  rw [G_in hr (by decide), nI_clamp (by omega), (qM_A hq).2, okR, cbN]
  by_cases c : ((Sm.2.1 37 r) >>> (nI k &&& 31)) &&& 1 = 1
  · rw [if_pos c, decide_eq_true c]; rfl
  · rw [if_neg c, decide_eq_false c, he, show (0 : Int32) = nI 0 from rfl, may_h18 hV hq hk hr ha h4 e k 0 (by omega) rfl]; rfl
def bN (b : Nat) : Int32 := if b = 100 then -1 else nI b
def RM (Sm S : ST) (t k : Nat) (a : Nat → Nat) (st : RS) : Prop := qM S = qM Sm ∧ (∀ i, i < k → S.2.1 38 i = nI (a i)) ∧ (∀ i, i < k → a i < 4) ∧ S.1 26 = (if st.2.1 = 100 then 0 else nI t) ∧ (st.2.1 ≠ 100 → ∀ i, i < t → S.2.1 39 i = nI (st.2.2 i)) ∧ st.1 ≤ 8 ∧ st.2.1 ≤ 100
theorem ros_h135 {Sx Sm S : ST} (hV : RV Sx Sm) (hq : qM S = qM Sm) {t : Nat} (ht : t ≤ 8) {a : Nat → Nat} (ha : ∀ i, i < t → S.2.1 38 i = nI (a i)) (h4 : ∀ i, i < t → a i < 4) (K : ST → Int32 → Int32 → Int32 → Int32 → Int32 → Int32 → Option (Int32 × ST)) (l2 l3 l4 l5 : Int32) (e : Nat) : ∀ j i, i + j = t → m_roster_h135 K (j + 1 + e) S (nI t) l2 l3 l4 l5 (nI (endR (spN Sm) a i)) (nI i) = K S (nI t) l2 l3 l4 l5 (nI (endR (spN Sm) a t)) := by
  intro j
  induction j with
  | zero => intro i h; rw [show 0 + 1 + e = e + 1 by omega, m_roster_h135, if_pos (nI_le (by omega) (by omega)), show i = t by omega]
  | succ j ih =>
    intro i h
    have b1 := endR_le Sm a i
    have b2 := spN_le Sm (a i)
    have hi4 := h4 i (by omega)
    rw [show j + 1 + 1 + e = (j + 1 + e) + 1 by omega, m_roster_h135, if_neg (nI_ge (by omega) (by omega)), ← ih (i + 1) (by omega), endR]
    unfold m_roster_j178
    simp only [G_in (show i < 8 by omega) (by decide : 8 < 2 ^ 31), nI_clamp (show i < 2 ^ 31 by omega), nI_1, (qM_A hq).1, ha i (by omega), G_in hi4 (by decide : 4 < 2 ^ 31), nI_clamp (show a i < 2 ^ 31 by omega), (RV_sp hV hi4).1, nI_add]
    by_cases c : i + spN Sm (a i) ≤ endR (spN Sm) a i
    · rw [if_pos (nI_le c (by omega)), Nat.max_eq_left c]
    · rw [if_neg (nI_ge (by omega) (by omega)), Nat.max_eq_right (by omega)]
theorem ros_h212 {Sm : ST} {t : Nat} (ht : t ≤ 8) (a : Nat → Nat) (l2 l3 l4 l5 : Int32) (e : Nat) : ∀ j i, i + j = t → ∀ S, qM S = qM Sm → (∀ i, i < t → S.2.1 38 i = nI (a i)) → S.1 26 = nI t → (∀ q, q < i → S.2.1 39 q = nI (a q)) → ∃ S', qM S' = qM Sm ∧ (∀ i, i < t → S'.2.1 38 i = nI (a i)) ∧ S'.1 26 = nI t ∧ (∀ q, q < t → S'.2.1 39 q = nI (a q)) ∧ ∀ K : ST → Int32 → Int32 → Int32 → Int32 → Int32 → Option (Int32 × ST), m_roster_h212 K (j + 1 + e) S (nI t) l2 l3 l4 l5 (nI i) = K S' (nI t) l2 l3 l4 l5 := by
  intro j
  induction j with
  | zero => intro i h S h1 h2 h3 h4; exact ⟨S, h1, h2, h3, fun q hq => h4 q (by omega), fun K => by rw [show 0 + 1 + e = e + 1 by omega, m_roster_h212, if_pos (nI_le (by omega) (by omega))]⟩
  | succ j ih =>
    intro i h S h1 h2 h3 h4
    obtain ⟨S', a1, a2, a3, a4, a5⟩ := ih (i + 1) (by omega) (sA S 39 (upd (S.2.1 39) i (nI (a i)))) h1 h2 h3 (fun q hq => by
      show upd (S.2.1 39) i _ q = _
      by_cases c : q = i
      · rw [c, pk_us]
      · rw [pk_un c]; exact h4 q (by omega))
    refine ⟨S', a1, a2, a3, a4, fun K => ?_⟩
    rw [← a5 K, show j + 1 + 1 + e = (j + 1 + e) + 1 by omega, m_roster_h212, if_neg (nI_ge (by omega) (by omega))]
    simp only [G_in (show i < 8 by omega) (by decide : 8 < 2 ^ 31), nI_clamp (show i < 2 ^ 31 by omega), nI_1, h2 i (by omega)]
/-- a whole roster is met -/
theorem ros_leaf {Sx Sm S : ST} (hV : RV Sx Sm) {t k : Nat} (hk : k + 1 = t) (ht : t ≤ 8) {a : Nat → Nat} {st : RS} (m : Nat) (h : RM Sm S t t a st) (l2 : Int32) : ∃ S', RM Sm S' t t a (vM Sm m 0 t a st) ∧ ∀ (K : ST → Int32 → Int32 → Int32 → Int32 → Int32 → Option (Int32 × ST)) (K2 : ST → Int32 → Int32 → Option (Int32 × ST)), m_roster_j107 K K2 S (nI t) l2 (nI st.1) (bN st.2.1) (nI k) = K S' (nI t) l2 (nI (vM Sm m 0 t a st).1) (bN (vM Sm m 0 t a st).2.1) (nI k) := by
  obtain ⟨h1, h2, h3, h4, h5, h6, h7⟩ := h
  obtain ⟨e, he⟩ := FU_s (t + 1) (by omega)
  have b1 := endR_le Sm a t
  have pre : ∀ (K : ST → Int32 → Int32 → Int32 → Int32 → Int32 → Option (Int32 × ST)) (K2 : ST → Int32 → Int32 → Option (Int32 × ST)), m_roster_j107 K K2 S (nI t) l2 (nI st.1) (bN st.2.1) (nI k) = m_roster_j184 K K2 S (nI t) l2 (nI st.1) (bN st.2.1) (nI k) (nI (endR (spN Sm) a t)) := fun K K2 => by
    unfold m_roster_j107
    rw [nI_1, if_pos (nI_le (by omega) (by omega)), he]
    exact ros_h135 hV h1 ht h2 h3 (m_roster_j184 K K2) l2 (nI st.1) (bN st.2.1) (nI k) e t 0 (by omega)
  have big : ∃ S', RM Sm S' t t a (st.1, endR (spN Sm) a t, a) ∧ ∀ (K : ST → Int32 → Int32 → Int32 → Int32 → Int32 → Option (Int32 × ST)) (K2 : ST → Int32 → Int32 → Option (Int32 × ST)), m_roster_j200 K K2 S (nI t) l2 (nI st.1) (nI k) (nI (endR (spN Sm) a t)) = K S' (nI t) l2 (nI st.1) (bN (endR (spN Sm) a t)) (nI k) := by
    obtain ⟨S', a1, a2, a3, a4, a5⟩ := ros_h212 (Sm := Sm) ht a l2 (nI st.1) (nI (endR (spN Sm) a t)) (nI k) e t 0 (by omega) (sI S 26 (nI t)) h1 h2 rfl (fun q hq => absurd hq (Nat.not_lt_zero q))
    refine ⟨S', ⟨a1, a2, h3, ?_, fun _ => a4, h6, by show endR _ _ _ ≤ 100; omega⟩, fun K K2 => ?_⟩
    · rw [a3, if_neg (show ¬ endR (spN Sm) a t = 100 by omega)]
    · unfold m_roster_j200
      rw [he, bN, if_neg (show ¬ endR (spN Sm) a t = 100 by omega)]; exact a5 _
  rw [vM]
  by_cases c0 : st.2.1 = 100
  · rw [if_pos (show endR (spN Sm) a t < st.2.1 by omega)]
    obtain ⟨S', g1, g2⟩ := big
    refine ⟨S', g1, fun K K2 => ?_⟩
    rw [pre]; unfold m_roster_j184
    rw [show bN st.2.1 = -1 from if_pos c0, if_pos rfl]
    exact g2 K K2
  · by_cases c1 : endR (spN Sm) a t < st.2.1
    · rw [if_pos c1]
      obtain ⟨S', g1, g2⟩ := big
      refine ⟨S', g1, fun K K2 => ?_⟩
      rw [pre]; unfold m_roster_j184
      rw [show bN st.2.1 = nI st.2.1 from if_neg c0, if_neg (nI_m1 (by omega)), if_pos (nI_lt c1 (by omega))]
      exact g2 K K2
    · rw [if_neg c1]
      refine ⟨S, ⟨h1, h2, h3, h4, h5, h6, h7⟩, fun K K2 => ?_⟩
      rw [pre]; unfold m_roster_j184
      rw [show bN st.2.1 = nI st.2.1 from if_neg c0, if_neg (nI_m1 (by omega)), if_neg (nI_nlt (by omega) (by omega))]
def TC (m : Nat) : Nat → Nat
  | 0 => 0
  | d + 1 => m * (1 + TC m d) + 1
def fMr (S : ST) (m d k : Nat) (a : Nat → Nat) : Nat → RS → RS := fun r s => if okR S a k r = true then vM S m d (k + 1) (upn a k r) (max s.1 (k + 1), s.2) else s
theorem vM_m (S : ST) (m m' k : Nat) (a : Nat → Nat) (st : RS) : vM S m 0 k a st = vM S m' 0 k a st := rfl
theorem RM_up {Sm S : ST} {t k r : Nat} {a : Nat → Nat} {st : RS} (h : RM Sm S t k a st) (hr : r < 4) (hk : k < 8) (e : S.2.1 38 k = nI r) : RM Sm S t (k + 1) (upn a k r) (max st.1 (k + 1), st.2) := by
  obtain ⟨h1, h2, h3, h4, h5, h6, h7⟩ := h
  refine ⟨h1, fun i hi => ?_, fun i hi => ?_, h4, h5, by show max st.1 (k + 1) ≤ 8; omega, h7⟩
  · by_cases c : i = k
    · rw [c, upn_s, e]
    · rw [upn_n a c]; exact h2 i (by omega)
  · by_cases c : i = k
    · rw [c, upn_s]; exact hr
    · rw [upn_n a c]; exact h3 i (by omega)
theorem RM_down {Sm S : ST} {t k r : Nat} {a : Nat → Nat} {st : RS} (h : RM Sm S t (k + 1) (upn a k r) st) (h0 : ∀ i, i < k → a i < 4) : RM Sm S t k a st := by
  obtain ⟨h1, h2, h3, h4, h5, h6, h7⟩ := h
  exact ⟨h1, fun i hi => by rw [h2 i (by omega), upn_n a (by omega)], h0, h4, h5, h6, h7⟩
def NODE (Sm : ST) (t m : Nat) (K : ST → Int32 → Int32 → Option (Int32 × ST)) (d : Nat) : Prop := ∀ k, k + d + 1 = t → ∀ S a st, RM Sm S t (k + 1) a st → ∃ c S2, c ≤ TC m d ∧ RM Sm S2 t (k + 1) a (vM Sm m d (k + 1) a st) ∧ ∀ e, m_roster_j107 (m_roster_h42 K (c + e)) K S (nI t) (nI m) (nI st.1) (bN st.2.1) (nI k) = m_roster_h42 K e S2 (nI t) (nI m) (nI (vM Sm m d (k + 1) a st).1) (bN (vM Sm m d (k + 1) a st).2.1) (nI k)
theorem ros_loop {Sx Sm : ST} (hV : RV Sx Sm) {t m : Nat} (ht : t ≤ 8) (hm : m ≤ 4) (K : ST → Int32 → Int32 → Option (Int32 × ST)) {d : Nat} (hN : NODE Sm t m K d) {k : Nat} (hk : k + d + 1 = t) : ∀ j r, r + j = m → ∀ S a st, RM Sm S t k a st → S.2.1 38 k = nI r - 1 → ∃ c S', c ≤ j * (1 + TC m d) + 1 ∧ RM Sm S' t k a (lpR (fMr Sm m d k a) j r st) ∧ (∀ e, m_roster_h42 K (c + e) S (nI t) (nI m) (nI st.1) (bN st.2.1) (nI k) = m_roster_h42 K e S' (nI t) (nI m) (nI (lpR (fMr Sm m d k a) j r st).1) (bN (lpR (fMr Sm m d k a) j r st).2.1) (nI k + -1)) := by
  intro j
  induction j with
  | zero =>
    intro r hr S a st h hS
    refine ⟨1, sA S 38 (upd (S.2.1 38) k (nI r)), by omega, ⟨h.1, fun i hi => by show upd (S.2.1 38) k _ i = _; rw [pk_un (by omega)]; exact h.2.1 i hi, h.2.2⟩, fun e => ?_⟩
    rw [Nat.add_comm 1 e, m_roster_h42, if_neg (nI_pos (by omega))]
    simp only [G_in (show k < 8 by omega) (by decide : 8 < 2 ^ 31), nI_clamp (show k < 2 ^ 31 by omega), hS, Int32.sub_add_cancel]
    rw [if_pos (by show upd (S.2.1 38) k (nI r) k = _; rw [pk_us, show r = m by omega])]
    rfl
  | succ j ih =>
    intro r hr S a st h hS
    have h1 : RM Sm (sA S 38 (upd (S.2.1 38) k (nI r))) t k a st := ⟨h.1, fun i hi => by show upd (S.2.1 38) k _ i = _; rw [pk_un (by omega)]; exact h.2.1 i hi, h.2.2⟩
    have hk1 : (sA S 38 (upd (S.2.1 38) k (nI r))).2.1 38 k = nI r := pk_us
    have step : ∀ e, m_roster_h42 K (e + 1) S (nI t) (nI m) (nI st.1) (bN st.2.1) (nI k) = if okR Sm a k r = true then m_roster_j107 (m_roster_h42 K e) K (sA S 38 (upd (S.2.1 38) k (nI r))) (nI t) (nI m) (nI (max st.1 (k + 1))) (bN st.2.1) (nI k) else m_roster_h42 K e (sA S 38 (upd (S.2.1 38) k (nI r))) (nI t) (nI m) (nI st.1) (bN st.2.1) (nI k) := fun e => by
      have h6 := h.2.2.2.2.2.1
      rw [m_roster_h42, if_neg (nI_pos (by omega))]
      simp only [G_in (show k < 8 by omega) (by decide : 8 < 2 ^ 31), nI_clamp (show k < 2 ^ 31 by omega), hS, Int32.sub_add_cancel, hk1]
      rw [if_neg (fun q => absurd ((nI_eq (by omega) (by omega)).mp q) (by omega)), may_eq hV h1.1 (by omega) (by omega) h1.2.1 h1.2.2.1, chkS, nI_1]
      by_cases c : k + 1 ≤ st.1
      · rw [if_pos (nI_le c (by omega)), Nat.max_eq_left c]
      · rw [if_neg (nI_ge (by omega) (by omega)), Nat.max_eq_right (by omega)]
    rw [lpR]
    by_cases c : okR Sm a k r = true
    · obtain ⟨c1, S2, g0, g1, g2⟩ := hN k hk _ (upn a k r) (max st.1 (k + 1), st.2) (RM_up h1 (show r < 4 by omega) (by omega) hk1)
      have ef : fMr Sm m d k a r st = vM Sm m d (k + 1) (upn a k r) (max st.1 (k + 1), st.2) := by unfold fMr; rw [if_pos c]
      rw [ef]
      obtain ⟨c2, S3, i1, i2, i3⟩ := ih (r + 1) (by omega) S2 a _ (RM_down g1 h.2.2.1) (by rw [g1.2.1 k (by omega), upn_s, nI_pred])
      refine ⟨c1 + c2 + 1, S3, ?_, i2, fun e => ?_⟩
      · rw [Nat.add_mul]; omega
      · rw [show c1 + c2 + 1 + e = (c1 + (c2 + e)) + 1 by omega, step, if_pos c]
        exact (g2 (c2 + e)).trans (i3 e)
    · obtain ⟨c2, S3, i1, i2, i3⟩ := ih (r + 1) (by omega) _ a st h1 (by rw [hk1, nI_pred])
      have ef : fMr Sm m d k a r st = st := by unfold fMr; rw [if_neg c]
      rw [ef]
      refine ⟨c2 + 1, S3, ?_, i2, fun e => ?_⟩
      · rw [Nat.add_mul]; omega
      · rw [show c2 + 1 + e = (c2 + e) + 1 by omega, step, if_neg c]
        exact i3 e
theorem ros_node {Sx Sm : ST} (hV : RV Sx Sm) {t m : Nat} (ht : t ≤ 8) (hm : m ≤ 4) (K : ST → Int32 → Int32 → Option (Int32 × ST)) : ∀ d, NODE Sm t m K d := by
  intro d
  induction d with
  | zero =>
    intro k hk S a st h
    have hk : k + 1 = t := by omega
    subst hk
    obtain ⟨S', g1, g2⟩ := ros_leaf hV rfl ht m h (nI m)
    refine ⟨0, S', Nat.le_refl _, g1, fun e => ?_⟩
    rw [Nat.zero_add]; exact g2 _ _
  | succ d ih =>
    intro k hk S a st h
    have hS : RM Sm (sA S 38 (upd (S.2.1 38) (k + 1) (-1))) t (k + 1) a st := ⟨h.1, fun i hi => by show upd (S.2.1 38) (k + 1) _ i = _; rw [pk_un (by omega)]; exact h.2.1 i hi, h.2.2⟩
    obtain ⟨c, S', g0, g1, g2⟩ := ros_loop hV ht hm K ih (k := k + 1) (by omega) m 0 (by omega) _ a st hS (by show upd (S.2.1 38) (k + 1) (-1) (k + 1) = _; rw [pk_us]; rfl)
    refine ⟨c, S', by rw [TC]; exact g0, g1, fun e => ?_⟩
    unfold m_roster_j107
    rw [nI_1, if_neg (nI_ge (by omega) (by omega))]
    simp only [G_in (show k + 1 < 8 by omega) (by decide : 8 < 2 ^ 31), nI_clamp (show k + 1 < 2 ^ 31 by omega)]
    refine (g2 e).trans ?_
    rw [pk_m1]
    rfl
theorem TC_le {m : Nat} (hm : m ≤ 4) : ∀ d, d ≤ 8 → TC m d ≤ 109225 := by
  have h : ∀ d, TC m d ≤ TC 4 d := by
    intro d
    induction d with
    | zero => exact Nat.le_refl _
    | succ d ih => rw [TC, TC]; have : m * (1 + TC m d) ≤ 4 * (1 + TC 4 d) := Nat.mul_le_mul hm (by omega); omega
  intro d hd
  have := h d
  have : TC 4 d ≤ TC 4 8 := by
    rcases (show d = 0 ∨ d = 1 ∨ d = 2 ∨ d = 3 ∨ d = 4 ∨ d = 5 ∨ d = 6 ∨ d = 7 ∨ d = 8 by omega) with rfl | rfl | rfl | rfl | rfl | rfl | rfl | rfl | rfl <;> decide
  have : TC 4 8 = 109225 := by decide
  omega
def st0 : RS := (0, 100, fun _ => 0)
theorem mros_eq {Sx Sm : ST} (hV : RV Sx Sm) {t m : Nat} (h1 : 1 ≤ t) (ht : t ≤ 8) (hm : m ≤ 4) : ∃ S', RM Sm S' t 0 (fun _ => 0) (vM Sm m t 0 (fun _ => 0) st0) ∧ m_roster_h42 m_roster_j241 FU (sA (sI Sm 26 0) 38 (upd (Sm.2.1 38) 0 (-1))) (nI t) (nI m) 0 (-1) 0 = m_roster_j241 S' (nI (vM Sm m t 0 (fun _ => 0) st0).1) (bN (vM Sm m t 0 (fun _ => 0) st0).2.1) := by
  obtain ⟨d, rfl⟩ : ∃ d, t = d + 1 := ⟨t - 1, by omega⟩
  have hS : RM Sm (sA (sI Sm 26 0) 38 (upd (Sm.2.1 38) 0 (-1))) (d + 1) 0 (fun _ => 0) st0 := ⟨rfl, fun i hi => absurd hi (Nat.not_lt_zero i), fun i hi => absurd hi (Nat.not_lt_zero i), rfl, fun q => absurd rfl q, by decide, by decide⟩
  obtain ⟨c, S', g0, g1, g2⟩ := ros_loop hV ht hm m_roster_j241 (ros_node hV ht hm m_roster_j241 d) (k := 0) (by omega) m 0 (by omega) _ (fun _ => 0) st0 hS (by show upd (Sm.2.1 38) 0 (-1) 0 = _; rw [pk_us]; rfl)
  have := TC_le hm (d + 1) ht
  rw [TC] at this
  obtain ⟨e, he⟩ := FU_s (c + 1) (by omega)
  refine ⟨S', g1, ?_⟩
  have g3 := g2 (1 + e)
  rw [← Nat.add_assoc, ← he] at g3
  refine g3.trans ?_
  rw [Nat.add_comm 1 e, m_roster_h42, if_pos (by decide)]
  rfl
