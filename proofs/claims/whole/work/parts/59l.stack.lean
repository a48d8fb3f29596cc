/-! the stack of operators that wait -/
def isS (x : Nat) : Bool := decide (x = 29) || decide (x = 30)
def opens : List Nat → Nat
  | [] => 0
  | x :: r => (if x = 35 then 1 else 0) + opens r
def nops : List Nat → Nat
  | [] => 0
  | x :: r => (if x = 35 then 0 else 1) + nops r
def stt : List Nat → Nat → Prop
  | [], s => s = 0
  | x :: r, s => (x = 35 ∧ s = 0 ∧ ∃ s', stt r s') ∨ ((x = 27 ∨ x = 28) ∧ s = 1 ∧ stt r 0) ∨ ((x = 29 ∨ x = 30) ∧ ((s = 2 ∧ stt r 0) ∨ (s = 3 ∧ stt r 1)))
theorem stt_len : ∀ {ws : List Nat} {s : Nat}, stt ws s → ws.length ≤ 3 * opens ws + s ∧ ws.length ≤ 3 * opens ws + 2 ∧ s ≤ 3 ∧ nops ws + opens ws = ws.length := by
  intro ws
  induction ws with
  | nil => intro s h; have h : s = 0 := h; subst h; exact ⟨Nat.le_refl _, by decide, by decide, rfl⟩
  | cons x r ih =>
    intro s h
    rcases h with ⟨rfl, rfl, s', h⟩ | ⟨hx, rfl, h⟩ | ⟨hx, ⟨rfl, h⟩ | ⟨rfl, h⟩⟩
    · have := ih h
      simp only [opens, nops, List.length_cons, if_true]
      omega
    · have := ih h
      have h35 : ¬ x = 35 := by omega
      simp only [opens, nops, List.length_cons, h35, if_false]
      omega
    · have := ih h
      have h35 : ¬ x = 35 := by omega
      simp only [opens, nops, List.length_cons, h35, if_false]
      omega
    · have := ih h
      have h35 : ¬ x = 35 := by omega
      simp only [opens, nops, List.length_cons, h35, if_false]
      omega
def popW (st : Bool) : List Nat → List Nat × List OP
  | [] => ([], [])
  | x :: r => if (!decide (x = 35) && (!st || isS x)) = true then ((popW st r).1, (x - 25, 0) :: (popW st r).2) else (x :: r, [])
def wfP : List OP → Nat → Nat → Prop
  | [], h, k => h = k
  | o :: r, h, k => okO o ∧ ((o.1 < 2 ∧ h < 31 ∧ wfP r (h + 1) k) ∨ (2 ≤ o.1 ∧ 2 ≤ h ∧ wfP r (h - 1) k))
theorem wfP_app : ∀ {a b : List OP} {h m k : Nat}, wfP a h m → wfP b m k → wfP (a ++ b) h k := by
  intro a
  induction a with
  | nil => intro b h m k h1 h2; have h1 : h = m := h1; subst h1; exact h2
  | cons o r ih =>
    intro b h m k h1 h2
    obtain ⟨h0, h1⟩ := h1
    refine ⟨h0, ?_⟩
    rcases h1 with ⟨a1, a2, a3⟩ | ⟨a1, a2, a3⟩
    · exact Or.inl ⟨a1, a2, ih a3 h2⟩
    · exact Or.inr ⟨a1, a2, ih a3 h2⟩
theorem wfP_O : ∀ {a : List OP} {h : Nat}, wfP a h 1 → wfO a h := by
  intro a
  induction a with
  | nil => intro h h1; exact h1
  | cons o r ih =>
    intro h h1
    obtain ⟨h0, h1⟩ := h1
    refine ⟨h0, ?_⟩
    rcases h1 with ⟨a1, a2, a3⟩ | ⟨a1, a2, a3⟩
    · exact Or.inl ⟨a1, a2, ih a3⟩
    · exact Or.inr ⟨a1, a2, ih a3⟩
theorem wfP_1 {o : OP} {h : Nat} (ho : okO o) (h2 : o.1 < 2) (hh : h < 31) : wfP [o] h (h + 1) := ⟨ho, Or.inl ⟨h2, hh, rfl⟩⟩
theorem pop_p (st : Bool) : ∀ {ws : List Nat} {s : Nat}, stt ws s → opens (popW st ws).1 = opens ws ∧ nops (popW st ws).1 + (popW st ws).2.length = nops ws ∧ (st = false → stt (popW st ws).1 0) ∧ (stt (popW st ws).1 0 ∨ stt (popW st ws).1 1) ∧ wfP (popW st ws).2 (nops ws + 1) (nops (popW st ws).1 + 1) := by
  intro ws
  induction ws with
  | nil => intro s _; exact ⟨rfl, rfl, fun _ => rfl, Or.inl rfl, rfl⟩
  | cons x r ih =>
    intro s h
    have stop : ∀ (hp : (!decide (x = 35) && (!st || isS x)) = false), popW st (x :: r) = (x :: r, []) := fun hp => by rw [popW, hp]; rfl
    have go : ∀ (hp : (!decide (x = 35) && (!st || isS x)) = true), popW st (x :: r) = ((popW st r).1, (x - 25, 0) :: (popW st r).2) := fun hp => by rw [popW, if_pos hp]
    have fin : ∀ {s' : Nat}, 27 ≤ x → x ≤ 30 → stt r s' → (!decide (x = 35) && (!st || isS x)) = true → opens (popW st (x :: r)).1 = opens (x :: r) ∧ nops (popW st (x :: r)).1 + (popW st (x :: r)).2.length = nops (x :: r) ∧ (st = false → stt (popW st (x :: r)).1 0) ∧ (stt (popW st (x :: r)).1 0 ∨ stt (popW st (x :: r)).1 1) ∧ wfP (popW st (x :: r)).2 (nops (x :: r) + 1) (nops (popW st (x :: r)).1 + 1) := fun h1 h2 hs hp => by
      obtain ⟨i1, i2, i3, i4, i5⟩ := ih hs
      have h35 : ¬ x = 35 := by omega
      rw [go hp]
      refine ⟨?_, ?_, i3, i4, ?_⟩
      · simp only [opens, h35, if_false]; omega
      · simp only [nops, h35, if_false, List.length_cons]; omega
      · refine ⟨Or.inr (Or.inr ⟨by show 2 ≤ x - 25; omega, by show x - 25 ≤ 5; omega⟩), Or.inr ⟨by show 2 ≤ x - 25; omega, by simp only [nops, h35, if_false]; omega, ?_⟩⟩
        simp only [nops, h35, if_false]
        rw [show 1 + nops r + 1 - 1 = nops r + 1 by omega]
        exact i5
    rcases h with ⟨rfl, rfl, s', h⟩ | ⟨hx, rfl, h⟩ | ⟨hx, h⟩
    · rw [stop (by simp)]
      exact ⟨rfl, by simp, fun _ => Or.inl ⟨rfl, rfl, s', h⟩, Or.inl (Or.inl ⟨rfl, rfl, s', h⟩), rfl⟩
    · have h35 : ¬ x = 35 := by omega
      have hS : isS x = false := by unfold isS; rw [decide_eq_false (by omega), decide_eq_false (by omega)]; rfl
      cases st
      · exact fin (by omega) (by omega) h (by rw [decide_eq_false h35]; rfl)
      · rw [stop (by rw [hS]; simp)]
        exact ⟨rfl, by simp, fun z => absurd z (by decide), Or.inr (Or.inr (Or.inl ⟨hx, rfl, h⟩)), rfl⟩
    · have h35 : ¬ x = 35 := by omega
      have hS : isS x = true := by
        unfold isS
        rcases hx with q | q <;> subst q <;> rfl
      rcases h with ⟨-, h⟩ | ⟨-, h⟩
      · exact fin (by omega) (by omega) h (by rw [decide_eq_false h35, hS]; simp)
      · exact fin (by omega) (by omega) h (by rw [decide_eq_false h35, hS]; simp)
theorem pop_open : ∀ {ws : List Nat} {s : Nat}, stt ws s → 0 < opens ws → ∃ r s', (popW false ws).1 = 35 :: r ∧ stt r s' := by
  intro ws
  induction ws with
  | nil => intro s _ h; exact absurd h (by decide)
  | cons x r ih =>
    intro s h ho
    rcases h with ⟨rfl, rfl, s', h⟩ | ⟨hx, rfl, h⟩ | ⟨hx, h⟩
    · exact ⟨r, s', by rw [popW]; rfl, h⟩
    · have h35 : ¬ x = 35 := by omega
      rw [popW, if_pos (by rw [decide_eq_false h35]; rfl)]
      exact ih h (by simp only [opens, h35, if_false] at ho; omega)
    · have h35 : ¬ x = 35 := by omega
      rw [popW, if_pos (by rw [decide_eq_false h35]; rfl)]
      have ho' : 0 < opens r := by simp only [opens, h35, if_false] at ho; omega
      rcases h with ⟨-, h⟩ | ⟨-, h⟩
      · exact ih h ho'
      · exact ih h ho'
theorem pop_nil : ∀ {ws : List Nat} {s : Nat}, stt ws s → opens ws = 0 → (popW false ws).1 = [] := by
  intro ws
  induction ws with
  | nil => intro s _ _; rfl
  | cons x r ih =>
    intro s h ho
    rcases h with ⟨rfl, rfl, s', h⟩ | ⟨hx, rfl, h⟩ | ⟨hx, h⟩
    · simp only [opens, if_true] at ho; omega
    · have h35 : ¬ x = 35 := by omega
      rw [popW, if_pos (by rw [decide_eq_false h35]; rfl)]
      exact ih h (by simp only [opens, h35, if_false] at ho; omega)
    · have h35 : ¬ x = 35 := by omega
      rw [popW, if_pos (by rw [decide_eq_false h35]; rfl)]
      have ho' : opens r = 0 := by simp only [opens, h35, if_false] at ho; omega
      rcases h with ⟨-, h⟩ | ⟨-, h⟩
      · exact ih h ho'
      · exact ih h ho'
/-! what lies in the code -/
theorem sgN_c {f g : Nat → Int32} : ∀ {l : List Nat} {a : Nat}, (∀ i, a ≤ i → i < a + l.length → g i = f i) → sgN f a l → sgN g a l := by
  intro l
  induction l with
  | nil => intro a _ _; trivial
  | cons x r ih =>
    intro a h hl
    exact ⟨(h a (Nat.le_refl _) (by simp)).trans hl.1, ih (fun i h1 h2 => h i (by omega) (by simp; omega)) hl.2⟩
theorem sgM_c {f g f' g' : Nat → Int32} : ∀ {l : List OP} {a : Nat}, (∀ i, a ≤ i → i < a + l.length → f' i = f i ∧ g' i = g i) → sgM f g a l → sgM f' g' a l := by
  intro l
  induction l with
  | nil => intro a _ _; trivial
  | cons x r ih =>
    intro a h hl
    obtain ⟨h1, h2⟩ := h a (Nat.le_refl _) (by simp)
    exact ⟨h1.trans hl.1, h2.trans hl.2.1, ih (fun i h1 h2 => h i (by omega) (by simp; omega)) hl.2.2⟩
theorem sgM_mk {f g : Nat → Int32} : ∀ {l k : List OP} {a : Nat}, sgM f g a l → sgM f g (a + l.length) k → sgM f g a (l ++ k) := by
  intro l
  induction l with
  | nil => intro k a _ h; exact h
  | cons x r ih =>
    intro k a h1 h2
    refine ⟨h1.1, h1.2.1, ih h1.2.2 ?_⟩
    rw [show a + 1 + r.length = a + (x :: r).length by simp; omega]
    exact h2
theorem emX {S : ST} {a : Nat} (ha : a < 2400) (e : S.1 2 = nI a) (v : Int32) : x7_emit S v = some (sI (sA S 1 (upd (S.2.1 1) a v)) 2 (nI (a + 1))) := by
  unfold x7_emit
  rw [e, if_neg (nI_pos (by omega)), if_neg (show ¬ (2400 : Int32) ≤ nI a from nI_ge (b := 2400) ha (by decide)), G_in ha (by decide), nI_clamp (by omega)]
  show some (sI (sA S 1 (upd (S.2.1 1) a v)) 2 (S.1 2 + 1)) = _
  rw [e, nI_1]
theorem emM {T : ST} {d : Nat} (hd : d < 2800) (e : T.1 13 = nI d) (k v : Int32) : m_emit T k v = some (sI (sA (sA T 18 (upd (T.2.1 18) d k)) 19 (upd (T.2.1 19) d v)) 13 (nI (d + 1))) := by
  unfold m_emit
  rw [e, G_in hd (by decide), nI_clamp (by omega)]
  simp only [show (sA T 18 (upd (T.2.1 18) d k)).1 13 = nI d from e, G_in hd (by decide : 2800 < 2 ^ 31), nI_clamp (show d < 2 ^ 31 by omega)]
  show some (sI (sA (sA T 18 (upd (T.2.1 18) d k)) 19 (upd (T.2.1 19) d v)) 13 (T.1 13 + 1)) = _
  rw [e, nI_1]
theorem hoX {S : ST} {w : Nat} (hw : w < 32) (e : S.1 5 = nI w) (v : Int32) : x2_hold S v = some (sI (sA S 12 (upd (S.2.1 12) w v)) 5 (nI (w + 1))) := by
  unfold x2_hold
  rw [e, if_neg (nI_pos (by omega)), if_neg (show ¬ (32 : Int32) ≤ nI w from nI_ge (b := 32) hw (by decide)), G_in hw (by decide), nI_clamp (by omega)]
  show some (sI (sA S 12 (upd (S.2.1 12) w v)) 5 (S.1 5 + 1)) = _
  rw [e, nI_1]
theorem bat_y {x y : Nat} (hx : x ≤ 38) (hy : 27 ≤ y) (hy2 : y ≤ 30) : x2_bindsAsTight (nI x) (nI y) = some (bit (!decide (x = 35) && (!isS y || isS x))) := by
  have : ∀ x, x < 39 → ∀ y, y < 31 → 27 ≤ y → x2_bindsAsTight (nI x) (nI y) = some (bit (!decide (x = 35) && (!isS y || isS x))) := by decide +kernel
  exact this x (by omega) y (by omega) hy
theorem popX {y : Nat} (hy : 27 ≤ y) (hy2 : y ≤ 30) (e : Nat) : ∀ (ws : List Nat) (s a : Nat) (S : ST), stt ws s → ws.length ≤ 32 → S.1 5 = nI ws.length → rlA (S.2.1 12) ws → S.1 2 = nI a → a + nops ws ≤ 2400 → ∃ S', x2_emitWaiting_h0 (ws.length + 1 + e) S (nI y) = some S' ∧ g3 [2, 5] [1] [] S S' ∧ S'.1 5 = nI (popW (isS y) ws).1.length ∧ rlA (S'.2.1 12) (popW (isS y) ws).1 ∧ S'.1 2 = nI (a + (popW (isS y) ws).2.length) ∧ sgN (S'.2.1 1) a ((popW (isS y) ws).2.map xen) ∧ ∀ i, i < a → S'.2.1 1 i = S.2.1 1 i := by
  intro ws
  induction ws with
  | nil =>
    intro s a S hs hl h5 hr h2 hb
    refine ⟨S, ?_, g3_rfl _ _ _ _, h5, trivial, h2, trivial, fun _ _ => rfl⟩
    rw [show ([] : List Nat).length + 1 + e = e + 1 by simp; omega, x2_emitWaiting_h0, h5, if_pos (by decide)]
  | cons x r ih =>
    intro s a S hs hl h5 hr h2 hb
    rw [List.length_cons] at hl h5
    have hx : x ≤ 38 ∧ (¬ x = 35 → 27 ≤ x ∧ x ≤ 30 ∧ ∃ s', stt r s') := by
      rcases hs with ⟨rfl, rfl, s', h⟩ | ⟨hx, rfl, h⟩ | ⟨hx, h⟩
      · exact ⟨by omega, fun z => absurd rfl z⟩
      · exact ⟨by omega, fun _ => ⟨by omega, by omega, 0, h⟩⟩
      · refine ⟨by omega, fun _ => ⟨by omega, by omega, ?_⟩⟩
        rcases h with ⟨-, h⟩ | ⟨-, h⟩
        · exact ⟨_, h⟩
        · exact ⟨_, h⟩
    rw [List.length_cons, show r.length + 1 + 1 + e = (r.length + 1 + e) + 1 by omega, x2_emitWaiting_h0, h5, if_neg (show ¬ nI (r.length + 1) ≤ 0 from nI_ge (a := 0) (by omega) (by omega)), nI_p, G_in (by omega) (by decide), nI_clamp (by omega), hr.1, bat_y hx.1 hy hy2, chk, popW]
    cases c : (!decide (x = 35) && (!isS y || isS x))
    · simp only [Bool.false_eq_true, if_false]
      exact ⟨S, rfl, g3_rfl _ _ _ _, h5, hr, h2, trivial, fun _ _ => rfl⟩
    · simp only [if_true]
      have h35 : ¬ x = 35 := by rw [Bool.and_eq_true] at c; simpa using c.1
      obtain ⟨b1, b2, s', b3⟩ := hx.2 h35
      simp only [nops, h35, if_false] at hb
      have e5 : (sI S 5 (nI r.length)).1 5 = nI r.length := rfl
      simp only [e5, nI_clamp (show r.length < 2 ^ 31 by omega), G_in (show r.length < 32 by omega) (by decide : 32 < 2 ^ 31)]
      rw [show (sI S 5 (nI r.length)).2.1 12 r.length = nI x from hr.1, show (20000 : Int32) = nI 20000 from rfl, nI_add, emX (S := sI S 5 (nI r.length)) (a := a) (by omega) h2, calV_s]
      obtain ⟨S', g1, g2, g3', g4, g5, g6, g7⟩ := ih s' (a + 1) (sI (sA (sI S 5 (nI r.length)) 1 (upd (S.2.1 1) a (nI (20000 + x)))) 2 (nI (a + 1))) b3 (by omega) rfl hr.2 rfl (by omega)
      refine ⟨S', g1, g3_tr (g3_tr (g3_I _ _ (by decide)) (g3_tr (g3_A _ _ (by decide)) (g3_I _ _ (by decide)))) g2, g3', g4, ?_, ⟨?_, g6⟩, fun i hi => ?_⟩
      · rw [g5, List.length_cons]; congr 1; omega
      · rw [g7 a (by omega)]
        show upd (S.2.1 1) a (nI (20000 + x)) a = nI (xen (x - 25, 0))
        rw [pk_us]
        unfold xen
        rw [if_neg (by show ¬ x - 25 = 0; omega), if_neg (by show ¬ x - 25 = 1; omega)]
        congr 1
        show 20000 + x = 20025 + (x - 25)
        omega
      · rw [g7 i (by omega)]; exact pk_un (by omega)
theorem km_op : ∀ x, x < 31 → 27 ≤ x → (nI (kM x) = 6) = False ∧ (if nI (kM x) = 8 then (2 : Int32) else if nI (kM x) = 9 then 3 else if nI (kM x) = 10 then 4 else 5) = nI (x - 25) ∧ decide (nI (kM x) = 8 ∨ nI (kM x) = 9) = !isS x := by decide +kernel
theorem popM (st : Bool) (e : Nat) : ∀ (ws : List Nat) (s d : Nat) (T : ST), stt ws s → ws.length ≤ 64 → T.1 14 = nI ws.length → rlA (T.2.1 20) (ws.map kM) → T.1 13 = nI d → d + nops ws ≤ 2800 → ∃ T', m_comesOut_h0 (ws.length + 1 + e) T (bit st) = some T' ∧ g3 [13, 14] [18, 19] [] T T' ∧ T'.1 14 = nI (popW st ws).1.length ∧ rlA (T'.2.1 20) ((popW st ws).1.map kM) ∧ T'.1 13 = nI (d + (popW st ws).2.length) ∧ sgM (T'.2.1 18) (T'.2.1 19) d (popW st ws).2 ∧ ∀ i, i < d → T'.2.1 18 i = T.2.1 18 i ∧ T'.2.1 19 i = T.2.1 19 i := by
  intro ws
  induction ws with
  | nil =>
    intro s d T hs hl h5 hr h2 hb
    refine ⟨T, ?_, g3_rfl _ _ _ _, h5, trivial, h2, trivial, fun _ _ => ⟨rfl, rfl⟩⟩
    rw [show ([] : List Nat).length + 1 + e = e + 1 by simp; omega, m_comesOut_h0, h5, if_pos (by decide)]
  | cons x r ih =>
    intro s d T hs hl h5 hr h2 hb
    rw [List.length_cons] at hl h5
    have hr1 : T.2.1 20 r.length = nI (kM x) := by have := hr.1; rw [List.length_map] at this; exact this
    have hx : x = 35 ∨ (27 ≤ x ∧ x ≤ 30 ∧ ∃ s', stt r s') := by
      rcases hs with ⟨rfl, rfl, s', h⟩ | ⟨hx, rfl, h⟩ | ⟨hx, h⟩
      · exact Or.inl rfl
      · exact Or.inr ⟨by omega, by omega, 0, h⟩
      · refine Or.inr ⟨by omega, by omega, ?_⟩
        rcases h with ⟨-, h⟩ | ⟨-, h⟩
        · exact ⟨_, h⟩
        · exact ⟨_, h⟩
    rw [List.length_cons, show r.length + 1 + 1 + e = (r.length + 1 + e) + 1 by omega, m_comesOut_h0, h5, if_neg (show ¬ nI (r.length + 1) ≤ 0 from nI_ge (a := 0) (by omega) (by omega)), nI_p, G_in (by omega) (by decide), nI_clamp (by omega), hr1, popW]
    rcases hx with rfl | ⟨b1, b2, s', b3⟩
    · rw [if_pos (show nI (kM 35) = 6 from rfl), if_neg (by simp)]
      exact ⟨T, rfl, g3_rfl _ _ _ _, h5, hr, h2, trivial, fun _ _ => ⟨rfl, rfl⟩⟩
    · obtain ⟨k1, k2, k3⟩ := km_op x (by omega) b1
      have h35 : ¬ x = 35 := by omega
      simp only [nops, h35, if_false] at hb
      have go : ∃ T', m_comesOut_j42 (m_comesOut_h0 (r.length + 1 + e)) T (bit st) (nI (kM x)) = some T' ∧ g3 [13, 14] [18, 19] [] T T' ∧ T'.1 14 = nI (popW st r).1.length ∧ rlA (T'.2.1 20) ((popW st r).1.map kM) ∧ T'.1 13 = nI (d + ((x - 25, 0) :: (popW st r).2 : List OP).length) ∧ sgM (T'.2.1 18) (T'.2.1 19) d ((x - 25, 0) :: (popW st r).2) ∧ ∀ i, i < d → T'.2.1 18 i = T.2.1 18 i ∧ T'.2.1 19 i = T.2.1 19 i := by
        have j84 : ∀ v, m_comesOut_j84 (m_comesOut_h0 (r.length + 1 + e)) (sI T 14 (nI r.length)) (bit st) v = m_comesOut_h0 (r.length + 1 + e) (sI (sA (sA (sI T 14 (nI r.length)) 18 (upd (T.2.1 18) d v)) 19 (upd (T.2.1 19) d 0)) 13 (nI (d + 1))) (bit st) := fun v => by
          unfold m_comesOut_j84
          rw [emM (T := sI T 14 (nI r.length)) (d := d) (by omega) h2, calV_s]
          rfl
        have e42 : m_comesOut_j42 (m_comesOut_h0 (r.length + 1 + e)) T (bit st) (nI (kM x)) = m_comesOut_j84 (m_comesOut_h0 (r.length + 1 + e)) (sI T 14 (nI r.length)) (bit st) (nI (x - 25)) := by
          unfold m_comesOut_j42
          rw [h5, nI_p, ← k2]
          dsimp only
          by_cases a8 : nI (kM x) = 8
          · rw [if_pos a8, if_pos a8]
          · rw [if_neg a8, if_neg a8]
            by_cases a9 : nI (kM x) = 9
            · rw [if_pos a9, if_pos a9]
            · rw [if_neg a9, if_neg a9]
              by_cases a10 : nI (kM x) = 10
              · rw [if_pos a10, if_pos a10]
              · rw [if_neg a10, if_neg a10]
        rw [e42, j84]
        obtain ⟨T', g1, g2, g3', g4, g5, g6, g7⟩ := ih s' (d + 1) (sI (sA (sA (sI T 14 (nI r.length)) 18 (upd (T.2.1 18) d (nI (x - 25)))) 19 (upd (T.2.1 19) d 0)) 13 (nI (d + 1))) b3 (by omega) rfl hr.2 rfl (by omega)
        refine ⟨T', g1, g3_tr (g3_tr (g3_I _ _ (by decide)) (g3_tr (g3_A _ _ (by decide)) (g3_tr (g3_A _ _ (by decide)) (g3_I _ _ (by decide))))) g2, g3', g4, ?_, ⟨?_, ?_, g6⟩, fun i hi => ⟨?_, ?_⟩⟩
        · rw [g5, List.length_cons]; congr 1; omega
        · rw [(g7 d (by omega)).1]; exact pk_us
        · rw [(g7 d (by omega)).2]; exact pk_us
        · rw [(g7 i (by omega)).1]; exact pk_un (by omega)
        · rw [(g7 i (by omega)).2]; exact pk_un (by omega)
      rw [if_neg (by rw [k1]; exact id)]
      cases st
      · rw [if_pos (show bit false = 0 from rfl), if_pos (by rw [decide_eq_false h35]; rfl)]
        exact go
      · rw [if_neg (show ¬ bit true = 0 from by decide)]
        cases cs : isS x
        · rw [cs] at k3
          have k4 := of_decide_eq_true k3
          rw [if_neg (show ¬ (!decide (x = 35) && (!true || false)) = true from by simp)]
          refine ⟨T, ?_, g3_rfl _ _ _ _, h5, hr, h2, trivial, fun _ _ => ⟨rfl, rfl⟩⟩
          by_cases a8 : nI (kM x) = 8
          · rw [if_pos a8]
          · rw [if_neg a8, if_pos (k4.resolve_left a8)]
        · rw [cs] at k3
          have k4 := of_decide_eq_false k3
          rw [if_neg (fun z => k4 (Or.inl z)), if_neg (fun z => k4 (Or.inr z)), if_pos (by rw [decide_eq_false h35]; rfl)]
          exact go
