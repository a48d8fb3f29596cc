def opv (k : Nat) (x y : Int32) : Int32 := if k = 2 then x + y else if k = 3 then x - y else if k = 4 then x * y else x / y
def ev (v : Nat → Int32) : List OP → List Int32 → Bool → List Int32 × Bool
  | [], st, b => (st, b)
  | o :: r, st, b => if o.1 = 0 then ev v r (nI o.2 :: st) b else if o.1 = 1 then ev v r (v o.2 :: st) b else if o.1 = 5 ∧ st.headD 0 = 0 then ev v r (0 :: st.tail.tail) true else ev v r (opv o.1 (st.tail.headD 0) (st.headD 0) :: st.tail.tail) b
def stk (f : Nat → Int32) : List Int32 → Prop
  | [] => True
  | x :: r => f r.length = x ∧ stk f r
theorem stk_u {f : Nat → Int32} {n : Nat} {x : Int32} : ∀ {st : List Int32}, st.length ≤ n → stk f st → stk (upd f n x) st := by
  intro st
  induction st with
  | nil => intro _ _; trivial
  | cons y r ih =>
    intro h hs
    simp only [List.length_cons] at h
    exact ⟨(pk_un (by omega)).trans hs.1, ih (by omega) hs.2⟩
theorem ev_t (v : Nat → Int32) : ∀ (ops : List OP) (h base : Nat) (st : List Int32), st.length = h + base → wfO ops h → (ev v ops st true).2 = true := by
  intro ops
  induction ops with
  | nil => intro h base st _ _; rfl
  | cons o r ih =>
    intro h base st hl hw
    rw [wfO] at hw
    rw [ev]
    rcases hw.2 with ⟨h1, h2, h3⟩ | ⟨h1, h2, h3⟩
    · by_cases c : o.1 = 0
      · rw [if_pos c]; exact ih (h + 1) base _ (by simp only [List.length_cons]; omega) h3
      · rw [if_neg c, if_pos (by omega)]; exact ih (h + 1) base _ (by simp only [List.length_cons]; omega) h3
    · rw [if_neg (by omega), if_neg (by omega)]
      match st, hl with
      | y :: x :: s, hl =>
        simp only [List.length_cons] at hl
        show (if o.1 = 5 ∧ y = 0 then ev v r (0 :: s) true else ev v r (opv o.1 x y :: s) true).2 = true
        split
        · exact ih (h - 1) base _ (by simp only [List.length_cons]; omega) h3
        · exact ih (h - 1) base _ (by simp only [List.length_cons]; omega) h3
      | [_], hl => simp only [List.length_cons, List.length_nil] at hl; omega
      | [], hl => simp only [List.length_nil] at hl; omega
theorem ev_or (v : Nat → Int32) : ∀ (ops : List OP) (h base : Nat) (st : List Int32) (b : Bool), st.length = h + base → wfO ops h → ev v ops st b = ((ev v ops st false).1, b || (ev v ops st false).2) := by
  intro ops
  induction ops with
  | nil => intro h base st b _ _; cases b <;> rfl
  | cons o r ih =>
    intro h base st b hl hw
    rw [wfO] at hw
    rw [ev, ev]
    rcases hw.2 with ⟨h1, h2, h3⟩ | ⟨h1, h2, h3⟩
    · by_cases c : o.1 = 0
      · rw [if_pos c, if_pos c]; exact ih (h + 1) base _ b (by simp only [List.length_cons]; omega) h3
      · rw [if_neg c, if_pos (show o.1 = 1 by omega), if_neg c, if_pos (show o.1 = 1 by omega)]; exact ih (h + 1) base _ b (by simp only [List.length_cons]; omega) h3
    · simp only [show ¬ o.1 = 0 by omega, show ¬ o.1 = 1 by omega, if_false]
      match st, hl with
      | y :: x :: s, hl =>
        simp only [List.length_cons] at hl
        show (if o.1 = 5 ∧ y = 0 then ev v r (0 :: s) true else ev v r (opv o.1 x y :: s) b) = ((if o.1 = 5 ∧ y = 0 then ev v r (0 :: s) true else ev v r (opv o.1 x y :: s) false).1, b || (if o.1 = 5 ∧ y = 0 then ev v r (0 :: s) true else ev v r (opv o.1 x y :: s) false).2)
        by_cases c : o.1 = 5 ∧ y = 0
        · have q := ev_t v r (h - 1) base (0 :: s) (by simp only [List.length_cons]; omega) h3
          rw [if_pos c, if_pos c, q, Bool.or_true]
          exact Prod.ext rfl q
        · rw [if_neg c, if_neg c]; exact ih (h - 1) base _ b (by simp only [List.length_cons]; omega) h3
      | [_], hl => simp only [List.length_cons, List.length_nil] at hl; omega
      | [], hl => simp only [List.length_nil] at hl; omega
theorem ev_app (v : Nat → Int32) (z : List Int32) : ∀ (ops : List OP) (st : List Int32) (b : Bool), wfO ops st.length → ev v ops (st ++ z) b = ((ev v ops st b).1 ++ z, (ev v ops st b).2) := by
  intro ops
  induction ops with
  | nil => intro st b _; rfl
  | cons o r ih =>
    intro st b hw
    rw [wfO] at hw
    rw [ev, ev]
    rcases hw.2 with ⟨h1, h2, h3⟩ | ⟨h1, h2, h3⟩
    · by_cases c : o.1 = 0
      · rw [if_pos c, if_pos c]; exact ih (nI o.2 :: st) b h3
      · rw [if_neg c, if_pos (show o.1 = 1 by omega), if_neg c, if_pos (show o.1 = 1 by omega)]; exact ih (v o.2 :: st) b h3
    · simp only [show ¬ o.1 = 0 by omega, show ¬ o.1 = 1 by omega, if_false]
      match st, h2, h3 with
      | y :: x :: s, h2, h3 =>
        show (if o.1 = 5 ∧ y = 0 then ev v r (0 :: s ++ z) true else ev v r (opv o.1 x y :: s ++ z) b) = ((if o.1 = 5 ∧ y = 0 then ev v r (0 :: s) true else ev v r (opv o.1 x y :: s) b).1 ++ z, (if o.1 = 5 ∧ y = 0 then ev v r (0 :: s) true else ev v r (opv o.1 x y :: s) b).2)
        by_cases c : o.1 = 5 ∧ y = 0
        · rw [if_pos c, if_pos c]; exact ih (0 :: s) true h3
        · rw [if_neg c, if_neg c]; exact ih (opv o.1 x y :: s) b h3
      | [_], h2, h3 => simp only [List.length_cons, List.length_nil] at h2; omega
      | [], h2, h3 => simp only [List.length_nil] at h2; omega
theorem ev_1 (v : Nat → Int32) : ∀ (ops : List OP) (st : List Int32) (b : Bool), wfO ops st.length → ∃ x, (ev v ops st b).1 = [x] := by
  intro ops
  induction ops with
  | nil =>
    intro st b hw
    rw [wfO] at hw
    match st, hw with
    | [x], _ => exact ⟨x, rfl⟩
    | [], hw => simp at hw
    | _ :: _ :: _, hw => simp at hw
  | cons o r ih =>
    intro st b hw
    rw [wfO] at hw
    rw [ev]
    rcases hw.2 with ⟨h1, h2, h3⟩ | ⟨h1, h2, h3⟩
    · by_cases c : o.1 = 0
      · rw [if_pos c]; exact ih (nI o.2 :: st) b h3
      · rw [if_neg c, if_pos (show o.1 = 1 by omega)]; exact ih (v o.2 :: st) b h3
    · rw [if_neg (by omega), if_neg (by omega)]
      match st, h2, h3 with
      | y :: x :: s, h2, h3 =>
        show ∃ q, (if o.1 = 5 ∧ y = 0 then ev v r (0 :: s) true else ev v r (opv o.1 x y :: s) b).1 = [q]
        by_cases c : o.1 = 5 ∧ y = 0
        · rw [if_pos c]; exact ih (0 :: s) true h3
        · rw [if_neg c]; exact ih (opv o.1 x y :: s) b h3
      | [_], h2, h3 => simp only [List.length_cons, List.length_nil] at h2; omega
      | [], h2, h3 => simp only [List.length_nil] at h2; omega
/-- an expression's value; 0 when it is divided by 0 -/
def evB (v : Nat → Int32) (ops : List OP) : Bool := (ev v ops [] false).2
def evV (v : Nat → Int32) (ops : List OP) : Int32 := if evB v ops = true then 0 else (ev v ops [] false).1.headD 0
/-! the reference -/
def VM (S : ST) (v : Nat → Int32) : Prop := ∀ i, i < 12 → S.2.1 21 i = v i
theorem trm_h10 {v : Nat → Int32} {to : Nat} (hto : to ≤ 2800) : ∀ (ops : List OP) (a : Nat) (st : List Int32) (S : ST) (e : Nat), a + ops.length = to → wfO ops st.length → st.length ≤ 31 → sgM (S.2.1 18) (S.2.1 19) a ops → stk (S.2.1 22) st → S.1 15 = 0 → VM S v → ∃ S', fr [15] [22] S S' ∧ S'.1 15 = bit (ev v ops st false).2 ∧ m_termOf_h10 (ops.length + 1 + e) S (nI to) (nI st.length) (nI a) = some (if (ev v ops st false).2 = true then 0 else (ev v ops st false).1.headD 0, S') := by
  intro ops
  induction ops with
  | nil =>
    intro a st S e ha hw hl hs hk h15 hv
    refine ⟨S, fr_rfl _ _ _, h15, ?_⟩
    rw [show ([] : List OP).length + 1 + e = e + 1 by simp; omega, m_termOf_h10, if_pos (nI_le (by simp at ha; omega) (by simp at ha; omega)), G_t (show inb 0 400 = true from rfl), z0]
    rw [wfO] at hw
    match st, hw, hk with
    | [x], _, hk => rw [show S.2.1 22 0 = x from hk.1]; rfl
    | [], hw, _ => simp at hw
    | _ :: _ :: _, hw, _ => simp at hw
  | cons o r ih =>
    intro a st S e ha hw hl hs hk h15 hv
    rw [wfO] at hw
    simp only [List.length_cons] at ha
    obtain ⟨s1, s2, s3⟩ := hs
    have h5 : o.1 ≤ 5 := by rcases hw.1 with q | q | q <;> omega
    rw [show (o :: r).length + 1 + e = (r.length + 1 + e) + 1 by simp only [List.length_cons]; omega, m_termOf_h10, if_neg (nI_ge (by omega) (by omega)), G_in (by omega) (by decide), nI_clamp (by omega), s1, s2, ev]
    rcases hw.2 with ⟨h1, h2, h3⟩ | ⟨h1, h2, h3⟩
    · have put : ∀ x : Int32, ∃ S', fr [15] [22] S S' ∧ S'.1 15 = bit (ev v r (x :: st) false).2 ∧ m_termOf_j63 (m_termOf_h10 (r.length + 1 + e)) S (nI to) (nI st.length) (nI a) x (nI st.length) = some (if (ev v r (x :: st) false).2 = true then 0 else (ev v r (x :: st) false).1.headD 0, S') := fun x => by
        obtain ⟨S', g1, g2, g3⟩ := ih (a + 1) (x :: st) (sA S 22 (upd (S.2.1 22) st.length x)) e (by omega) h3 (by simp only [List.length_cons]; omega) s3 ⟨pk_us, stk_u (Nat.le_refl _) hk⟩ h15 hv
        refine ⟨S', fr_tr (fr_A S _ (by decide)) g1, g2, ?_⟩
        unfold m_termOf_j63 m_termOf_j164
        simp only [G_in (show st.length < 400 by omega) (by decide : 400 < 2 ^ 31), nI_clamp (show st.length < 2 ^ 31 by omega), nI_1]
        exact g3
      rw [if_neg (show ¬ (2 : Int32) ≤ nI o.1 from nI_ge (b := 2) (by omega) (by decide))]
      by_cases c : o.1 = 0
      · rw [if_pos (show nI o.1 = 0 by rw [c]; rfl), if_pos c, G_in (show a < 2800 by omega) (by decide)]
        exact put _
      · have c1 : o.1 = 1 := by omega
        have hv2 : o.2 < 12 := by rcases hw.1 with q | q | q <;> omega
        rw [if_neg (show ¬ nI o.1 = 0 by rw [c1]; decide), if_neg c, if_pos c1, G_in (show a < 2800 by omega) (by decide), G_in hv2 (by decide), nI_clamp (by omega), hv o.2 hv2]
        exact put _
    · rw [if_pos (show (2 : Int32) ≤ nI o.1 from nI_le (a := 2) (by omega) (by omega)), if_neg (show ¬ o.1 = 0 by omega), if_neg (show ¬ o.1 = 1 by omega)]
      match st, hl, hk, h2, h3 with
      | y :: x :: s, hl, hk, h2, h3 =>
        simp only [List.length_cons] at hl
        have l1 : nI (y :: x :: s).length + -1 = nI (s.length + 1) := pk_m1 _
        have l2 : nI (s.length + 1) - 1 = nI s.length := nI_pred _
        simp only [l1, l2, G_in (show s.length < 400 by omega) (by decide : 400 < 2 ^ 31), G_in (show s.length + 1 < 400 by omega) (by decide : 400 < 2 ^ 31), nI_clamp (show s.length < 2 ^ 31 by omega), nI_clamp (show s.length + 1 < 2 ^ 31 by omega), show S.2.1 22 (s.length + 1) = y from hk.1, show S.2.1 22 s.length = x from hk.2.1]
        have put : ∀ z : Int32, ∃ S', fr [15] [22] S S' ∧ S'.1 15 = bit (ev v r (z :: s) false).2 ∧ m_termOf_j163 (m_termOf_h10 (r.length + 1 + e)) S (nI to) (nI (s.length + 1)) (nI a) z (nI s.length) = some (if (ev v r (z :: s) false).2 = true then 0 else (ev v r (z :: s) false).1.headD 0, S') := fun z => by
          obtain ⟨S', g1, g2, g3⟩ := ih (a + 1) (z :: s) (sA S 22 (upd (S.2.1 22) s.length z)) e (by omega) (by simpa using h3) (by simp only [List.length_cons]; omega) s3 ⟨pk_us, stk_u (Nat.le_refl _) hk.2.2⟩ h15 hv
          refine ⟨S', fr_tr (fr_A S _ (by decide)) g1, g2, ?_⟩
          unfold m_termOf_j163 m_termOf_j164
          simp only [G_in (show s.length < 400 by omega) (by decide : 400 < 2 ^ 31), nI_clamp (show s.length < 2 ^ 31 by omega), nI_1]
          exact g3
        show ∃ S', fr [15] [22] S S' ∧ S'.1 15 = bit (if o.1 = 5 ∧ y = 0 then ev v r (0 :: s) true else ev v r (opv o.1 x y :: s) false).2 ∧ _ = some (if (if o.1 = 5 ∧ y = 0 then ev v r (0 :: s) true else ev v r (opv o.1 x y :: s) false).2 = true then 0 else (if o.1 = 5 ∧ y = 0 then ev v r (0 :: s) true else ev v r (opv o.1 x y :: s) false).1.headD 0, S')
        unfold m_termOf_j109
        by_cases c5 : o.1 = 5
        · rw [if_pos (show nI o.1 = 5 by rw [c5]; rfl)]
          by_cases cy : y = 0
          · rw [if_pos cy, if_pos ⟨c5, cy⟩]
            have ht := ev_t v r (s.length + 1) 0 (0 :: s) rfl (by simpa using h3)
            rw [ht, if_pos rfl]
            exact ⟨_, fr_I S _ (by decide), rfl, rfl⟩
          · rw [if_neg cy, if_neg (fun q => cy q.2), if_neg (show ¬ nI o.1 = 2 by rw [c5]; decide), if_neg (show ¬ nI o.1 = 3 by rw [c5]; decide), if_neg (show ¬ nI o.1 = 4 by rw [c5]; decide), G_t (decide_eq_true cy), l2, show opv o.1 x y = x / y by unfold opv; rw [c5]; rfl]
            exact put _
        · rw [if_neg (show ¬ nI o.1 = 5 from fun q => c5 ((nI_eq (by omega) (by decide)).mp (show _ = nI 5 from q))), if_neg (fun q => c5 q.1), l2]
          rcases (show o.1 = 2 ∨ o.1 = 3 ∨ o.1 = 4 by omega) with q | q | q
          · rw [if_pos (show nI o.1 = 2 by rw [q]; rfl), show opv o.1 x y = x + y by unfold opv; rw [q]; rfl]; exact put _
          · rw [if_neg (show ¬ nI o.1 = 2 by rw [q]; decide), if_pos (show nI o.1 = 3 by rw [q]; rfl), show opv o.1 x y = x - y by unfold opv; rw [q]; rfl]; exact put _
          · rw [if_neg (show ¬ nI o.1 = 2 by rw [q]; decide), if_neg (show ¬ nI o.1 = 3 by rw [q]; decide), if_pos (show nI o.1 = 4 by rw [q]; rfl), show opv o.1 x y = x * y by unfold opv; rw [q]; rfl]; exact put _
      | [_], hl, hk, h2, h3 => simp only [List.length_cons, List.length_nil] at h2; omega
      | [], hl, hk, h2, h3 => simp only [List.length_nil] at h2; omega
theorem trm {S : ST} {v : Nat → Int32} {ops : List OP} {a : Nat} (h : a + ops.length ≤ 2800) (hw : wfO ops 0) (hs : sgM (S.2.1 18) (S.2.1 19) a ops) (hv : VM S v) : ∃ S', fr [15] [22] S S' ∧ S'.1 15 = bit (evB v ops) ∧ m_termOf S (nI a) (nI (a + ops.length)) = some (evV v ops, S') := by
  obtain ⟨e, he⟩ := FU_s (ops.length + 1) (by omega)
  obtain ⟨S', g1, g2, g3⟩ := trm_h10 h ops a [] (sI S 15 0) e rfl hw (by simp) hs trivial rfl hv
  refine ⟨S', fr_tr (fr_I S _ (by decide)) g1, g2, ?_⟩
  unfold m_termOf
  rw [G_t (show isB 0 = true from rfl), he]
  exact g3
def cmpT (how : Nat) (a b : Int32) : Bool := if how = 0 then decide (a = b) else if how = 1 then !decide (a = b) else if how = 2 then decide (a < b) else decide (a ≤ b)
def litT (v : Nat → Int32) (l : LIT) : Bool := (cmpT l.1 (evV v l.2.2.2.1) (evV v l.2.2.2.2) && !(evB v l.2.2.2.1 || evB v l.2.2.2.2)) != l.2.1
def hT (v : Nat → Int32) : Bool → List LIT → Bool
  | all, [] => all
  | all, l :: r => if (l.2.2.1 && all) = true then true else hT v ((all || l.2.2.1) && litT v l) r
def cnd (v : Nat → Int32) (L : List LIT) : Bool := if L.length = 0 then true else hT v false L
