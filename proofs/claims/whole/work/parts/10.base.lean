
abbrev ST : Type := (Nat → Int32) × (Nat → Nat → Int32) × (Nat → Nat → Int64)
def sI (S : ST) (k : Nat) (v : Int32) : ST := (upd S.1 k v, S.2.1, S.2.2)
def sA (S : ST) (k : Nat) (f : Nat → Int32) : ST := (S.1, va_up S.2.1 k f, S.2.2)
def sL (S : ST) (k : Nat) (f : Nat → Int64) : ST := (S.1, S.2.1, va_up S.2.2 k f)
def inb (i : Int32) (n : Nat) : Bool := decide (¬ i < 0) && decide (i.toNatClampNeg < n)
theorem inb_in {i : Int32} {n : Nat} (h : inb i n = true) : vp_in i n := by
  unfold inb at h
  rw [Bool.and_eq_true, decide_eq_true_eq, decide_eq_true_eq] at h
  exact fun q => q.elim h.1 (fun q => absurd h.2 (Nat.not_lt.mpr q))
def G {α : Type} (b : Bool) (x : Option α) : Option α := if b = true then x else none
theorem G_some {α : Type} {b : Bool} {x : Option α} {r : α} (h : G b x = some r) : b = true ∧ x = some r := by
  unfold G at h
  by_cases hb : b = true
  · rw [if_pos hb] at h; exact ⟨hb, h⟩
  · rw [if_neg hb] at h; cases h
def cal {α β : Type} (x : Option (α × ST)) (k : α → ST → Option β) : Option β := match x with
  | some p => k p.1 p.2
  | none => none
def calV {β : Type} (x : Option ST) (k : ST → Option β) : Option β := match x with
  | some S => k S
  | none => none
def cal0 {α β : Type} (x : Option α) (k : α → Option β) : Option β := match x with
  | some r => k r
  | none => none
theorem cal_some {α β : Type} {x : Option (α × ST)} {k : α → ST → Option β} {R : β} (h : cal x k = some R) : ∃ (r : α) (S : ST), x = some (r, S) ∧ k r S = some R := by
  unfold cal at h
  cases x with
  | none => cases h
  | some q => exact ⟨q.1, q.2, rfl, h⟩
theorem calV_some {β : Type} {x : Option ST} {k : ST → Option β} {R : β} (h : calV x k = some R) : ∃ (S : ST), x = some S ∧ k S = some R := by
  unfold calV at h
  cases x with
  | none => cases h
  | some q => exact ⟨q, rfl, h⟩
theorem cal0_some {α β : Type} {x : Option α} {k : α → Option β} {R : β} (h : cal0 x k = some R) : ∃ (r : α), x = some r ∧ k r = some R := by
  unfold cal0 at h
  cases x with
  | none => cases h
  | some q => exact ⟨q, rfl, h⟩
theorem ite_t {α : Type} {c : Prop} [Decidable c] {a b : Option α} {r : α} (h : (if c then a else b) = some r) (hc : c) : a = some r := by rw [if_pos hc] at h; exact h
theorem ite_f {α : Type} {c : Prop} [Decidable c] {a b : Option α} {r : α} (h : (if c then a else b) = some r) (hc : ¬ c) : b = some r := by rw [if_neg hc] at h; exact h
def isB (v : Int32) : Bool := decide (v = 0) || decide (v = 1)
theorem isB_nar {v : Int32} (h : isB v = true) : narrow .boolean (.int v) = .int v ∧ fits .boolean (.int v) = true := by
  unfold isB at h
  rw [Bool.or_eq_true, decide_eq_true_eq, decide_eq_true_eq] at h
  rcases h with rfl | rfl
  · exact ⟨by decide, by decide⟩
  · exact ⟨by decide, by decide⟩


abbrev AD : Type := (Nat → Nat) × ClassId × ClassId × ClassId × ClassId
abbrev tyA (ad : AD) : List (ClassId × FieldType) := [(ad.2.1, .byte), (ad.2.2.1, .int), (ad.2.2.2.1, .long), (ad.2.2.2.2, .boolean)]
abbrev ZT := Program × Launch × Env × Room × State × MethodId × Array Value × List Frame × Method × Code × va_G × (Nat → Prop) × Nat × (State → Prop) × Nat × Nat
/-- the machine at pc with these locals and stack, its cells as S says, comes to its end -/
def XW {α : Type} (z : ZT) (w : α → va_W) (pc : Nat) (lv : List (Nat × Value)) (st : List Value) (S : α) : Prop := match z with
  | (p, l, e, R, s, m, args, below, meth, c, D, A, nL, Q, kc, ks) => ∀ (H : Heap) (locs : List Loc), va_P D vwCl (w S) H → va_D A (w S) → va_S A s.heap H locs → ∀ ls : Array Slot, lv_has ls nL lv → W p l e R s m args below meth c H locs kc ks Q (F0 m pc ls st)
def rmD (d : Nat) : Room := { frames := d, cells := 0, slots := 0, locals := 40 * d }
abbrev EK : Type := (Nat → Prop) → State → Heap → Prop
def EKok (ek : EK) : Prop := (∀ A U H H1, ek A U H → (∀ a : Nat, a < H.size → ¬ A a → H1[a]? = H[a]?) → ek A U H1) ∧ (∀ A B U H, ek A U H → (∀ q, B q → A q) → ek B U H) ∧ (∀ A s U H, s.WarmedH U.vm → ek A s H → ek A U H) ∧ (∀ A U U' H, U'.vm = U.vm → ek A U H → ek A U' H)
def CX (z : ZT) (ad : AD) (ek : EK) (cc : ByteArray) (own : String) (lh : Launch) (Dh : va_G) (d : Nat) (nL : Nat) : Prop := match z with
  | (p, l, e, R, s, m, args, below, meth, c, D, A, nL0, Q, kc, ks) => p.tables.exec = Jvm.exec ∧ c.code = cc ∧ (∀ w ∈ UN, w.before args s = true) ∧ s.vm.findClass own = some m.cls ∧ va_K D vwCl (tyA ad) s ∧ (∀ q, s.heap.size ≤ q → A q) ∧ c.maxLocals = nL ∧ nL0 = nL ∧ (d ≤ R.frames ∧ 40 * d ≤ R.locals ∧ kc ≤ R.cells ∧ ks ≤ R.slots) ∧ l = lh ∧ D = Dh ∧ EKok ek ∧ ek A s s.heap
section XROWS
variable {α : Type} {z : ZT} {w : α → va_W} {ad : AD} {ek : EK} {cc : ByteArray} {own : String} {lh : Launch} {Dh : va_G} {dp nL : Nat} {pc : Nat} {lv lv' : List (Nat × Value)} {st : List Value} {S : α}
theorem x_perm (ks : List Nat) (hp : lv_pick lv ks = lv') (kk : XW z w pc lv' st S) : XW z w pc lv st S := by
  obtain ⟨p, l, e, R, s, m, args, below, meth, c, D, A, nL0, Q, kc, ksl⟩ := z
  intro H locs hP hD hS ls hl
  exact kk H locs hP hD hS ls (lv_sub hl ks hp)
theorem x_pc {pc' : Nat} (h : pc = pc') (kk : XW z w pc' lv st S) : XW z w pc lv st S := h ▸ kk

theorem x_iconst (C : CX z ad ek cc own lh Dh dp nL) {n : Int} {v : Int32} (d : decode cc pc = .ok (.iconst n, 1)) (hv : Int32.ofInt n = v) (kk : XW z w (pc + 1) lv (.int v :: st) S) : XW z w pc lv (st) S := by
  obtain ⟨p, l, e, R, s, m, args, below, meth, c, D, A, nL0, Q, kc, ksl⟩ := z
  obtain ⟨hx, hb, hts, hown, hK, hA, hml, hnl, hR, hlh, hDh, hEo, hE⟩ := C
  intro H locs hP hD hS ls hl
  exact lv_iconst hx hb d hv (kk H locs hP hD hS ls hl)
theorem x_bipush (C : CX z ad ek cc own lh Dh dp nL) {n : Int} {v : Int32} (d : decode cc pc = .ok (.bipush n, 2)) (hv : (Int8.ofInt n).toInt32 = v) (kk : XW z w (pc + 2) lv (.int v :: st) S) : XW z w pc lv (st) S := by
  obtain ⟨p, l, e, R, s, m, args, below, meth, c, D, A, nL0, Q, kc, ksl⟩ := z
  obtain ⟨hx, hb, hts, hown, hK, hA, hml, hnl, hR, hlh, hDh, hEo, hE⟩ := C
  intro H locs hP hD hS ls hl
  exact lv_bipush hx hb d hv (kk H locs hP hD hS ls hl)
theorem x_sipush (C : CX z ad ek cc own lh Dh dp nL) {n : Int} {v : Int32} (d : decode cc pc = .ok (.sipush n, 3)) (hv : (Int16.ofInt n).toInt32 = v) (kk : XW z w (pc + 3) lv (.int v :: st) S) : XW z w pc lv (st) S := by
  obtain ⟨p, l, e, R, s, m, args, below, meth, c, D, A, nL0, Q, kc, ksl⟩ := z
  obtain ⟨hx, hb, hts, hown, hK, hA, hml, hnl, hR, hlh, hDh, hEo, hE⟩ := C
  intro H locs hP hD hS ls hl
  exact lv_sipush hx hb d hv (kk H locs hP hD hS ls hl)
theorem x_lconst (C : CX z ad ek cc own lh Dh dp nL) {n : Fin 2} {v : Int64} (d : decode cc pc = .ok (.lconst n, 1)) (hv : Int64.ofNat (n : Nat) = v) (kk : XW z w (pc + 1) lv (.long v :: st) S) : XW z w pc lv (st) S := by
  obtain ⟨p, l, e, R, s, m, args, below, meth, c, D, A, nL0, Q, kc, ksl⟩ := z
  obtain ⟨hx, hb, hts, hown, hK, hA, hml, hnl, hR, hlh, hDh, hEo, hE⟩ := C
  intro H locs hP hD hS ls hl
  exact lv_lconst hx hb d hv (kk H locs hP hD hS ls hl)
theorem x_ldc (C : CX z ad ek cc own lh Dh dp nL) {idx : Nat} {v : Int32} (u : Cond.constant own idx v ∈ UN) (d : decode cc pc = .ok (.ldc idx, 2)) (kk : XW z w (pc + 2) lv (.int v :: st) S) : XW z w pc lv (st) S := by
  obtain ⟨p, l, e, R, s, m, args, below, meth, c, D, A, nL0, Q, kc, ksl⟩ := z
  obtain ⟨hx, hb, hts, hown, hK, hA, hml, hnl, hR, hlh, hDh, hEo, hE⟩ := C
  intro H locs hP hD hS ls hl
  exact lv_ldc hx hb hown (hts _ u) d (kk H locs hP hD hS ls hl)
theorem x_ldcw (C : CX z ad ek cc own lh Dh dp nL) {idx : Nat} {v : Int32} (u : Cond.constant own idx v ∈ UN) (d : decode cc pc = .ok (.ldc_w idx, 3)) (kk : XW z w (pc + 3) lv (.int v :: st) S) : XW z w pc lv (st) S := by
  obtain ⟨p, l, e, R, s, m, args, below, meth, c, D, A, nL0, Q, kc, ksl⟩ := z
  obtain ⟨hx, hb, hts, hown, hK, hA, hml, hnl, hR, hlh, hDh, hEo, hE⟩ := C
  intro H locs hP hD hS ls hl
  exact lv_ldcw hx hb hown (hts _ u) d (kk H locs hP hD hS ls hl)
theorem x_ldc2 (C : CX z ad ek cc own lh Dh dp nL) {idx : Nat} {v : Int64} (u : Cond.constantLong own idx v ∈ UN) (d : decode cc pc = .ok (.ldc2_w idx, 3)) (kk : XW z w (pc + 3) lv (.long v :: st) S) : XW z w pc lv (st) S := by
  obtain ⟨p, l, e, R, s, m, args, below, meth, c, D, A, nL0, Q, kc, ksl⟩ := z
  obtain ⟨hx, hb, hts, hown, hK, hA, hml, hnl, hR, hlh, hDh, hEo, hE⟩ := C
  intro H locs hP hD hS ls hl
  exact lv_ldc2 hx hb hown (hts _ u) d (kk H locs hP hD hS ls hl)
theorem x_iload_n (C : CX z ad ek cc own lh Dh dp nL) {k : Fin 4} {i : Nat} {x : Int32} (d : decode cc pc = .ok (.iload_n k, 1)) (hi : (k : Nat) = i) (j : Nat) (hj : lv[j]? = some (i, .int x)) (kk : XW z w (pc + 1) lv (.int x :: st) S) : XW z w pc lv (st) S := by
  obtain ⟨p, l, e, R, s, m, args, below, meth, c, D, A, nL0, Q, kc, ksl⟩ := z
  obtain ⟨hx, hb, hts, hown, hK, hA, hml, hnl, hR, hlh, hDh, hEo, hE⟩ := C
  intro H locs hP hD hS ls hl
  exact lv_iload_n hx hb d hi (lv_at hl j hj) (kk H locs hP hD hS ls hl)
theorem x_iload (C : CX z ad ek cc own lh Dh dp nL) {i : Nat} {x : Int32} (d : decode cc pc = .ok (.iload i, 2)) (j : Nat) (hj : lv[j]? = some (i, .int x)) (kk : XW z w (pc + 2) lv (.int x :: st) S) : XW z w pc lv (st) S := by
  obtain ⟨p, l, e, R, s, m, args, below, meth, c, D, A, nL0, Q, kc, ksl⟩ := z
  obtain ⟨hx, hb, hts, hown, hK, hA, hml, hnl, hR, hlh, hDh, hEo, hE⟩ := C
  intro H locs hP hD hS ls hl
  exact lv_iload hx hb d (lv_at hl j hj) (kk H locs hP hD hS ls hl)
theorem x_lload_n (C : CX z ad ek cc own lh Dh dp nL) {k : Fin 4} {i : Nat} {x : Int64} (d : decode cc pc = .ok (.lload_n k, 1)) (hi : (k : Nat) = i) (j : Nat) (hj : lv[j]? = some (i, .long x)) (kk : XW z w (pc + 1) lv (.long x :: st) S) : XW z w pc lv (st) S := by
  obtain ⟨p, l, e, R, s, m, args, below, meth, c, D, A, nL0, Q, kc, ksl⟩ := z
  obtain ⟨hx, hb, hts, hown, hK, hA, hml, hnl, hR, hlh, hDh, hEo, hE⟩ := C
  intro H locs hP hD hS ls hl
  exact lv_lload_n hx hb d hi (lv_at hl j hj) (kk H locs hP hD hS ls hl)
theorem x_lload (C : CX z ad ek cc own lh Dh dp nL) {i : Nat} {x : Int64} (d : decode cc pc = .ok (.lload i, 2)) (j : Nat) (hj : lv[j]? = some (i, .long x)) (kk : XW z w (pc + 2) lv (.long x :: st) S) : XW z w pc lv (st) S := by
  obtain ⟨p, l, e, R, s, m, args, below, meth, c, D, A, nL0, Q, kc, ksl⟩ := z
  obtain ⟨hx, hb, hts, hown, hK, hA, hml, hnl, hR, hlh, hDh, hEo, hE⟩ := C
  intro H locs hP hD hS ls hl
  exact lv_lload hx hb d (lv_at hl j hj) (kk H locs hP hD hS ls hl)
theorem x_aload_n (C : CX z ad ek cc own lh Dh dp nL) {k : Fin 4} {i : Nat} {x : Nat} (d : decode cc pc = .ok (.aload_n k, 1)) (hi : (k : Nat) = i) (j : Nat) (hj : lv[j]? = some (i, .ref x)) (kk : XW z w (pc + 1) lv (.ref x :: st) S) : XW z w pc lv (st) S := by
  obtain ⟨p, l, e, R, s, m, args, below, meth, c, D, A, nL0, Q, kc, ksl⟩ := z
  obtain ⟨hx, hb, hts, hown, hK, hA, hml, hnl, hR, hlh, hDh, hEo, hE⟩ := C
  intro H locs hP hD hS ls hl
  exact lv_aload_n hx hb d hi (lv_at hl j hj) (kk H locs hP hD hS ls hl)
theorem x_aload (C : CX z ad ek cc own lh Dh dp nL) {i : Nat} {x : Nat} (d : decode cc pc = .ok (.aload i, 2)) (j : Nat) (hj : lv[j]? = some (i, .ref x)) (kk : XW z w (pc + 2) lv (.ref x :: st) S) : XW z w pc lv (st) S := by
  obtain ⟨p, l, e, R, s, m, args, below, meth, c, D, A, nL0, Q, kc, ksl⟩ := z
  obtain ⟨hx, hb, hts, hown, hK, hA, hml, hnl, hR, hlh, hDh, hEo, hE⟩ := C
  intro H locs hP hD hS ls hl
  exact lv_aload hx hb d (lv_at hl j hj) (kk H locs hP hD hS ls hl)
theorem x_istore_n (C : CX z ad ek cc own lh Dh dp nL) {k : Fin 4} {i : Nat} {x : Int32} (d : decode cc pc = .ok (.istore_n k, 1)) (hi : (k : Nat) = i) (hn : i < nL) (hl0 : (i, Value.int x) :: lv.filter (fun q => !(q.1 == i) && !(q.1 + 1 == i && q.2.category == 2)) = lv') (kk : XW z w (pc + 1) lv' (st) S) : XW z w pc lv (.int x :: st) S := by
  obtain ⟨p, l, e, R, s, m, args, below, meth, c, D, A, nL0, Q, kc, ksl⟩ := z
  obtain ⟨hx, hb, hts, hown, hK, hA, hml, hnl, hR, hlh, hDh, hEo, hE⟩ := C
  intro H locs hP hD hS ls hl
  subst hnl; exact lv_istore_n hx hb d hi hl hn hl0 (fun ls hl => kk H locs hP hD hS ls hl)
theorem x_istore (C : CX z ad ek cc own lh Dh dp nL) {i : Nat} {x : Int32} (d : decode cc pc = .ok (.istore i, 2)) (hn : i < nL) (hl0 : (i, Value.int x) :: lv.filter (fun q => !(q.1 == i) && !(q.1 + 1 == i && q.2.category == 2)) = lv') (kk : XW z w (pc + 2) lv' (st) S) : XW z w pc lv (.int x :: st) S := by
  obtain ⟨p, l, e, R, s, m, args, below, meth, c, D, A, nL0, Q, kc, ksl⟩ := z
  obtain ⟨hx, hb, hts, hown, hK, hA, hml, hnl, hR, hlh, hDh, hEo, hE⟩ := C
  intro H locs hP hD hS ls hl
  subst hnl; exact lv_istore hx hb d hl hn hl0 (fun ls hl => kk H locs hP hD hS ls hl)
theorem x_lstore_n (C : CX z ad ek cc own lh Dh dp nL) {k : Fin 4} {i : Nat} {x : Int64} (d : decode cc pc = .ok (.lstore_n k, 1)) (hi : (k : Nat) = i) (hn : i + 1 < nL) (hl0 : (i, Value.long x) :: lv.filter (fun q => !(q.1 == i) && (!(q.1 == i + 1) && !(q.1 + 1 == i && q.2.category == 2))) = lv') (kk : XW z w (pc + 1) lv' (st) S) : XW z w pc lv (.long x :: st) S := by
  obtain ⟨p, l, e, R, s, m, args, below, meth, c, D, A, nL0, Q, kc, ksl⟩ := z
  obtain ⟨hx, hb, hts, hown, hK, hA, hml, hnl, hR, hlh, hDh, hEo, hE⟩ := C
  intro H locs hP hD hS ls hl
  subst hnl; exact lv_lstore_n hx hb d hi hl hn hl0 (fun ls hl => kk H locs hP hD hS ls hl)
theorem x_lstore (C : CX z ad ek cc own lh Dh dp nL) {i : Nat} {x : Int64} (d : decode cc pc = .ok (.lstore i, 2)) (hn : i + 1 < nL) (hl0 : (i, Value.long x) :: lv.filter (fun q => !(q.1 == i) && (!(q.1 == i + 1) && !(q.1 + 1 == i && q.2.category == 2))) = lv') (kk : XW z w (pc + 2) lv' (st) S) : XW z w pc lv (.long x :: st) S := by
  obtain ⟨p, l, e, R, s, m, args, below, meth, c, D, A, nL0, Q, kc, ksl⟩ := z
  obtain ⟨hx, hb, hts, hown, hK, hA, hml, hnl, hR, hlh, hDh, hEo, hE⟩ := C
  intro H locs hP hD hS ls hl
  subst hnl; exact lv_lstore hx hb d hl hn hl0 (fun ls hl => kk H locs hP hD hS ls hl)
theorem x_astore_n (C : CX z ad ek cc own lh Dh dp nL) {k : Fin 4} {i : Nat} {x : Nat} (d : decode cc pc = .ok (.astore_n k, 1)) (hi : (k : Nat) = i) (hn : i < nL) (hl0 : (i, Value.ref x) :: lv.filter (fun q => !(q.1 == i) && !(q.1 + 1 == i && q.2.category == 2)) = lv') (kk : XW z w (pc + 1) lv' (st) S) : XW z w pc lv (.ref x :: st) S := by
  obtain ⟨p, l, e, R, s, m, args, below, meth, c, D, A, nL0, Q, kc, ksl⟩ := z
  obtain ⟨hx, hb, hts, hown, hK, hA, hml, hnl, hR, hlh, hDh, hEo, hE⟩ := C
  intro H locs hP hD hS ls hl
  subst hnl; exact lv_astore_n hx hb d hi hl hn hl0 (fun ls hl => kk H locs hP hD hS ls hl)
theorem x_astore (C : CX z ad ek cc own lh Dh dp nL) {i : Nat} {x : Nat} (d : decode cc pc = .ok (.astore i, 2)) (hn : i < nL) (hl0 : (i, Value.ref x) :: lv.filter (fun q => !(q.1 == i) && !(q.1 + 1 == i && q.2.category == 2)) = lv') (kk : XW z w (pc + 2) lv' (st) S) : XW z w pc lv (.ref x :: st) S := by
  obtain ⟨p, l, e, R, s, m, args, below, meth, c, D, A, nL0, Q, kc, ksl⟩ := z
  obtain ⟨hx, hb, hts, hown, hK, hA, hml, hnl, hR, hlh, hDh, hEo, hE⟩ := C
  intro H locs hP hD hS ls hl
  subst hnl; exact lv_astore hx hb d hl hn hl0 (fun ls hl => kk H locs hP hD hS ls hl)
theorem x_iinc (C : CX z ad ek cc own lh Dh dp nL) {i : Nat} {n : Int} {x v : Int32} (d : decode cc pc = .ok (.iinc i n, 3)) (j : Nat) (hj : lv[j]? = some (i, .int x)) (hv : Int32.ofInt n = v) (hn : i < nL) (hl0 : (i, Value.int (x + v)) :: lv.filter (fun q => !(q.1 == i) && !(q.1 + 1 == i && q.2.category == 2)) = lv') (kk : XW z w (pc + 3) lv' (st) S) : XW z w pc lv (st) S := by
  obtain ⟨p, l, e, R, s, m, args, below, meth, c, D, A, nL0, Q, kc, ksl⟩ := z
  obtain ⟨hx, hb, hts, hown, hK, hA, hml, hnl, hR, hlh, hDh, hEo, hE⟩ := C
  intro H locs hP hD hS ls hl
  subst hnl; exact lv_iinc hx hb d hl hj (by rw [hv]) hn hl0 (fun ls hl => kk H locs hP hD hS ls hl)
theorem x_iadd (C : CX z ad ek cc own lh Dh dp nL) {x y : Int32} (d : decode cc pc = .ok (.iadd, 1))  (kk : XW z w (pc + 1) lv (.int (x + y) :: st) S) : XW z w pc lv (.int y :: .int x :: st) S := by
  obtain ⟨p, l, e, R, s, m, args, below, meth, c, D, A, nL0, Q, kc, ksl⟩ := z
  obtain ⟨hx, hb, hts, hown, hK, hA, hml, hnl, hR, hlh, hDh, hEo, hE⟩ := C
  intro H locs hP hD hS ls hl
  exact lv_iadd hx hb d (kk H locs hP hD hS ls hl)
theorem x_isub (C : CX z ad ek cc own lh Dh dp nL) {x y : Int32} (d : decode cc pc = .ok (.isub, 1))  (kk : XW z w (pc + 1) lv (.int (x - y) :: st) S) : XW z w pc lv (.int y :: .int x :: st) S := by
  obtain ⟨p, l, e, R, s, m, args, below, meth, c, D, A, nL0, Q, kc, ksl⟩ := z
  obtain ⟨hx, hb, hts, hown, hK, hA, hml, hnl, hR, hlh, hDh, hEo, hE⟩ := C
  intro H locs hP hD hS ls hl
  exact lv_isub hx hb d (kk H locs hP hD hS ls hl)
theorem x_imul (C : CX z ad ek cc own lh Dh dp nL) {x y : Int32} (d : decode cc pc = .ok (.imul, 1))  (kk : XW z w (pc + 1) lv (.int (x * y) :: st) S) : XW z w pc lv (.int y :: .int x :: st) S := by
  obtain ⟨p, l, e, R, s, m, args, below, meth, c, D, A, nL0, Q, kc, ksl⟩ := z
  obtain ⟨hx, hb, hts, hown, hK, hA, hml, hnl, hR, hlh, hDh, hEo, hE⟩ := C
  intro H locs hP hD hS ls hl
  exact lv_imul hx hb d (kk H locs hP hD hS ls hl)
theorem x_iand (C : CX z ad ek cc own lh Dh dp nL) {x y : Int32} (d : decode cc pc = .ok (.iand, 1))  (kk : XW z w (pc + 1) lv (.int (x &&& y) :: st) S) : XW z w pc lv (.int y :: .int x :: st) S := by
  obtain ⟨p, l, e, R, s, m, args, below, meth, c, D, A, nL0, Q, kc, ksl⟩ := z
  obtain ⟨hx, hb, hts, hown, hK, hA, hml, hnl, hR, hlh, hDh, hEo, hE⟩ := C
  intro H locs hP hD hS ls hl
  exact lv_iand hx hb d (kk H locs hP hD hS ls hl)
theorem x_ior (C : CX z ad ek cc own lh Dh dp nL) {x y : Int32} (d : decode cc pc = .ok (.ior, 1))  (kk : XW z w (pc + 1) lv (.int (x ||| y) :: st) S) : XW z w pc lv (.int y :: .int x :: st) S := by
  obtain ⟨p, l, e, R, s, m, args, below, meth, c, D, A, nL0, Q, kc, ksl⟩ := z
  obtain ⟨hx, hb, hts, hown, hK, hA, hml, hnl, hR, hlh, hDh, hEo, hE⟩ := C
  intro H locs hP hD hS ls hl
  exact lv_ior hx hb d (kk H locs hP hD hS ls hl)
theorem x_ixor (C : CX z ad ek cc own lh Dh dp nL) {x y : Int32} (d : decode cc pc = .ok (.ixor, 1))  (kk : XW z w (pc + 1) lv (.int (x ^^^ y) :: st) S) : XW z w pc lv (.int y :: .int x :: st) S := by
  obtain ⟨p, l, e, R, s, m, args, below, meth, c, D, A, nL0, Q, kc, ksl⟩ := z
  obtain ⟨hx, hb, hts, hown, hK, hA, hml, hnl, hR, hlh, hDh, hEo, hE⟩ := C
  intro H locs hP hD hS ls hl
  exact lv_ixor hx hb d (kk H locs hP hD hS ls hl)
theorem x_ishl (C : CX z ad ek cc own lh Dh dp nL) {x y : Int32} (d : decode cc pc = .ok (.ishl, 1))  (kk : XW z w (pc + 1) lv (.int (x <<< (y &&& 31)) :: st) S) : XW z w pc lv (.int y :: .int x :: st) S := by
  obtain ⟨p, l, e, R, s, m, args, below, meth, c, D, A, nL0, Q, kc, ksl⟩ := z
  obtain ⟨hx, hb, hts, hown, hK, hA, hml, hnl, hR, hlh, hDh, hEo, hE⟩ := C
  intro H locs hP hD hS ls hl
  exact lv_ishl hx hb d (kk H locs hP hD hS ls hl)
theorem x_ishr (C : CX z ad ek cc own lh Dh dp nL) {x y : Int32} (d : decode cc pc = .ok (.ishr, 1))  (kk : XW z w (pc + 1) lv (.int (x >>> (y &&& 31)) :: st) S) : XW z w pc lv (.int y :: .int x :: st) S := by
  obtain ⟨p, l, e, R, s, m, args, below, meth, c, D, A, nL0, Q, kc, ksl⟩ := z
  obtain ⟨hx, hb, hts, hown, hK, hA, hml, hnl, hR, hlh, hDh, hEo, hE⟩ := C
  intro H locs hP hD hS ls hl
  exact lv_ishr hx hb d (kk H locs hP hD hS ls hl)
theorem x_iushr (C : CX z ad ek cc own lh Dh dp nL) {x y : Int32} (d : decode cc pc = .ok (.iushr, 1))  (kk : XW z w (pc + 1) lv (.int ((x.toUInt32 >>> (y.toUInt32 &&& Int32.toUInt32 31)).toInt32) :: st) S) : XW z w pc lv (.int y :: .int x :: st) S := by
  obtain ⟨p, l, e, R, s, m, args, below, meth, c, D, A, nL0, Q, kc, ksl⟩ := z
  obtain ⟨hx, hb, hts, hown, hK, hA, hml, hnl, hR, hlh, hDh, hEo, hE⟩ := C
  intro H locs hP hD hS ls hl
  exact lv_iushr hx hb d rfl (kk H locs hP hD hS ls hl)
theorem x_idiv (C : CX z ad ek cc own lh Dh dp nL) {x y : Int32} (d : decode cc pc = .ok (.idiv, 1)) (hne : ¬ y = 0) (kk : XW z w (pc + 1) lv (.int (x / y) :: st) S) : XW z w pc lv (.int y :: .int x :: st) S := by
  obtain ⟨p, l, e, R, s, m, args, below, meth, c, D, A, nL0, Q, kc, ksl⟩ := z
  obtain ⟨hx, hb, hts, hown, hK, hA, hml, hnl, hR, hlh, hDh, hEo, hE⟩ := C
  intro H locs hP hD hS ls hl
  exact lv_idiv hx hb d hne (kk H locs hP hD hS ls hl)
theorem x_irem (C : CX z ad ek cc own lh Dh dp nL) {x y : Int32} (d : decode cc pc = .ok (.irem, 1)) (hne : ¬ y = 0) (kk : XW z w (pc + 1) lv (.int (x - x / y * y) :: st) S) : XW z w pc lv (.int y :: .int x :: st) S := by
  obtain ⟨p, l, e, R, s, m, args, below, meth, c, D, A, nL0, Q, kc, ksl⟩ := z
  obtain ⟨hx, hb, hts, hown, hK, hA, hml, hnl, hR, hlh, hDh, hEo, hE⟩ := C
  intro H locs hP hD hS ls hl
  exact lv_irem hx hb d hne (kk H locs hP hD hS ls hl)
theorem x_ineg (C : CX z ad ek cc own lh Dh dp nL) {x : Int32} (d : decode cc pc = .ok (.ineg, 1))  (kk : XW z w (pc + 1) lv (.int (-x) :: st) S) : XW z w pc lv (.int x :: st) S := by
  obtain ⟨p, l, e, R, s, m, args, below, meth, c, D, A, nL0, Q, kc, ksl⟩ := z
  obtain ⟨hx, hb, hts, hown, hK, hA, hml, hnl, hR, hlh, hDh, hEo, hE⟩ := C
  intro H locs hP hD hS ls hl
  exact lv_ineg hx hb d (kk H locs hP hD hS ls hl)
theorem x_ladd (C : CX z ad ek cc own lh Dh dp nL) {x y : Int64} (d : decode cc pc = .ok (.ladd, 1))  (kk : XW z w (pc + 1) lv (.long (x + y) :: st) S) : XW z w pc lv (.long y :: .long x :: st) S := by
  obtain ⟨p, l, e, R, s, m, args, below, meth, c, D, A, nL0, Q, kc, ksl⟩ := z
  obtain ⟨hx, hb, hts, hown, hK, hA, hml, hnl, hR, hlh, hDh, hEo, hE⟩ := C
  intro H locs hP hD hS ls hl
  exact lv_ladd hx hb d (kk H locs hP hD hS ls hl)
theorem x_lmul (C : CX z ad ek cc own lh Dh dp nL) {x y : Int64} (d : decode cc pc = .ok (.lmul, 1))  (kk : XW z w (pc + 1) lv (.long (x * y) :: st) S) : XW z w pc lv (.long y :: .long x :: st) S := by
  obtain ⟨p, l, e, R, s, m, args, below, meth, c, D, A, nL0, Q, kc, ksl⟩ := z
  obtain ⟨hx, hb, hts, hown, hK, hA, hml, hnl, hR, hlh, hDh, hEo, hE⟩ := C
  intro H locs hP hD hS ls hl
  exact lv_lmul hx hb d (kk H locs hP hD hS ls hl)
theorem x_i2l (C : CX z ad ek cc own lh Dh dp nL) {x : Int32} (d : decode cc pc = .ok (.i2l, 1))  (kk : XW z w (pc + 1) lv (.long (x.toInt64) :: st) S) : XW z w pc lv (.int x :: st) S := by
  obtain ⟨p, l, e, R, s, m, args, below, meth, c, D, A, nL0, Q, kc, ksl⟩ := z
  obtain ⟨hx, hb, hts, hown, hK, hA, hml, hnl, hR, hlh, hDh, hEo, hE⟩ := C
  intro H locs hP hD hS ls hl
  exact lv_i2l hx hb d rfl (kk H locs hP hD hS ls hl)
theorem x_l2i (C : CX z ad ek cc own lh Dh dp nL) {x : Int64} (d : decode cc pc = .ok (.l2i, 1))  (kk : XW z w (pc + 1) lv (.int (x.toInt32) :: st) S) : XW z w pc lv (.long x :: st) S := by
  obtain ⟨p, l, e, R, s, m, args, below, meth, c, D, A, nL0, Q, kc, ksl⟩ := z
  obtain ⟨hx, hb, hts, hown, hK, hA, hml, hnl, hR, hlh, hDh, hEo, hE⟩ := C
  intro H locs hP hD hS ls hl
  exact lv_l2i hx hb d rfl (kk H locs hP hD hS ls hl)
theorem x_i2b (C : CX z ad ek cc own lh Dh dp nL) {x : Int32} (d : decode cc pc = .ok (.i2b, 1))  (kk : XW z w (pc + 1) lv (.int (x.toInt8.toInt32) :: st) S) : XW z w pc lv (.int x :: st) S := by
  obtain ⟨p, l, e, R, s, m, args, below, meth, c, D, A, nL0, Q, kc, ksl⟩ := z
  obtain ⟨hx, hb, hts, hown, hK, hA, hml, hnl, hR, hlh, hDh, hEo, hE⟩ := C
  intro H locs hP hD hS ls hl
  exact lv_i2b hx hb d rfl (kk H locs hP hD hS ls hl)
theorem x_i2c (C : CX z ad ek cc own lh Dh dp nL) {x : Int32} (d : decode cc pc = .ok (.i2c, 1))  (kk : XW z w (pc + 1) lv (.int ((x.toUInt32 % 65536).toInt32) :: st) S) : XW z w pc lv (.int x :: st) S := by
  obtain ⟨p, l, e, R, s, m, args, below, meth, c, D, A, nL0, Q, kc, ksl⟩ := z
  obtain ⟨hx, hb, hts, hown, hK, hA, hml, hnl, hR, hlh, hDh, hEo, hE⟩ := C
  intro H locs hP hD hS ls hl
  exact lv_i2c hx hb d rfl (kk H locs hP hD hS ls hl)
theorem x_lcmp (C : CX z ad ek cc own lh Dh dp nL) {x y : Int64} (d : decode cc pc = .ok (.lcmp, 1))  (kk : XW z w (pc + 1) lv (.int (lg_cmp x y) :: st) S) : XW z w pc lv (.long y :: .long x :: st) S := by
  obtain ⟨p, l, e, R, s, m, args, below, meth, c, D, A, nL0, Q, kc, ksl⟩ := z
  obtain ⟨hx, hb, hts, hown, hK, hA, hml, hnl, hR, hlh, hDh, hEo, hE⟩ := C
  intro H locs hP hD hS ls hl
  exact W.lcmp hx hb d (kk H locs hP hD hS ls hl)
theorem x_dup (C : CX z ad ek cc own lh Dh dp nL) {v : Value} (d : decode cc pc = .ok (.dup, 1)) (hv : v.category = 1) (kk : XW z w (pc + 1) lv (v :: v :: st) S) : XW z w pc lv (v :: st) S := by
  obtain ⟨p, l, e, R, s, m, args, below, meth, c, D, A, nL0, Q, kc, ksl⟩ := z
  obtain ⟨hx, hb, hts, hown, hK, hA, hml, hnl, hR, hlh, hDh, hEo, hE⟩ := C
  intro H locs hP hD hS ls hl
  exact lv_dup hx hb d hv (kk H locs hP hD hS ls hl)
theorem x_pop (C : CX z ad ek cc own lh Dh dp nL) {v : Value} (d : decode cc pc = .ok (.pop, 1)) (hv : v.category = 1) (kk : XW z w (pc + 1) lv (st) S) : XW z w pc lv (v :: st) S := by
  obtain ⟨p, l, e, R, s, m, args, below, meth, c, D, A, nL0, Q, kc, ksl⟩ := z
  obtain ⟨hx, hb, hts, hown, hK, hA, hml, hnl, hR, hlh, hDh, hEo, hE⟩ := C
  intro H locs hP hD hS ls hl
  exact lv_pop hx hb d hv (kk H locs hP hD hS ls hl)
theorem x_dup2 (C : CX z ad ek cc own lh Dh dp nL) {v v2 : Value} (d : decode cc pc = .ok (.dup2, 1)) (hv : v.category = 1) (hv2 : v2.category = 1) (kk : XW z w (pc + 1) lv (v :: v2 :: v :: v2 :: st) S) : XW z w pc lv (v :: v2 :: st) S := by
  obtain ⟨p, l, e, R, s, m, args, below, meth, c, D, A, nL0, Q, kc, ksl⟩ := z
  obtain ⟨hx, hb, hts, hown, hK, hA, hml, hnl, hR, hlh, hDh, hEo, hE⟩ := C
  intro H locs hP hD hS ls hl
  exact lv_dup2_11 hx hb d hv hv2 (kk H locs hP hD hS ls hl)
theorem x_if_eq (C : CX z ad ek cc own lh Dh dp nL) {x : Int32} {off : Int} {tgt : Nat} (d : decode cc pc = .ok (.ifCond .eq off, 3)) (ht : (pc : Int) + off = (tgt : Int)) (kt : x = 0 → XW z w tgt lv st S) (kf : ¬ x = 0 → XW z w (pc + 3) lv st S) : XW z w pc lv (.int x :: st) S := by
  obtain ⟨p, l, e, R, s, m, args, below, meth, c, D, A, nL0, Q, kc, ksl⟩ := z
  obtain ⟨hx, hb, hts, hown, hK, hA, hml, hnl, hR, hlh, hDh, hEo, hE⟩ := C
  intro H locs hP hD hS ls hl
  exact lv_if_eq hx hb d ht (fun q => kt q H locs hP hD hS ls hl) (fun q => kf q H locs hP hD hS ls hl)
theorem x_icmp_eq (C : CX z ad ek cc own lh Dh dp nL) {x y : Int32} {off : Int} {tgt : Nat} (d : decode cc pc = .ok (.if_icmp .eq off, 3)) (ht : (pc : Int) + off = (tgt : Int)) (kt : x = y → XW z w tgt lv st S) (kf : ¬ x = y → XW z w (pc + 3) lv st S) : XW z w pc lv (.int y :: .int x :: st) S := by
  obtain ⟨p, l, e, R, s, m, args, below, meth, c, D, A, nL0, Q, kc, ksl⟩ := z
  obtain ⟨hx, hb, hts, hown, hK, hA, hml, hnl, hR, hlh, hDh, hEo, hE⟩ := C
  intro H locs hP hD hS ls hl
  exact lv_icmp_eq hx hb d ht (fun q => kt q H locs hP hD hS ls hl) (fun q => kf q H locs hP hD hS ls hl)
theorem x_if_ne (C : CX z ad ek cc own lh Dh dp nL) {x : Int32} {off : Int} {tgt : Nat} (d : decode cc pc = .ok (.ifCond .ne off, 3)) (ht : (pc : Int) + off = (tgt : Int)) (kt : ¬ x = 0 → XW z w tgt lv st S) (kf : x = 0 → XW z w (pc + 3) lv st S) : XW z w pc lv (.int x :: st) S := by
  obtain ⟨p, l, e, R, s, m, args, below, meth, c, D, A, nL0, Q, kc, ksl⟩ := z
  obtain ⟨hx, hb, hts, hown, hK, hA, hml, hnl, hR, hlh, hDh, hEo, hE⟩ := C
  intro H locs hP hD hS ls hl
  exact lv_if_ne hx hb d ht (fun q => kt q H locs hP hD hS ls hl) (fun q => kf q H locs hP hD hS ls hl)
theorem x_icmp_ne (C : CX z ad ek cc own lh Dh dp nL) {x y : Int32} {off : Int} {tgt : Nat} (d : decode cc pc = .ok (.if_icmp .ne off, 3)) (ht : (pc : Int) + off = (tgt : Int)) (kt : ¬ x = y → XW z w tgt lv st S) (kf : x = y → XW z w (pc + 3) lv st S) : XW z w pc lv (.int y :: .int x :: st) S := by
  obtain ⟨p, l, e, R, s, m, args, below, meth, c, D, A, nL0, Q, kc, ksl⟩ := z
  obtain ⟨hx, hb, hts, hown, hK, hA, hml, hnl, hR, hlh, hDh, hEo, hE⟩ := C
  intro H locs hP hD hS ls hl
  exact lv_icmp_ne hx hb d ht (fun q => kt q H locs hP hD hS ls hl) (fun q => kf q H locs hP hD hS ls hl)
theorem x_if_lt (C : CX z ad ek cc own lh Dh dp nL) {x : Int32} {off : Int} {tgt : Nat} (d : decode cc pc = .ok (.ifCond .lt off, 3)) (ht : (pc : Int) + off = (tgt : Int)) (kt : x < 0 → XW z w tgt lv st S) (kf : ¬ x < 0 → XW z w (pc + 3) lv st S) : XW z w pc lv (.int x :: st) S := by
  obtain ⟨p, l, e, R, s, m, args, below, meth, c, D, A, nL0, Q, kc, ksl⟩ := z
  obtain ⟨hx, hb, hts, hown, hK, hA, hml, hnl, hR, hlh, hDh, hEo, hE⟩ := C
  intro H locs hP hD hS ls hl
  exact lv_if_lt hx hb d ht (fun q => kt q H locs hP hD hS ls hl) (fun q => kf q H locs hP hD hS ls hl)
theorem x_icmp_lt (C : CX z ad ek cc own lh Dh dp nL) {x y : Int32} {off : Int} {tgt : Nat} (d : decode cc pc = .ok (.if_icmp .lt off, 3)) (ht : (pc : Int) + off = (tgt : Int)) (kt : x < y → XW z w tgt lv st S) (kf : ¬ x < y → XW z w (pc + 3) lv st S) : XW z w pc lv (.int y :: .int x :: st) S := by
  obtain ⟨p, l, e, R, s, m, args, below, meth, c, D, A, nL0, Q, kc, ksl⟩ := z
  obtain ⟨hx, hb, hts, hown, hK, hA, hml, hnl, hR, hlh, hDh, hEo, hE⟩ := C
  intro H locs hP hD hS ls hl
  exact lv_icmp_lt hx hb d ht (fun q => kt q H locs hP hD hS ls hl) (fun q => kf q H locs hP hD hS ls hl)
theorem x_if_ge (C : CX z ad ek cc own lh Dh dp nL) {x : Int32} {off : Int} {tgt : Nat} (d : decode cc pc = .ok (.ifCond .ge off, 3)) (ht : (pc : Int) + off = (tgt : Int)) (kt : 0 ≤ x → XW z w tgt lv st S) (kf : ¬ 0 ≤ x → XW z w (pc + 3) lv st S) : XW z w pc lv (.int x :: st) S := by
  obtain ⟨p, l, e, R, s, m, args, below, meth, c, D, A, nL0, Q, kc, ksl⟩ := z
  obtain ⟨hx, hb, hts, hown, hK, hA, hml, hnl, hR, hlh, hDh, hEo, hE⟩ := C
  intro H locs hP hD hS ls hl
  exact lv_if_ge hx hb d ht (fun q => kt q H locs hP hD hS ls hl) (fun q => kf q H locs hP hD hS ls hl)
theorem x_icmp_ge (C : CX z ad ek cc own lh Dh dp nL) {x y : Int32} {off : Int} {tgt : Nat} (d : decode cc pc = .ok (.if_icmp .ge off, 3)) (ht : (pc : Int) + off = (tgt : Int)) (kt : y ≤ x → XW z w tgt lv st S) (kf : ¬ y ≤ x → XW z w (pc + 3) lv st S) : XW z w pc lv (.int y :: .int x :: st) S := by
  obtain ⟨p, l, e, R, s, m, args, below, meth, c, D, A, nL0, Q, kc, ksl⟩ := z
  obtain ⟨hx, hb, hts, hown, hK, hA, hml, hnl, hR, hlh, hDh, hEo, hE⟩ := C
  intro H locs hP hD hS ls hl
  exact lv_icmp_ge hx hb d ht (fun q => kt q H locs hP hD hS ls hl) (fun q => kf q H locs hP hD hS ls hl)
theorem x_if_gt (C : CX z ad ek cc own lh Dh dp nL) {x : Int32} {off : Int} {tgt : Nat} (d : decode cc pc = .ok (.ifCond .gt off, 3)) (ht : (pc : Int) + off = (tgt : Int)) (kt : 0 < x → XW z w tgt lv st S) (kf : ¬ 0 < x → XW z w (pc + 3) lv st S) : XW z w pc lv (.int x :: st) S := by
  obtain ⟨p, l, e, R, s, m, args, below, meth, c, D, A, nL0, Q, kc, ksl⟩ := z
  obtain ⟨hx, hb, hts, hown, hK, hA, hml, hnl, hR, hlh, hDh, hEo, hE⟩ := C
  intro H locs hP hD hS ls hl
  exact lv_if_gt hx hb d ht (fun q => kt q H locs hP hD hS ls hl) (fun q => kf q H locs hP hD hS ls hl)
theorem x_icmp_gt (C : CX z ad ek cc own lh Dh dp nL) {x y : Int32} {off : Int} {tgt : Nat} (d : decode cc pc = .ok (.if_icmp .gt off, 3)) (ht : (pc : Int) + off = (tgt : Int)) (kt : y < x → XW z w tgt lv st S) (kf : ¬ y < x → XW z w (pc + 3) lv st S) : XW z w pc lv (.int y :: .int x :: st) S := by
  obtain ⟨p, l, e, R, s, m, args, below, meth, c, D, A, nL0, Q, kc, ksl⟩ := z
  obtain ⟨hx, hb, hts, hown, hK, hA, hml, hnl, hR, hlh, hDh, hEo, hE⟩ := C
  intro H locs hP hD hS ls hl
  exact lv_icmp_gt hx hb d ht (fun q => kt q H locs hP hD hS ls hl) (fun q => kf q H locs hP hD hS ls hl)
theorem x_if_le (C : CX z ad ek cc own lh Dh dp nL) {x : Int32} {off : Int} {tgt : Nat} (d : decode cc pc = .ok (.ifCond .le off, 3)) (ht : (pc : Int) + off = (tgt : Int)) (kt : x ≤ 0 → XW z w tgt lv st S) (kf : ¬ x ≤ 0 → XW z w (pc + 3) lv st S) : XW z w pc lv (.int x :: st) S := by
  obtain ⟨p, l, e, R, s, m, args, below, meth, c, D, A, nL0, Q, kc, ksl⟩ := z
  obtain ⟨hx, hb, hts, hown, hK, hA, hml, hnl, hR, hlh, hDh, hEo, hE⟩ := C
  intro H locs hP hD hS ls hl
  exact lv_if_le hx hb d ht (fun q => kt q H locs hP hD hS ls hl) (fun q => kf q H locs hP hD hS ls hl)
theorem x_icmp_le (C : CX z ad ek cc own lh Dh dp nL) {x y : Int32} {off : Int} {tgt : Nat} (d : decode cc pc = .ok (.if_icmp .le off, 3)) (ht : (pc : Int) + off = (tgt : Int)) (kt : x ≤ y → XW z w tgt lv st S) (kf : ¬ x ≤ y → XW z w (pc + 3) lv st S) : XW z w pc lv (.int y :: .int x :: st) S := by
  obtain ⟨p, l, e, R, s, m, args, below, meth, c, D, A, nL0, Q, kc, ksl⟩ := z
  obtain ⟨hx, hb, hts, hown, hK, hA, hml, hnl, hR, hlh, hDh, hEo, hE⟩ := C
  intro H locs hP hD hS ls hl
  exact lv_icmp_le hx hb d ht (fun q => kt q H locs hP hD hS ls hl) (fun q => kf q H locs hP hD hS ls hl)
theorem x_goto (C : CX z ad ek cc own lh Dh dp nL) {off : Int} {tgt : Nat} (d : decode cc pc = .ok (.goto off, 3)) (ht : (pc : Int) + off = (tgt : Int)) (kk : XW z w tgt lv st S) : XW z w pc lv st S := by
  obtain ⟨p, l, e, R, s, m, args, below, meth, c, D, A, nL0, Q, kc, ksl⟩ := z
  obtain ⟨hx, hb, hts, hown, hK, hA, hml, hnl, hR, hlh, hDh, hEo, hE⟩ := C
  intro H locs hP hD hS ls hl
  exact lv_goto hx hb d ht (kk H locs hP hD hS ls hl)
/-- where a table switch goes -/
def tsw (dflt lo hi : Int) (offs : Array Int) (x : Int) : Int := if x < lo ∨ hi < x then dflt else offs.getD (x - lo).toNat dflt
theorem x_table (C : CX z ad ek cc own lh Dh dp nL) {dflt lo hi : Int} {offs : Array Int} {len : Nat} {x : Int32} {tgt : Nat} (d : decode cc pc = .ok (.tableswitch dflt lo hi offs, len)) (hn : (offs.size : Int) = hi + 1 - lo) (ht : (pc : Int) + tsw dflt lo hi offs x.toInt = (tgt : Int)) (kk : XW z w tgt lv st S) : XW z w pc lv (.int x :: st) S := by
  obtain ⟨p, l, e, R, s, m, args, below, meth, c, D, A, nL0, Q, kc, ksl⟩ := z
  obtain ⟨hx, hb, hts, hown, hK, hA, hml, hnl, hR, hlh, hDh, hEo, hE⟩ := C
  intro H locs hP hD hS ls hl
  unfold tsw at ht
  by_cases hr : x.toInt < lo ∨ hi < x.toInt
  · rw [if_pos hr] at ht
    exact lv_tableOut hx hb d hr ht (kk H locs hP hD hS ls hl)
  · rw [if_neg hr] at ht
    have h1 : ¬ x.toInt < lo := fun q => hr (Or.inl q)
    have h2 : ¬ hi < x.toInt := fun q => hr (Or.inr q)
    have h3 : (x.toInt - lo).toNat < offs.size := by omega
    exact lv_tableIn (off := offs.getD (x.toInt - lo).toNat dflt) hx hb d h1 h2 (by rw [Array.getD_eq_getD_getElem?, Array.getElem?_eq_getElem h3]; rfl) ht (kk H locs hP hD hS ls hl)
theorem x_case {x : Int32} (k : Int32) (kt : x = k → XW z w pc lv (.int x :: st) S) (kf : ¬ x = k → XW z w pc lv (.int x :: st) S) : XW z w pc lv (.int x :: st) S := by
  by_cases c : x = k
  · exact kt c
  · exact kf c
theorem tsw_d {dflt lo hi : Int} {offs : Array Int} {x : Int32} (ks : List Int32) (h : ∀ k ∈ ks, ¬ x = k) (hall : (List.range offs.size).all (fun j => decide (offs.getD j dflt = dflt) || ks.any (fun k => decide (k.toInt = lo + j))) = true) : tsw dflt lo hi offs x.toInt = dflt := by
  unfold tsw
  by_cases hr : x.toInt < lo ∨ hi < x.toInt
  · rw [if_pos hr]
  · rw [if_neg hr]
    rcases Nat.lt_or_ge (x.toInt - lo).toNat offs.size with q | q
    · have h1 := List.all_eq_true.mp hall _ (List.mem_range.mpr q)
      rw [Bool.or_eq_true, decide_eq_true_eq, List.any_eq_true] at h1
      rcases h1 with h1 | ⟨k, hk, h1⟩
      · exact h1
      · refine absurd (Int32.toInt_inj.mp ?_) (h k hk)
        rw [decide_eq_true_eq] at h1
        omega
    · rw [Array.getD_eq_getD_getElem?, Array.getElem?_eq_none q]; rfl
def cpyOK (sp dp n : Int32) (n0 n1 : Nat) : Bool := decide (¬ sp < 0) && (decide (¬ dp < 0) && (decide (¬ n < 0) && (decide (sp.toNatClampNeg + n.toNatClampNeg ≤ n0) && decide (dp.toNatClampNeg + n.toNatClampNeg ≤ n1))))
def FU : Nat := 200000
theorem x_get (C : CX z ad ek cc own lh Dh dp nL) {Cn : String} {T : u_T} {N ci idx : Nat} (hin : ∀ v ∈ u_ws Cn T N, v ∈ UN) (q0 : Nat) {a : Nat} {fs : List Value} (he : (w S)[q0]? = some (a, .inr (ci, fs))) (hc : vwCl[ci]? = some (Cn, T, N)) (k : Nat) (hk : k < N) {v : Value} (hv : fs[k]? = some v) (u : Cond.fieldLink own idx (T k).1 (T k).2.1 (T k).2.2.1 ∈ UN) (d : decode cc pc = .ok (.getfield idx, 3)) (kk : XW z w (pc + 3) lv (v :: st) S) : XW z w pc lv (.ref a :: st) S := by
  obtain ⟨p, l, e, R, s, m, args, below, meth, c, D, A, nL0, Q, kc, ksl⟩ := z
  obtain ⟨hx, hb, hts, hown, hK, hA, hml, hnl, hR, hlh, hDh, hEo, hE⟩ := C
  intro H locs hP hD hS ls hl
  exact va_get hx hb hts hin hown hK hP q0 he hc k hk (hts _ u) (fun _ h9 => h9) hv d (kk H locs hP hD hS ls hl)
theorem x_put (C : CX z ad ek cc own lh Dh dp nL) {S' : α} {Cn : String} {T : u_T} {N ci idx : Nat} (hin : ∀ v ∈ u_ws Cn T N, v ∈ UN) (ty0 : Nat → FieldType) (hty : ∀ k, k < N → parseFieldDescriptor (T k).2.2.1 = some (ty0 k)) (hnm : ∀ a, a < N → ∀ b, b < N → a ≠ b → (T a).2.1 ≠ (T b).2.1) (q0 : Nat) {a : Nat} {fs : List Value} (he : (w S)[q0]? = some (a, .inr (ci, fs))) (hc : vwCl[ci]? = some (Cn, T, N)) (k : Nat) (hk : k < N) (hfin : (T k).2.2.2 = false) {ty : FieldType} {v : Value} (hd : parseFieldDescriptor (T k).2.2.1 = some ty) (hn : narrow ty v = v) (hfit : fits ty v = true) (hl0 : k < fs.length) (hS' : (w S).set q0 (a, .inr (ci, fs.set k v)) = w S') (u : Cond.fieldLink own idx (T k).1 (T k).2.1 (T k).2.2.1 ∈ UN) (d : decode cc pc = .ok (.putfield idx, 3)) (kk : XW z w (pc + 3) lv st S') : XW z w pc lv (v :: .ref a :: st) S := by
  obtain ⟨p, l, e, R, s, m, args, below, meth, c, D, A, nL0, Q, kc, ksl⟩ := z
  obtain ⟨hx, hb, hts, hown, hK, hA, hml, hnl, hR, hlh, hDh, hEo, hE⟩ := C
  intro H locs hP hD hS ls hl
  exact va_put hx hb hts hin ty0 hty hnm hown hK hP hD hS q0 he hc k hk (hts _ u) (fun _ h9 => h9) hfin hd hn hfit hl0 d (fun H1 locs1 h1 h2 h3 => kk H1 locs1 (hS' ▸ h1) (hS' ▸ h2) h3 ls hl)
theorem x_iald (C : CX z ad ek cc own lh Dh dp nL) (q0 : Nat) {a n : Nat} {f : Nat → Int32} (ha : (w S)[q0]? = some (a, .inl (ad.2.2.1, n, .inl f))) {i : Int32} (hin : inb i n = true) (d : decode cc pc = .ok (.iaload, 1)) (kk : XW z w (pc + 1) lv (.int (f i.toNatClampNeg) :: st) S) : XW z w pc lv (.int i :: .ref a :: st) S := by
  obtain ⟨p, l, e, R, s, m, args, below, meth, c, D, A, nL0, Q, kc, ksl⟩ := z
  obtain ⟨hx, hb, hts, hown, hK, hA, hml, hnl, hR, hlh, hDh, hEo, hE⟩ := C
  intro H locs hP hD hS ls hl
  exact va_iald hx hb hK hP q0 1 ha rfl (inb_in hin) d (kk H locs hP hD hS ls hl)
theorem x_bald (C : CX z ad ek cc own lh Dh dp nL) (q0 : Nat) {a n : Nat} {f : Nat → Int32} (ha : (w S)[q0]? = some (a, .inl (ad.2.1, n, .inl f))) {i : Int32} (hin : inb i n = true) (d : decode cc pc = .ok (.baload, 1)) (kk : XW z w (pc + 1) lv (.int (f i.toNatClampNeg) :: st) S) : XW z w pc lv (.int i :: .ref a :: st) S := by
  obtain ⟨p, l, e, R, s, m, args, below, meth, c, D, A, nL0, Q, kc, ksl⟩ := z
  obtain ⟨hx, hb, hts, hown, hK, hA, hml, hnl, hR, hlh, hDh, hEo, hE⟩ := C
  intro H locs hP hD hS ls hl
  exact va_bald hx hb hK hP q0 0 ha rfl (inb_in hin) d (kk H locs hP hD hS ls hl)
theorem x_zald (C : CX z ad ek cc own lh Dh dp nL) (q0 : Nat) {a n : Nat} {f : Nat → Int32} (ha : (w S)[q0]? = some (a, .inl (ad.2.2.2.2, n, .inl f))) {i : Int32} (hin : inb i n = true) (d : decode cc pc = .ok (.baload, 1)) (kk : XW z w (pc + 1) lv (.int (f i.toNatClampNeg) :: st) S) : XW z w pc lv (.int i :: .ref a :: st) S := by
  obtain ⟨p, l, e, R, s, m, args, below, meth, c, D, A, nL0, Q, kc, ksl⟩ := z
  obtain ⟨hx, hb, hts, hown, hK, hA, hml, hnl, hR, hlh, hDh, hEo, hE⟩ := C
  intro H locs hP hD hS ls hl
  exact va_zald hx hb hK hP q0 3 ha rfl (inb_in hin) d (kk H locs hP hD hS ls hl)
theorem x_lald (C : CX z ad ek cc own lh Dh dp nL) (q0 : Nat) {a n : Nat} {f : Nat → Int64} (ha : (w S)[q0]? = some (a, .inl (ad.2.2.2.1, n, .inr (.inl f)))) {i : Int32} (hin : inb i n = true) (d : decode cc pc = .ok (.laload, 1)) (kk : XW z w (pc + 1) lv (.long (f i.toNatClampNeg) :: st) S) : XW z w pc lv (.int i :: .ref a :: st) S := by
  obtain ⟨p, l, e, R, s, m, args, below, meth, c, D, A, nL0, Q, kc, ksl⟩ := z
  obtain ⟨hx, hb, hts, hown, hK, hA, hml, hnl, hR, hlh, hDh, hEo, hE⟩ := C
  intro H locs hP hD hS ls hl
  exact va_lald hx hb hK hP q0 2 ha rfl (inb_in hin) d (kk H locs hP hD hS ls hl)
theorem x_iast (C : CX z ad ek cc own lh Dh dp nL) {S' : α} (q0 : Nat) {a n : Nat} {f : Nat → Int32} (ha : (w S)[q0]? = some (a, .inl (ad.2.2.1, n, .inl f))) {i : Int32} {x : Int32} (hS' : (w S).set q0 (a, .inl (ad.2.2.1, n, .inl (upd f i.toNatClampNeg x))) = w S') (hin : inb i n = true) (d : decode cc pc = .ok (.iastore, 1)) (kk : XW z w (pc + 1) lv st S') : XW z w pc lv (.int x :: .int i :: .ref a :: st) S := by
  obtain ⟨p, l, e, R, s, m, args, below, meth, c, D, A, nL0, Q, kc, ksl⟩ := z
  obtain ⟨hx, hb, hts, hown, hK, hA, hml, hnl, hR, hlh, hDh, hEo, hE⟩ := C
  intro H locs hP hD hS ls hl
  exact va_iast hx hb hK hP hD hS q0 1 ha rfl (inb_in hin) d (fun H1 locs1 h1 h2 h3 => kk H1 locs1 (hS' ▸ h1) (hS' ▸ h2) h3 ls hl)
theorem x_bast (C : CX z ad ek cc own lh Dh dp nL) {S' : α} (q0 : Nat) {a n : Nat} {f : Nat → Int32} (ha : (w S)[q0]? = some (a, .inl (ad.2.1, n, .inl f))) {i : Int32} {x : Int32} (hS' : (w S).set q0 (a, .inl (ad.2.1, n, .inl (upd f i.toNatClampNeg (vp_nar .byte x)))) = w S') (hin : inb i n = true) (d : decode cc pc = .ok (.bastore, 1)) (kk : XW z w (pc + 1) lv st S') : XW z w pc lv (.int x :: .int i :: .ref a :: st) S := by
  obtain ⟨p, l, e, R, s, m, args, below, meth, c, D, A, nL0, Q, kc, ksl⟩ := z
  obtain ⟨hx, hb, hts, hown, hK, hA, hml, hnl, hR, hlh, hDh, hEo, hE⟩ := C
  intro H locs hP hD hS ls hl
  exact va_bast hx hb hK hP hD hS q0 0 ha rfl (inb_in hin) d (fun H1 locs1 h1 h2 h3 => kk H1 locs1 (hS' ▸ h1) (hS' ▸ h2) h3 ls hl)
theorem x_zast (C : CX z ad ek cc own lh Dh dp nL) {S' : α} (q0 : Nat) {a n : Nat} {f : Nat → Int32} (ha : (w S)[q0]? = some (a, .inl (ad.2.2.2.2, n, .inl f))) {i : Int32} {x : Int32} (hS' : (w S).set q0 (a, .inl (ad.2.2.2.2, n, .inl (upd f i.toNatClampNeg (vp_nar .boolean x)))) = w S') (hin : inb i n = true) (d : decode cc pc = .ok (.bastore, 1)) (kk : XW z w (pc + 1) lv st S') : XW z w pc lv (.int x :: .int i :: .ref a :: st) S := by
  obtain ⟨p, l, e, R, s, m, args, below, meth, c, D, A, nL0, Q, kc, ksl⟩ := z
  obtain ⟨hx, hb, hts, hown, hK, hA, hml, hnl, hR, hlh, hDh, hEo, hE⟩ := C
  intro H locs hP hD hS ls hl
  exact va_zast hx hb hK hP hD hS q0 3 ha rfl (inb_in hin) d (fun H1 locs1 h1 h2 h3 => kk H1 locs1 (hS' ▸ h1) (hS' ▸ h2) h3 ls hl)
theorem x_last (C : CX z ad ek cc own lh Dh dp nL) {S' : α} (q0 : Nat) {a n : Nat} {f : Nat → Int64} (ha : (w S)[q0]? = some (a, .inl (ad.2.2.2.1, n, .inr (.inl f)))) {i : Int32} {x : Int64} (hS' : (w S).set q0 (a, .inl (ad.2.2.2.1, n, .inr (.inl (vp_updL f i.toNatClampNeg x)))) = w S') (hin : inb i n = true) (d : decode cc pc = .ok (.lastore, 1)) (kk : XW z w (pc + 1) lv st S') : XW z w pc lv (.long x :: .int i :: .ref a :: st) S := by
  obtain ⟨p, l, e, R, s, m, args, below, meth, c, D, A, nL0, Q, kc, ksl⟩ := z
  obtain ⟨hx, hb, hts, hown, hK, hA, hml, hnl, hR, hlh, hDh, hEo, hE⟩ := C
  intro H locs hP hD hS ls hl
  exact va_last hx hb hK hP hD hS q0 2 ha rfl (inb_in hin) d (fun H1 locs1 h1 h2 h3 => kk H1 locs1 (hS' ▸ h1) (hS' ▸ h2) h3 ls hl)
theorem x_alen (C : CX z ad ek cc own lh Dh dp nL) (q0 t0 : Nat) {a : Nat} {cA : ClassId} {x : vp_A} (ha : (w S)[q0]? = some (a, .inl (cA, x))) {ty : FieldType} (ht : (tyA ad)[t0]? = some (cA, ty)) {v : Int32} (hv : Int32.ofNat x.1 = v) (d : decode cc pc = .ok (.arraylength, 1)) (kk : XW z w (pc + 1) lv (.int v :: st) S) : XW z w pc lv (.ref a :: st) S := by
  obtain ⟨p, l, e, R, s, m, args, below, meth, c, D, A, nL0, Q, kc, ksl⟩ := z
  obtain ⟨hx, hb, hts, hown, hK, hA, hml, hnl, hR, hlh, hDh, hEo, hE⟩ := C
  intro H locs hP hD hS ls hl
  exact va_alen hx hb hK hP q0 t0 ha ht hv d (kk H locs hP hD hS ls hl)
theorem x_mmax (C : CX z ad ek cc own lh Dh dp nL) {idx : Nat} {x y : Int32} (u : Cond.methodLink own idx ⟨"java/lang/Math", "max", "(II)I"⟩ ∈ UN) (hd1 : 1 ≤ dp) (hcat : (st.map fun v => v.category).sum + 13 ≤ 40) (d : decode cc pc = .ok (.invokestatic idx, 3)) (kk : XW z w (pc + 3) lv (.int (if x < y then y else x) :: st) S) : XW z w pc lv (.int y :: .int x :: st) S := by
  obtain ⟨p, l, e, R, s, m, args, below, meth, c, D, A, nL0, Q, kc, ksl⟩ := z
  obtain ⟨hx, hb, hts, hown, hK, hA, hml, hnl, hR, hlh, hDh, hEo, hE⟩ := C
  intro H locs hP hD hS ls hl
  exact va_mmax hx hb (by rw [hml, ← hnl]; exact hl.1.symm) hown (hts _ u) (hts _ u_4_55) (hts _ u_1_19) (hts _ u_4_56) (Nat.le_trans hd1 hR.1) (by have := hR.2.1; omega) hR.2.2.1 hR.2.2.2 d (kk H locs hP hD hS ls hl)
theorem x_mmin (C : CX z ad ek cc own lh Dh dp nL) {idx : Nat} {x y : Int32} (u : Cond.methodLink own idx ⟨"java/lang/Math", "min", "(II)I"⟩ ∈ UN) (hd1 : 1 ≤ dp) (hcat : (st.map fun v => v.category).sum + 13 ≤ 40) (d : decode cc pc = .ok (.invokestatic idx, 3)) (kk : XW z w (pc + 3) lv (.int (if y < x then y else x) :: st) S) : XW z w pc lv (.int y :: .int x :: st) S := by
  obtain ⟨p, l, e, R, s, m, args, below, meth, c, D, A, nL0, Q, kc, ksl⟩ := z
  obtain ⟨hx, hb, hts, hown, hK, hA, hml, hnl, hR, hlh, hDh, hEo, hE⟩ := C
  intro H locs hP hD hS ls hl
  exact va_mmin hx hb (by rw [hml, ← hnl]; exact hl.1.symm) hown (hts _ u) (hts _ u_4_83) (hts _ u_1_19) (hts _ u_4_84) (Nat.le_trans hd1 hR.1) (by have := hR.2.1; omega) hR.2.2.1 hR.2.2.2 d (kk H locs hP hD hS ls hl)
theorem x_copy (C : CX z ad ek cc own lh Dh dp nL) {S2 : α} {idx a0 a1 n0 n1 : Nat} {f g : Nat → Int32} (q0 q1 : Nat) (ha0 : (w S)[q0]? = some (a0, .inl (ad.2.2.1, n0, .inl f))) (ha1 : (w S)[q1]? = some (a1, .inl (ad.2.2.1, n1, .inl g))) {sp dpo n : Int32} (hS2 : (w S).set q1 (a1, .inl (ad.2.2.1, n1, .inl (va_cpy f g sp.toNatClampNeg dpo.toNatClampNeg n.toNatClampNeg))) = w S2) (u : Cond.methodLink own idx arraycopyName ∈ UN) (hok : cpyOK sp dpo n n0 n1 = true) (hd1 : 1 ≤ dp) (hcat : (st.map fun v => v.category).sum + (nativeFrameWords "java/lang/System" "arraycopy" 5 + 11) ≤ 40) (d : decode cc pc = .ok (.invokestatic idx, 3)) (kk : XW z w (pc + 3) lv st S2) : XW z w pc lv (.int n :: .int dpo :: .ref a1 :: .int sp :: .ref a0 :: st) S := by
  obtain ⟨p, l, e, R, s, m, args, below, meth, c, D, A, nL0, Q, kc, ksl⟩ := z
  obtain ⟨hx, hb, hts, hown, hK, hA, hml, hnl, hR, hlh, hDh, hEo, hE⟩ := C
  intro H locs hP hD hS ls hl
  simp only [cpyOK, Bool.and_eq_true, decide_eq_true_eq] at hok
  obtain ⟨h1, h2, h3, h4, h5⟩ := hok
  exact va_copyi (ty := .int) hx hb (by rw [hml, ← hnl]; exact hl.1.symm) hown (hts _ u) (hts _ u_3_142) (hts _ u_3_141) (hts _ u_1_18) hK hP hD hS q0 q1 1 1 ha0 ha1 rfl rfl rfl h1 h2 h3 h4 h5 (fun _ _ => rfl) (Nat.le_trans hd1 hR.1) (by have := hR.2.1; omega) d (fun H1 locs1 k1 k2 k3 => kk H1 locs1 (hS2 ▸ k1) (hS2 ▸ k2) k3 ls hl)
end XROWS

theorem good_all : ∀ v ∈ UN, goodWord v = true := fun v h => (List.mem_filter.mp h).2
def MPc {α : Type} (w : α → va_W) (ad : AD) (ek : EK) (D : va_G) (av : List Value) (S : α) (sz : Nat) : Array Value → State → Prop := va_Pc av (fun U => U.heap.size = sz ∧ va_P D vwCl (w S) U.heap ∧ va_K D vwCl (tyA ad) U ∧ va_D (fun _ => True) (w S) ∧ ek (va_A (w S) sz) U U.heap)
def MB {α : Type} (w : α → va_W) (ad : AD) (D : va_G) (A : Nat → Prop) : α → State → Prop := fun S2 t => va_P D vwCl (w S2) t.heap ∧ va_K D vwCl (tyA ad) t ∧ va_D A (w S2)
def MXi (l : Launch) (D : va_G) (ad : AD) (ek : EK) (w : ST → va_W) (y : MethodName) (cc : ByteArray) (maxL : Nat) (ret : Option FieldType) (d : Nat) (av : List Value) (S : ST) (r : Int32) (S' : ST) : Prop :=
  EKok ek → ∀ sz, Met l y (Cond.code y cc maxL ret :: UN) (rmD d) (MPc w ad ek D av S sz) (va_Qi (fun r2 S2 => r2 = r ∧ S2 = S') (MB w ad D (va_A (w S) sz)) (va_A (w S) sz)) 0 0 (va_A (w S) sz)
def MXl (l : Launch) (D : va_G) (ad : AD) (ek : EK) (w : ST → va_W) (y : MethodName) (cc : ByteArray) (maxL : Nat) (ret : Option FieldType) (d : Nat) (av : List Value) (S : ST) (r : Int64) (S' : ST) : Prop :=
  EKok ek → ∀ sz, Met l y (Cond.code y cc maxL ret :: UN) (rmD d) (MPc w ad ek D av S sz) (va_Ql (fun r2 S2 => r2 = r ∧ S2 = S') (MB w ad D (va_A (w S) sz)) (va_A (w S) sz)) 0 0 (va_A (w S) sz)
def MXv (l : Launch) (D : va_G) (ad : AD) (ek : EK) (w : ST → va_W) (y : MethodName) (cc : ByteArray) (maxL : Nat) (ret : Option FieldType) (d : Nat) (av : List Value) (S : ST) (S' : ST) : Prop :=
  EKok ek → ∀ sz, Met l y (Cond.code y cc maxL ret :: UN) (rmD d) (MPc w ad ek D av S sz) (va_Qv (fun S2 => S2 = S') (MB w ad D (va_A (w S) sz)) (va_A (w S) sz)) 0 0 (va_A (w S) sz)
theorem MPc_blind {α : Type} {w : α → va_W} {ad : AD} {ek : EK} {D : va_G} {av : List Value} {S : α} {sz : Nat} (hE : EKok ek) : FrameBlind (MPc w ad ek D av S sz) := by
  intro a U g mk q
  obtain ⟨q0, q1, qP, qK, qD, qE⟩ := q
  exact ⟨q0, q1, qP, va_K.moved (u := U) (U := U.calling g mk a) (Vm.Alike.refl U.vm) qK, qD, hE.2.2.2 _ U (U.calling g mk a) _ rfl qE⟩
/-- the words of a call of an instance method, of a static one -/
def CWV (own : String) (idx : Nat) (Cn : String) (y : MethodName) (cc : ByteArray) (maxL : Nat) (ret : Option FieldType) (n : Nat) : Prop := (Cond.code y cc maxL ret ∈ UN ∧ Cond.methodLink own idx y ∈ UN ∧ Cond.instanceMethod y ∈ UN ∧ Cond.selects Cn y y ∈ UN ∧ Cond.initialized Cn ∈ UN) ∧ (y.cls = Cn ∧ y.cls ≠ "java/lang/invoke/MethodHandle" ∧ y.cls ≠ "java/lang/invoke/VarHandle" ∧ (parseMethodDescriptor y.desc).map (fun d => d.parameters.length) = some n) ∧ maxL ≤ 21
def CWS (own : String) (idx : Nat) (y : MethodName) (cc : ByteArray) (maxL : Nat) (ret : Option FieldType) (n : Nat) : Prop := (Cond.code y cc maxL ret ∈ UN ∧ Cond.methodLink own idx y ∈ UN ∧ Cond.static y ∈ UN ∧ Cond.initialized y.cls ∈ UN) ∧ (y.cls ≠ "java/lang/invoke/MethodHandle" ∧ y.cls ≠ "java/lang/invoke/VarHandle" ∧ (parseMethodDescriptor y.desc).map (fun d => d.parameters.length) = some n) ∧ maxL ≤ 21
theorem cwv_good {own : String} {idx : Nat} {Cn : String} {y : MethodName} {cc : ByteArray} {maxL : Nat} {ret : Option FieldType} {n : Nat} (h : CWV own idx Cn y cc maxL ret n) : GoodIn UN (wsV own idx Cn y (Cond.code y cc maxL ret :: UN)) := by
  obtain ⟨⟨u0, u1, u2, u3, u4⟩, -, -⟩ := h
  refine goodIn_sub (fun v hv => ?_) ?_
  · simp only [wsV, List.cons_append, List.nil_append, List.mem_cons] at hv
    rcases hv with rfl | rfl | rfl | rfl | rfl | hv
    · exact u1
    · exact u2
    · exact u3
    · exact u4
    · exact u0
    · exact hv
  · simp only [wsV, List.cons_append, List.nil_append, List.all_cons, Bool.and_eq_true]
    exact ⟨good_all _ u1, good_all _ u2, good_all _ u3, good_all _ u4, good_all _ u0, List.all_eq_true.mpr good_all⟩
theorem cws_good {own : String} {idx : Nat} {y : MethodName} {cc : ByteArray} {maxL : Nat} {ret : Option FieldType} {n : Nat} (h : CWS own idx y cc maxL ret n) : GoodIn UN (va_wsS own idx y (Cond.code y cc maxL ret :: UN)) := by
  obtain ⟨⟨u0, u1, u2, u3⟩, -, -⟩ := h
  refine goodIn_sub (fun v hv => ?_) ?_
  · simp only [va_wsS, List.cons_append, List.nil_append, List.mem_cons] at hv
    rcases hv with rfl | rfl | rfl | rfl | hv
    · exact u1
    · exact u2
    · exact u3
    · exact u0
    · exact hv
  · simp only [va_wsS, List.cons_append, List.nil_append, List.all_cons, Bool.and_eq_true]
    exact ⟨good_all _ u1, good_all _ u2, good_all _ u3, good_all _ u0, List.all_eq_true.mpr good_all⟩
theorem rm_le {d dp maxL kc ks : Nat} {R : Room} (hR : dp ≤ R.frames ∧ 40 * dp ≤ R.locals ∧ kc ≤ R.cells ∧ ks ≤ R.slots) (h : d + 1 ≤ dp) (hm : maxL ≤ 21) : (rmD d).frames + 1 ≤ R.frames ∧ 8 + (maxL + 11) + (rmD d).locals ≤ R.locals := ⟨Nat.le_trans h hR.1, by have := hR.2.1; show 8 + (maxL + 11) + 40 * d ≤ R.locals; omega⟩
theorem A_in {A : Nat → Prop} {ws : va_W} {H0 H : Heap} {locs : List Loc} (hD : va_D A ws) (hS : va_S A H0 H locs) (hA : ∀ q, H0.size ≤ q → A q) : ∀ q, va_A ws H.size q → A q := by
  intro q h
  rcases h with ⟨k, e, h⟩ | h
  · exact hD.2 k _ h
  · exact hA q (Nat.le_trans hS.1 h)
section XCALLS
variable {z : ZT} {w : ST → va_W} {ad : AD} {ek : EK} {cc : ByteArray} {own : String} {lh : Launch} {Dh : va_G} {dp nL : Nat} {pc : Nat} {lv lv' : List (Nat × Value)} {st stk : List Value} {S : ST}
variable {y : MethodName} {ccy : ByteArray} {maxL : Nat} {ret : Option FieldType} {dy idx b : Nat} {As : List Value} {Cn : String} {T : u_T} {N ci q0 : Nat} {fs : List Value}

theorem x_callVi (C : CX z ad ek cc own lh Dh dp nL) {r : Int32} {S' : ST} (hM : MXi lh Dh ad ek w y ccy maxL ret dy (.ref b :: As) S r S') (hw : CWV own idx Cn y ccy maxL ret As.length) (hc : vwCl[ci]? = some (Cn, T, N)) (he : (w S)[q0]? = some (b, .inr (ci, fs))) (hd1 : dy + 1 ≤ dp) (hcat : (st.map fun v => v.category).sum ≤ 8) (hstk : As.reverse ++ .ref b :: st = stk) (d : decode cc pc = .ok (.invokevirtual idx, 3)) (kk : XW z w (pc + 3) lv (.int r :: st) S') : XW z w pc lv stk S := by
  obtain ⟨p, l, e, R, s, m, args, below, meth, c, D, A, nL0, Q, kc, ksl⟩ := z
  obtain ⟨hx, hb, hts, hown, hK, hA, hml, hnl, hR, hlh, hDh, hEo, hE⟩ := C
  intro H locs hP hD hS ls hl
  subst hlh hDh hnl hstk
  have hF := A_in hD hS hA
  refine va_calli (va_runV (cc := cc) (As := As) (rest := st) ⟨hx, hb, hml, hown, hts⟩ (hM hEo H.size) (cwV As.length hts (cwv_good hw) rfl rfl rfl hw.2.1 (rm_le hR hd1 hw.2.2)) ⟨MPc_blind hEo, va_recv hK hP hc he, fun U hU hW => ⟨rfl, by rw [hU], by rw [hU]; exact hP, va_K.moved hW.alike hK, hD.weaken (fun _ _ _ _ => trivial), by rw [hU]; exact hEo.2.2.1 _ s U H hW (hEo.2.1 _ _ s H (hEo.1 _ s s.heap H hE hS.2.1) (A_in hD hS hA))⟩⟩ rfl rfl hl.1 rfl (lv_room hcat) d ⟨hR.2.2.1, hR.2.2.2⟩) hS (fun q _ h => hF q h) hF (fun r2 u t H1 locs1 ht hvm hw2 hB hz1 hk1 hS1 => ?_)
  obtain ⟨hP1, hK1, hD1⟩ := hB
  obtain ⟨rfl, rfl⟩ := hw2
  rw [ht] at hP1
  exact kk H1 locs1 hP1 (hD1.weaken (fun _ _ _ h => hF _ h)) hS1 ls hl
theorem x_callVl (C : CX z ad ek cc own lh Dh dp nL) {r : Int64} {S' : ST} (hM : MXl lh Dh ad ek w y ccy maxL ret dy (.ref b :: As) S r S') (hw : CWV own idx Cn y ccy maxL ret As.length) (hc : vwCl[ci]? = some (Cn, T, N)) (he : (w S)[q0]? = some (b, .inr (ci, fs))) (hd1 : dy + 1 ≤ dp) (hcat : (st.map fun v => v.category).sum ≤ 8) (hstk : As.reverse ++ .ref b :: st = stk) (d : decode cc pc = .ok (.invokevirtual idx, 3)) (kk : XW z w (pc + 3) lv (.long r :: st) S') : XW z w pc lv stk S := by
  obtain ⟨p, l, e, R, s, m, args, below, meth, c, D, A, nL0, Q, kc, ksl⟩ := z
  obtain ⟨hx, hb, hts, hown, hK, hA, hml, hnl, hR, hlh, hDh, hEo, hE⟩ := C
  intro H locs hP hD hS ls hl
  subst hlh hDh hnl hstk
  have hF := A_in hD hS hA
  refine va_calll (va_runV (cc := cc) (As := As) (rest := st) ⟨hx, hb, hml, hown, hts⟩ (hM hEo H.size) (cwV As.length hts (cwv_good hw) rfl rfl rfl hw.2.1 (rm_le hR hd1 hw.2.2)) ⟨MPc_blind hEo, va_recv hK hP hc he, fun U hU hW => ⟨rfl, by rw [hU], by rw [hU]; exact hP, va_K.moved hW.alike hK, hD.weaken (fun _ _ _ _ => trivial), by rw [hU]; exact hEo.2.2.1 _ s U H hW (hEo.2.1 _ _ s H (hEo.1 _ s s.heap H hE hS.2.1) (A_in hD hS hA))⟩⟩ rfl rfl hl.1 rfl (lv_room hcat) d ⟨hR.2.2.1, hR.2.2.2⟩) hS (fun q _ h => hF q h) hF (fun r2 u t H1 locs1 ht hvm hw2 hB hz1 hk1 hS1 => ?_)
  obtain ⟨hP1, hK1, hD1⟩ := hB
  obtain ⟨rfl, rfl⟩ := hw2
  rw [ht] at hP1
  exact kk H1 locs1 hP1 (hD1.weaken (fun _ _ _ h => hF _ h)) hS1 ls hl
theorem x_callVv (C : CX z ad ek cc own lh Dh dp nL) {S' : ST} (hM : MXv lh Dh ad ek w y ccy maxL ret dy (.ref b :: As) S S') (hw : CWV own idx Cn y ccy maxL ret As.length) (hc : vwCl[ci]? = some (Cn, T, N)) (he : (w S)[q0]? = some (b, .inr (ci, fs))) (hd1 : dy + 1 ≤ dp) (hcat : (st.map fun v => v.category).sum ≤ 8) (hstk : As.reverse ++ .ref b :: st = stk) (d : decode cc pc = .ok (.invokevirtual idx, 3)) (kk : XW z w (pc + 3) lv (st) S') : XW z w pc lv stk S := by
  obtain ⟨p, l, e, R, s, m, args, below, meth, c, D, A, nL0, Q, kc, ksl⟩ := z
  obtain ⟨hx, hb, hts, hown, hK, hA, hml, hnl, hR, hlh, hDh, hEo, hE⟩ := C
  intro H locs hP hD hS ls hl
  subst hlh hDh hnl hstk
  have hF := A_in hD hS hA
  refine va_callv (va_runV (cc := cc) (As := As) (rest := st) ⟨hx, hb, hml, hown, hts⟩ (hM hEo H.size) (cwV As.length hts (cwv_good hw) rfl rfl rfl hw.2.1 (rm_le hR hd1 hw.2.2)) ⟨MPc_blind hEo, va_recv hK hP hc he, fun U hU hW => ⟨rfl, by rw [hU], by rw [hU]; exact hP, va_K.moved hW.alike hK, hD.weaken (fun _ _ _ _ => trivial), by rw [hU]; exact hEo.2.2.1 _ s U H hW (hEo.2.1 _ _ s H (hEo.1 _ s s.heap H hE hS.2.1) (A_in hD hS hA))⟩⟩ rfl rfl hl.1 rfl (lv_room hcat) d ⟨hR.2.2.1, hR.2.2.2⟩) hS (fun q _ h => hF q h) hF (fun u t H1 locs1 ht hvm hw2 hB hz1 hk1 hS1 => ?_)
  obtain ⟨hP1, hK1, hD1⟩ := hB
  subst hw2
  rw [ht] at hP1
  exact kk H1 locs1 hP1 (hD1.weaken (fun _ _ _ h => hF _ h)) hS1 ls hl
theorem x_callSi (C : CX z ad ek cc own lh Dh dp nL) {r : Int32} {S' : ST} (hM : MXi lh Dh ad ek w y ccy maxL ret dy As S r S') (hw : CWS own idx y ccy maxL ret As.length) (hd1 : dy + 1 ≤ dp) (hcat : (st.map fun v => v.category).sum ≤ 8) (hstk : As.reverse ++ st = stk) (d : decode cc pc = .ok (.invokestatic idx, 3)) (kk : XW z w (pc + 3) lv (.int r :: st) S') : XW z w pc lv stk S := by
  obtain ⟨p, l, e, R, s, m, args, below, meth, c, D, A, nL0, Q, kc, ksl⟩ := z
  obtain ⟨hx, hb, hts, hown, hK, hA, hml, hnl, hR, hlh, hDh, hEo, hE⟩ := C
  intro H locs hP hD hS ls hl
  subst hlh hDh hnl hstk
  have hF := A_in hD hS hA
  refine va_calli (va_runS (cc := cc) (As := As) (rest := st) ⟨hx, hb, hml, hown, hts⟩ (hM hEo H.size) (va_cwS As.length hts (cws_good hw) rfl rfl rfl hw.2.1 (rm_le hR hd1 hw.2.2)) ⟨MPc_blind hEo, fun U hU hW => ⟨rfl, by rw [hU], by rw [hU]; exact hP, va_K.moved hW.alike hK, hD.weaken (fun _ _ _ _ => trivial), by rw [hU]; exact hEo.2.2.1 _ s U H hW (hEo.2.1 _ _ s H (hEo.1 _ s s.heap H hE hS.2.1) (A_in hD hS hA))⟩⟩ rfl rfl hl.1 rfl (lv_room hcat) d ⟨hR.2.2.1, hR.2.2.2⟩) hS (fun q _ h => hF q h) hF (fun r2 u t H1 locs1 ht hvm hw2 hB hz1 hk1 hS1 => ?_)
  obtain ⟨hP1, hK1, hD1⟩ := hB
  obtain ⟨rfl, rfl⟩ := hw2
  rw [ht] at hP1
  exact kk H1 locs1 hP1 (hD1.weaken (fun _ _ _ h => hF _ h)) hS1 ls hl
theorem x_callSl (C : CX z ad ek cc own lh Dh dp nL) {r : Int64} {S' : ST} (hM : MXl lh Dh ad ek w y ccy maxL ret dy As S r S') (hw : CWS own idx y ccy maxL ret As.length) (hd1 : dy + 1 ≤ dp) (hcat : (st.map fun v => v.category).sum ≤ 8) (hstk : As.reverse ++ st = stk) (d : decode cc pc = .ok (.invokestatic idx, 3)) (kk : XW z w (pc + 3) lv (.long r :: st) S') : XW z w pc lv stk S := by
  obtain ⟨p, l, e, R, s, m, args, below, meth, c, D, A, nL0, Q, kc, ksl⟩ := z
  obtain ⟨hx, hb, hts, hown, hK, hA, hml, hnl, hR, hlh, hDh, hEo, hE⟩ := C
  intro H locs hP hD hS ls hl
  subst hlh hDh hnl hstk
  have hF := A_in hD hS hA
  refine va_calll (va_runS (cc := cc) (As := As) (rest := st) ⟨hx, hb, hml, hown, hts⟩ (hM hEo H.size) (va_cwS As.length hts (cws_good hw) rfl rfl rfl hw.2.1 (rm_le hR hd1 hw.2.2)) ⟨MPc_blind hEo, fun U hU hW => ⟨rfl, by rw [hU], by rw [hU]; exact hP, va_K.moved hW.alike hK, hD.weaken (fun _ _ _ _ => trivial), by rw [hU]; exact hEo.2.2.1 _ s U H hW (hEo.2.1 _ _ s H (hEo.1 _ s s.heap H hE hS.2.1) (A_in hD hS hA))⟩⟩ rfl rfl hl.1 rfl (lv_room hcat) d ⟨hR.2.2.1, hR.2.2.2⟩) hS (fun q _ h => hF q h) hF (fun r2 u t H1 locs1 ht hvm hw2 hB hz1 hk1 hS1 => ?_)
  obtain ⟨hP1, hK1, hD1⟩ := hB
  obtain ⟨rfl, rfl⟩ := hw2
  rw [ht] at hP1
  exact kk H1 locs1 hP1 (hD1.weaken (fun _ _ _ h => hF _ h)) hS1 ls hl
theorem x_callSv (C : CX z ad ek cc own lh Dh dp nL) {S' : ST} (hM : MXv lh Dh ad ek w y ccy maxL ret dy As S S') (hw : CWS own idx y ccy maxL ret As.length) (hd1 : dy + 1 ≤ dp) (hcat : (st.map fun v => v.category).sum ≤ 8) (hstk : As.reverse ++ st = stk) (d : decode cc pc = .ok (.invokestatic idx, 3)) (kk : XW z w (pc + 3) lv (st) S') : XW z w pc lv stk S := by
  obtain ⟨p, l, e, R, s, m, args, below, meth, c, D, A, nL0, Q, kc, ksl⟩ := z
  obtain ⟨hx, hb, hts, hown, hK, hA, hml, hnl, hR, hlh, hDh, hEo, hE⟩ := C
  intro H locs hP hD hS ls hl
  subst hlh hDh hnl hstk
  have hF := A_in hD hS hA
  refine va_callv (va_runS (cc := cc) (As := As) (rest := st) ⟨hx, hb, hml, hown, hts⟩ (hM hEo H.size) (va_cwS As.length hts (cws_good hw) rfl rfl rfl hw.2.1 (rm_le hR hd1 hw.2.2)) ⟨MPc_blind hEo, fun U hU hW => ⟨rfl, by rw [hU], by rw [hU]; exact hP, va_K.moved hW.alike hK, hD.weaken (fun _ _ _ _ => trivial), by rw [hU]; exact hEo.2.2.1 _ s U H hW (hEo.2.1 _ _ s H (hEo.1 _ s s.heap H hE hS.2.1) (A_in hD hS hA))⟩⟩ rfl rfl hl.1 rfl (lv_room hcat) d ⟨hR.2.2.1, hR.2.2.2⟩) hS (fun q _ h => hF q h) hF (fun u t H1 locs1 ht hvm hw2 hB hz1 hk1 hS1 => ?_)
  obtain ⟨hP1, hK1, hD1⟩ := hB
  subst hw2
  rw [ht] at hP1
  exact kk H1 locs1 hP1 (hD1.weaken (fun _ _ _ h => hF _ h)) hS1 ls hl
end XCALLS

def retOK (ret : Option FieldType) (r : Int32) : Prop := match ret with
  | some ty => ty = .int ∨ narrow ty (.int r) = .int r
  | none => False
def EI (z : ZT) (w : ST → va_W) (cc : ByteArray) (ret : Option FieldType) (r : Int32) (S' : ST) : Prop := ∀ (pc : Nat) (lv : List (Nat × Value)), decode cc pc = .ok (.ireturn, 1) → retOK ret r → XW z w pc lv [.int r] S'
def EL (z : ZT) (w : ST → va_W) (cc : ByteArray) (r : Int64) (S' : ST) : Prop := ∀ (pc : Nat) (lv : List (Nat × Value)), decode cc pc = .ok (.lreturn, 1) → XW z w pc lv [.long r] S'
def EV (z : ZT) (w : ST → va_W) (cc : ByteArray) (S' : ST) : Prop := ∀ (pc : Nat) (lv : List (Nat × Value)), decode cc pc = .ok (.return_, 1) → XW z w pc lv [] S'
theorem x_iret {z : ZT} {w : ST → va_W} {cc : ByteArray} {ret : Option FieldType} {r e : Int32} {S S' : ST} {pc : Nat} {lv : List (Nat × Value)} (E : EI z w cc ret r S') (h : some (e, S) = some (r, S')) (hr : retOK ret e) (d : decode cc pc = .ok (.ireturn, 1)) : XW z w pc lv [.int e] S := by cases h; exact E pc lv d hr
theorem x_iret0 {z : ZT} {w : ST → va_W} {cc : ByteArray} {ret : Option FieldType} {r e : Int32} {S : ST} {pc : Nat} {lv : List (Nat × Value)} (E : EI z w cc ret r S) (h : some e = some r) (hr : retOK ret e) (d : decode cc pc = .ok (.ireturn, 1)) : XW z w pc lv [.int e] S := by cases h; exact E pc lv d hr
theorem x_lret0 {z : ZT} {w : ST → va_W} {cc : ByteArray} {r e : Int64} {S : ST} {pc : Nat} {lv : List (Nat × Value)} (E : EL z w cc r S) (h : some e = some r) (d : decode cc pc = .ok (.lreturn, 1)) : XW z w pc lv [.long e] S := by cases h; exact E pc lv d
theorem x_vret {z : ZT} {w : ST → va_W} {cc : ByteArray} {S S' : ST} {pc : Nat} {lv : List (Nat × Value)} (E : EV z w cc S') (h : some S = some S') (d : decode cc pc = .ok (.return_, 1)) : XW z w pc lv [] S := by cases h; exact E pc lv d
theorem retB {e : Int32} (h : isB e = true) : retOK (some .boolean) e := Or.inr (isB_nar h).1
theorem retI {e : Int32} : retOK (some .int) e := Or.inl rfl

theorem mxi_of {l : Launch} {D : va_G} {ad : AD} {ek : EK} {w : ST → va_W} {y : MethodName} {cc : ByteArray} {maxL : Nat} {ret : Option FieldType} {d : Nat} {av : List Value} {S : ST} {r : Int32} {S' : ST} (hy : plainName y.cls = true) (hlen : (lg_sl av).length ≤ maxL) (body : ∀ z : ZT, CX z ad ek cc y.cls l D d maxL → EI z w cc ret r S' → XW z w 0 (lv_args 0 av) [] S) : MXi l D ad ek w y cc maxL ret d av S r S' := by
  intro hEo sz
  refine Met.ofW (cc := cc) (maxL := maxL) (ret := ret) hy rfl ?_
  intro p e s m args below meth c s₁ B hml hv
  obtain ⟨rfl, hsz, hP, hK, hD0, hE⟩ := hv
  have hx := B.exec
  have hb := B.bytes
  have hr := B.returns
  have hts0 := atoms_spec (ws := Cond.code y cc maxL ret :: UN) B.pre
  have hts : ∀ v ∈ UN, v.before av.toArray s = true := fun v hv => hts0 v (List.mem_cons_of_mem _ hv)
  have hown : s.vm.findClass y.cls = some m.cls := findClass_of_methodNamed B.named
  have hlocks := B.notSynchronized
  subst hsz
  have hD := hD0.self (sz := s.heap.size)
  have hA : ∀ q : Nat, s.heap.size ≤ q → va_A (w S) s.heap.size q := fun q h => Or.inr h
  have hl := lv_entry av (n := maxL) hlen
  rw [lg_entry_eq]
  refine body (p, l, e, rmD d, s, m, av.toArray, below, meth, c, D, va_A (w S) s.heap.size, maxL, _, 0, 0) ⟨hx, hb, hts, hown, hK, hA, hml, rfl, ⟨Nat.le_refl _, Nat.le_refl _, Nat.le_refl _, Nat.le_refl _⟩, rfl, rfl, hEo, hE⟩ ?_ s.heap [] hP hD va_S.rf _ hl
  intro pc lv hd hro H locs hP1 hD1 hS1 ls hl1
  cases ret with
  | none => exact absurd hro (fun h => h)
  | some ty =>
    rcases hro with rfl | hn
    · exact W.iret hx hb hr (fun t ht hW => ⟨⟨r, S', rfl, ⟨rfl, rfl⟩, by rw [ht]; exact hP1, va_K.moved hW.alike hK, hD1⟩, hS1.F ht⟩) hS1.2.2 hd hlocks
    · exact W.zret hx hb hr hn (fun t ht hW => ⟨⟨r, S', rfl, ⟨rfl, rfl⟩, by rw [ht]; exact hP1, va_K.moved hW.alike hK, hD1⟩, hS1.F ht⟩) hS1.2.2 hd hlocks
theorem mxl_of {l : Launch} {D : va_G} {ad : AD} {ek : EK} {w : ST → va_W} {y : MethodName} {cc : ByteArray} {maxL : Nat} {d : Nat} {av : List Value} {S : ST} {r : Int64} {S' : ST} (hy : plainName y.cls = true) (hlen : (lg_sl av).length ≤ maxL) (body : ∀ z : ZT, CX z ad ek cc y.cls l D d maxL → EL z w cc r S' → XW z w 0 (lv_args 0 av) [] S) : MXl l D ad ek w y cc maxL (some .long) d av S r S' := by
  intro hEo sz
  refine Met.ofW (cc := cc) (maxL := maxL) (ret := (some .long)) hy rfl ?_
  intro p e s m args below meth c s₁ B hml hv
  obtain ⟨rfl, hsz, hP, hK, hD0, hE⟩ := hv
  have hx := B.exec
  have hb := B.bytes
  have hr := B.returns
  have hts0 := atoms_spec (ws := Cond.code y cc maxL (some .long) :: UN) B.pre
  have hts : ∀ v ∈ UN, v.before av.toArray s = true := fun v hv => hts0 v (List.mem_cons_of_mem _ hv)
  have hown : s.vm.findClass y.cls = some m.cls := findClass_of_methodNamed B.named
  have hlocks := B.notSynchronized
  subst hsz
  have hD := hD0.self (sz := s.heap.size)
  have hA : ∀ q : Nat, s.heap.size ≤ q → va_A (w S) s.heap.size q := fun q h => Or.inr h
  have hl := lv_entry av (n := maxL) hlen
  rw [lg_entry_eq]
  refine body (p, l, e, rmD d, s, m, av.toArray, below, meth, c, D, va_A (w S) s.heap.size, maxL, _, 0, 0) ⟨hx, hb, hts, hown, hK, hA, hml, rfl, ⟨Nat.le_refl _, Nat.le_refl _, Nat.le_refl _, Nat.le_refl _⟩, rfl, rfl, hEo, hE⟩ ?_ s.heap [] hP hD va_S.rf _ hl
  intro pc lv hd H locs hP1 hD1 hS1 ls hl1
  exact W.lret hx hb hr (fun t ht hW => ⟨⟨r, S', rfl, ⟨rfl, rfl⟩, by rw [ht]; exact hP1, va_K.moved hW.alike hK, hD1⟩, hS1.F ht⟩) hS1.2.2 hd hlocks
theorem mxv_of {l : Launch} {D : va_G} {ad : AD} {ek : EK} {w : ST → va_W} {y : MethodName} {cc : ByteArray} {maxL : Nat} {d : Nat} {av : List Value} {S : ST} {S' : ST} (hy : plainName y.cls = true) (hlen : (lg_sl av).length ≤ maxL) (body : ∀ z : ZT, CX z ad ek cc y.cls l D d maxL → EV z w cc S' → XW z w 0 (lv_args 0 av) [] S) : MXv l D ad ek w y cc maxL none d av S S' := by
  intro hEo sz
  refine Met.ofW (cc := cc) (maxL := maxL) (ret := none) hy rfl ?_
  intro p e s m args below meth c s₁ B hml hv
  obtain ⟨rfl, hsz, hP, hK, hD0, hE⟩ := hv
  have hx := B.exec
  have hb := B.bytes
  have hr := B.returns
  have hts0 := atoms_spec (ws := Cond.code y cc maxL none :: UN) B.pre
  have hts : ∀ v ∈ UN, v.before av.toArray s = true := fun v hv => hts0 v (List.mem_cons_of_mem _ hv)
  have hown : s.vm.findClass y.cls = some m.cls := findClass_of_methodNamed B.named
  have hlocks := B.notSynchronized
  subst hsz
  have hD := hD0.self (sz := s.heap.size)
  have hA : ∀ q : Nat, s.heap.size ≤ q → va_A (w S) s.heap.size q := fun q h => Or.inr h
  have hl := lv_entry av (n := maxL) hlen
  rw [lg_entry_eq]
  refine body (p, l, e, rmD d, s, m, av.toArray, below, meth, c, D, va_A (w S) s.heap.size, maxL, _, 0, 0) ⟨hx, hb, hts, hown, hK, hA, hml, rfl, ⟨Nat.le_refl _, Nat.le_refl _, Nat.le_refl _, Nat.le_refl _⟩, rfl, rfl, hEo, hE⟩ ?_ s.heap [] hP hD va_S.rf _ hl
  intro pc lv hd H locs hP1 hD1 hS1 ls hl1
  exact W.vret hx hb hr (fun t ht hW => ⟨⟨S', rfl, rfl, by rw [ht]; exact hP1, va_K.moved hW.alike hK, hD1⟩, hS1.F ht⟩) hS1.2.2 hd hlocks
