/-! THE CLAIM OUT OF ONE WALK OF THE LAW'S BODY. Your part is whole_start (and what it stands on); all else here is the same for every law, but numbers. -/
def R_law : String := "SaidRecordLaw"
def lw_P (b : Addr) (xs : List Int32) (args : Array Value) (s : State) : Prop := args = #[.ref b] ∧ s.IntsAt b xs ∧ xs.length ≤ 3584 ∧ (Jvm.Cond.and given_1 narrow_1).before args s = true
def lw_Q (_ : Array Value) (s : State) (o : Outcome) (t : State) : Prop := o = .returned (some (.int 1)) ∧ Framed s o t [] 600000 7302250
def lw_Z (below : List Frame) (a : Array Value) (s : State) : State → Prop := fun t => ∃ o, t.status = .running ∧ Ended t below o ∧ lw_Q a s o t
/-- the law's own end, with 1 on the stack, nothing written that was there before, its room as the claim has it -/
theorem lw_ret {p : Program} {l : Launch} {e : Env} {s : State} {m : MethodId} {below : List Frame} {meth : Method} {c : Code} {b : Nat} (hx : p.tables.exec = Jvm.exec) (hb : c.code = code) (hr : meth.sig.returnType = ret) (hlocks : meth.locks = false) {pc : Nat} {H : Heap} {ls : Array Slot} (hdg : decode code pc = .ok (.ireturn, 1)) : W p l e room_1 s m #[Value.ref b] below meth c H [] 600000 7302250 (lw_Z below #[Value.ref b] s) (F0 m pc ls [.int 1]) := by
  intro T hT X
  obtain ⟨fs, hret, hrun, hended, hW, hframe⟩ := X.leave (v := some (.int 1)) (hlocks := hlocks) (fun h => by rw [hr] at h; cases h)
  have hmeth' : T.vm.method? m = some meth := X.method'
  refine ⟨T.setFrames fs, ?_, .returned (some (.int 1)), hrun, hended, rfl, ⟨_, rfl⟩, hW, hframe⟩
  jvm_step X.here [X.here.top, hx, hb, hdg, hmeth', hr, ret, narrow_b1]
  (try refine ⟨rfl, ?_⟩); (try refine ⟨rfl, ?_⟩)
  first | (intro acts; rw [hret _ acts rfl rfl rfl]) | rw [hret _ _ rfl rfl rfl]
  exact Steps.refl _
/-- what holds at the law's entry: the machine, the code, the tables' words (any of lw_tbl by 'hts w (by decide +kernel)'), the script of L ints xs at the cell b, what the Statement gives of the start (any of its parts by flat_of_before) -/
def lw_At (p : Program) (s : State) (m : MethodId) (meth : Method) (c : Code) (b L : Nat) (xs : Nat → Int32) : Prop :=
  p.tables.exec = Jvm.exec ∧ c.code = code ∧ meth.sig.returnType = ret ∧ c.maxLocals = 4 ∧ s.vm.findClass R_law = some m.cls ∧ (∀ w ∈ lw_tbl, w.before #[Value.ref b] s = true) ∧ va_X b L xs s s.heap ∧ b < s.heap.size ∧ meth.locks = false ∧ (Jvm.Cond.and given_1 narrow_1).before #[Value.ref b] s = true
theorem un_sub {args : Array Value} {s : State} (h : ∀ w ∈ lw_tbl, w.before args s = true) : ∀ w ∈ UN, w.before args s = true := fun w hw => h w (List.mem_filter.mp hw).1
theorem arr_of {args : Array Value} {s : State} {ty : FieldType} (hne : ∀ C, ty ≠ .object C) (h : (Cond.arrayClass ty).before args s = true) : ∃ cA : ClassId, ArrOfT s cA ty ∧ va_RA s cA ty := by
  obtain ⟨c, k, comp, h1, h2, h3⟩ := Cond.arrayClass_spec (args := args) (first := s) (o := none) (s := s) (idx := []) h
  refine ⟨c, fun n z => ⟨fun k h => (by cases h), k, h2, comp, h3⟩, ?_⟩
  cases ty <;> first | exact h1 | exact absurd rfl (hne _)
theorem law_K {args : Array Value} {s : State} (hts : ∀ w ∈ UN, w.before args s = true) : ∃ (dC : Nat → ClassId) (dI : Nat → Nat → Nat) (ids : ClassId × ClassId × ClassId × ClassId), ∀ q : Nat → Nat, va_K (dC, dI) vwCl (tyA (q, ids)) s := by
  obtain ⟨c0, i0, k0⟩ := u_known (C := RX0) (T := TX0) (N := 11) (n := 11) hts inX0 (hts _ u_1_184)
  obtain ⟨c1, i1, k1⟩ := u_known (C := RX1) (T := TX1) (N := 5) (n := 5) hts inX1 (hts _ u_2_64)
  obtain ⟨c2, i2, k2⟩ := u_known (C := RX2) (T := TX2) (N := 10) (n := 10) hts inX2 (hts _ u_1_123)
  obtain ⟨c3, i3, k3⟩ := u_known (C := RX3) (T := TX3) (N := 10) (n := 10) hts inX3 (hts _ u_2_3)
  obtain ⟨c4, i4, k4⟩ := u_known (C := RX4) (T := TX4) (N := 3) (n := 3) hts inX4 (hts _ u_1_52)
  obtain ⟨c5, i5, k5⟩ := u_known (C := RX5) (T := TX5) (N := 2) (n := 2) hts inX5 (hts _ u_2_50)
  obtain ⟨c6, i6, k6⟩ := u_known (C := RX6) (T := TX6) (N := 10) (n := 10) hts inX6 (hts _ u_2_103)
  obtain ⟨c7, i7, k7⟩ := u_known (C := RX7) (T := TX7) (N := 16) (n := 16) hts inX7 (hts _ u_1_46)
  obtain ⟨c8, i8, k8⟩ := u_known (C := RX8) (T := TX8) (N := 3) (n := 3) hts inX8 (hts _ u_2_87)
  obtain ⟨c9, i9, k9⟩ := u_known (C := RX9) (T := TX9) (N := 2) (n := 2) hts inX9 (hts _ u_1_30)
  obtain ⟨c10, i10, k10⟩ := u_known (C := RX10) (T := TX10) (N := 4) (n := 4) hts inX10 (hts _ u_1_129)
  obtain ⟨c11, i11, k11⟩ := u_known (C := RX11) (T := TX11) (N := 10) (n := 10) hts inX11 (hts _ u_1_22)
  obtain ⟨c12, i12, k12⟩ := u_known (C := RX12) (T := TX12) (N := 71) (n := 71) hts inX12 (hts _ u_5_69)
  obtain ⟨abyte, bbyte, rbyte⟩ := arr_of (ty := .byte) (fun C h => by cases h) (hts _ u_1_44)
  obtain ⟨aint, bint, rint⟩ := arr_of (ty := .int) (fun C h => by cases h) (hts _ u_1_67)
  obtain ⟨along, blong, rlong⟩ := arr_of (ty := .long) (fun C h => by cases h) (hts _ u_1_68)
  obtain ⟨aboolean, bboolean, rboolean⟩ := arr_of (ty := .boolean) (fun C h => by cases h) (hts _ u_2_62)
  refine ⟨fun k => [c0, c1, c2, c3, c4, c5, c6, c7, c8, c9, c10, c11, c12].getD k c0, fun k => [i0, i1, i2, i3, i4, i5, i6, i7, i8, i9, i10, i11, i12].getD k i0, (abyte, aint, along, aboolean), fun q => ⟨?_, ?_⟩⟩
  · intro k q hq
    match k, hq with
    | 0, hq => cases hq; exact k0
    | 1, hq => cases hq; exact k1
    | 2, hq => cases hq; exact k2
    | 3, hq => cases hq; exact k3
    | 4, hq => cases hq; exact k4
    | 5, hq => cases hq; exact k5
    | 6, hq => cases hq; exact k6
    | 7, hq => cases hq; exact k7
    | 8, hq => cases hq; exact k8
    | 9, hq => cases hq; exact k9
    | 10, hq => cases hq; exact k10
    | 11, hq => cases hq; exact k11
    | 12, hq => cases hq; exact k12
    | k + 13, hq => simp [vwCl] at hq
  · intro k q hq
    match k, hq with
    | 0, hq => cases hq; exact ⟨bbyte, rbyte⟩
    | 1, hq => cases hq; exact ⟨bint, rint⟩
    | 2, hq => cases hq; exact ⟨blong, rlong⟩
    | 3, hq => cases hq; exact ⟨bboolean, rboolean⟩
    | k + 4, hq => simp [tyA] at hq
def tmS (i : Nat) : Term := if i = 0 then .string "SaidRecord$Tokens" 73 else .string "SaidRecord$Tokens" 79
theorem law_strings {b : Nat} {s : State} (hts : ∀ w ∈ lw_tbl, w.before #[Value.ref b] s = true) (hg : (Jvm.Cond.and given_1 narrow_1).before #[Value.ref b] s = true) : ∃ adK adV : Nat → Nat, ∀ q : Nat → Nat, (∀ i, i < 2 → q (100 + i) = adK i) → (∀ i, i < 2 → q (110 + i) = adV i) → ∀ ids, ekX (q, ids) (fun q : Nat => s.heap.size ≤ q) s s.heap := by
  have hf := flat_of_before _ hg
  have hA : ∀ a : Nat, a < s.heap.size → ¬ (fun q : Nat => s.heap.size ≤ q) a := fun a h q => absurd h (Nat.not_lt.mpr q)
  have h1 : ∀ i : Nat, i < 2 → (Cond.exactly (tmS i) "java/lang/String").before #[Value.ref b] s = true := fun i hi => co_2 (P := fun i => (Cond.exactly (tmS i) "java/lang/String").before #[Value.ref b] s = true) (hf _ (by decide +kernel)) (hf _ (by decide +kernel)) hi
  have h2 : ∀ i : Nat, i < 2 → (Cond.eq (.field (tmS i) "java/lang/String" "coder" "B") (.int 0)).before #[Value.ref b] s = true := fun i hi => co_2 (P := fun i => (Cond.eq (.field (tmS i) "java/lang/String" "coder" "B") (.int 0)).before #[Value.ref b] s = true) (hf _ (by decide +kernel)) (hf _ (by decide +kernel)) hi
  have h3 : ∀ i : Nat, i < 2 → (Cond.arrayOf (.field (tmS i) "java/lang/String" "value" "[B") .byte).before #[Value.ref b] s = true := fun i hi => co_2 (P := fun i => (Cond.arrayOf (.field (tmS i) "java/lang/String" "value" "[B") .byte).before #[Value.ref b] s = true) (hf _ (by decide +kernel)) (hf _ (by decide +kernel)) hi
  have h4 : ∀ i : Nat, i < 2 → (Cond.eq (.length (.field (tmS i) "java/lang/String" "value" "[B")) (.int (Int32.ofNat (lenS.getD i 0)))).before #[Value.ref b] s = true := fun i hi => co_2 (P := fun i => (Cond.eq (.length (.field (tmS i) "java/lang/String" "value" "[B")) (.int (Int32.ofNat (lenS.getD i 0)))).before #[Value.ref b] s = true) (hf _ (by decide +kernel)) (hf _ (by decide +kernel)) hi
  have h5 : ∀ i : Nat, i < 2 → ∀ j : Nat, j < lenS.getD i 0 → (Cond.eq (.elem (.field (tmS i) "java/lang/String" "value" "[B") (.int (Int32.ofNat j))) (.int ((bytS.getD i []).getD j 0))).before #[Value.ref b] s = true := by
    intro i hi j hj
    refine hf _ ?_
    have hall : ∀ i, i < 2 → ∀ j, j < lenS.getD i 0 → Cond.eq (.elem (.field (tmS i) "java/lang/String" "value" "[B") (.int (Int32.ofNat j))) (.int ((bytS.getD i []).getD j 0)) ∈ flatC (Jvm.Cond.and given_1 narrow_1) := by decide +kernel
    exact hall i hi j hj
  have h6 : ∀ i j : Nat, i < 2 → j < 2 → i ≠ j → (Cond.not (Cond.eq (tmS i) (tmS j))).before #[Value.ref b] s = true ∨ (Cond.not (Cond.eq (tmS j) (tmS i))).before #[Value.ref b] s = true := by
    intro i j hi hj hij
    rcases (show i = 0 ∨ i = 1 by omega) with rfl | rfl
    · rcases (show j = 1 by omega) with rfl
      exact Or.inl (hf _ (by decide +kernel))
    · rcases (show j = 0 by omega) with rfl
      exact Or.inr (hf _ (by decide +kernel))
  obtain ⟨adK, adV, hS, hK⟩ := vk_Sof (args := #[Value.ref b]) (s := s) (N := 2) (tm := tmS) (len := lenS) (byt := bytS) (A := (fun q : Nat => s.heap.size ≤ q)) (by decide) h1 h2 h3 h4 h5 h6 hA
  refine ⟨adK, adV, fun q hq1 hq2 ids => ⟨?_, ?_, ?_, ?_, ?_, ?_⟩⟩
  · exact va_Nw.of rfl (hts _ (List.mem_append_right _ (List.mem_append_right _ (List.mem_append_right _ (List.mem_append_right _ (List.mem_append_right _ (List.mem_append_left _ (List.mem_of_getElem? (i := 47) rfl))))))))
  · refine ⟨fun i hi => ?_, fun i j hi hj e => hS.2 i j hi hj (by rw [← hq1 i hi, ← hq1 j hj]; exact e)⟩
    have h := hS.1 i hi
    rw [← hq1 i hi, ← hq2 i hi] at h
    exact h
  · exact vk_R.of (A := #[Value.ref b]) (hts _ (List.mem_append_right _ (List.mem_append_right _ (List.mem_append_left _ (List.mem_of_getElem? (i := 232) rfl))))) (by
      have h := hK 0 (by decide)
      show (Term.string "SaidRecord$Tokens" 73).eval #[Value.ref b] s none [] s = some (.ref (q (100 + 0)))
      rw [hq1 0 (by decide)]
      exact h)
  · exact vk_R.of (A := #[Value.ref b]) (hts _ (List.mem_append_right _ (List.mem_append_right _ (List.mem_append_right _ (List.mem_append_left _ (List.mem_of_getElem? (i := 44) rfl)))))) (by
      have h := hK 1 (by decide)
      show (Term.string "SaidRecord$Tokens" 79).eval #[Value.ref b] s none [] s = some (.ref (q (100 + 1)))
      rw [hq1 1 (by decide)]
      exact h)
  · exact va_Zof (hts _ (List.mem_append_right _ (List.mem_append_right _ (List.mem_append_right _ (List.mem_append_left _ (List.mem_of_getElem? (i := 5) rfl)))))) (hts _ (List.mem_append_right _ (List.mem_append_left _ (List.mem_of_getElem? (i := 14) rfl)))) (va_eqi (hf _ (by decide +kernel))) hA
  · exact va_Zqof (hts _ (List.mem_append_right _ (List.mem_append_right _ (List.mem_append_right _ (List.mem_append_left _ (List.mem_of_getElem? (i := 21) rfl)))))) (hts _ (List.mem_append_right _ (List.mem_append_left _ (List.mem_of_getElem? (i := 16) rfl)))) (hf _ (by decide +kernel)) hA
set_option maxHeartbeats 8000000 in
set_option maxRecDepth 100000 in
theorem whole_start {p : Program} {e : Env} {s : State} {m : MethodId} {below : List Frame} {meth : Method} {c : Code} (l : Launch) {b L : Nat} {xs : Nat → Int32} (hL : L ≤ 3584) (C0 : lw_At p s m meth c b L xs) : W p l e room_1 s m #[Value.ref b] below meth c s.heap [] 0 0 (lw_Z below #[Value.ref b] s) (entryFrame m ([Value.ref b] : List Value).toArray 4) := by
  obtain ⟨hx, hb, hr, hml, hown, hts, hX, hbl, hlocks, hgv⟩ := id C0
  have hU := un_sub hts
  have hA : ∀ q : Nat, s.heap.size ≤ q → (fun q : Nat => s.heap.size ≤ q) q := fun _ h => h
  have hbA : ¬ (fun q : Nat => s.heap.size ≤ q) b := Nat.not_le.mpr hbl
  obtain ⟨dC, dI, ids, hKq⟩ := law_K hU
  obtain ⟨adK, adV, hst⟩ := law_strings hts hgv
  have hl := lv_entry ([.ref b]) (n := 4) (Nat.le_of_ble_eq_true rfl)
  rw [lg_entry_eq]
  generalize hz : ((p, l, e, room_1, s, m, #[Value.ref b], below, meth, c, (dC, dI), (fun q : Nat => s.heap.size ≤ q), 4, lw_Z below #[Value.ref b] s, 0, 0) : ZT) = z
  have hEC : ekC (fun q : Nat => s.heap.size ≤ q) s s.heap := ⟨va_Nw.of rfl (hts _ (List.mem_append_right _ (List.mem_append_left _ (List.mem_of_getElem? (i := 31) rfl)))), va_Nw.of rfl (hts _ (List.mem_append_right _ (List.mem_append_left _ (List.mem_of_getElem? (i := 47) rfl)))), va_Nw.of rfl (hts _ (List.mem_append_right _ (List.mem_append_left _ (List.mem_of_getElem? (i := 185) rfl)))), va_Nw.of rfl (hts _ (List.mem_append_right _ (List.mem_append_right _ (List.mem_append_left _ (List.mem_of_getElem? (i := 88) rfl))))), va_Nw.of rfl (hts _ (List.mem_append_right _ (List.mem_append_left _ (List.mem_of_getElem? (i := 130) rfl)))), va_Nw.of rfl (hts _ (List.mem_append_right _ (List.mem_append_left _ (List.mem_of_getElem? (i := 53) rfl))))⟩
  have hC : ∀ a b1, a ≤ 600000 → b1 ≤ 7302250 → CX (zset z a b1) (fun _ => 0, ids) ekC cL_law RL l (dC, dI) 60 4 := by
    intro a b1 h1 h2
    subst hz
    exact ⟨hx, hb, hU, hown, hKq _, hA, hml, rfl, ⟨by decide, by decide, h1, h2⟩, rfl, rfl, ekC_ok, hEC⟩
  have hZ : ∀ a b1, ZL (zset z a b1) b L xs := by
    intro a b1
    subst hz
    exact ⟨hX, hbl, hbA⟩
  have key : XW (zset z 0 0) idw 0 [(0, .ref b)] [] [] := by
    refine x_no (ci := 11) (fs := [.null, .null, .null, .null, .null, .null, .null, .null, .null, .int 0]) (hC 0 0 (by decide) (by decide)) inX11 tyX11 tyX11_ok u_1_21 u_1_22 u_1_1 rfl dfX11 (hC 1 10 (by decide) (by decide)) dL_law_0 (fun x0 => ?_)
    refine x_dup (hC 1 10 (by decide) (by decide)) dL_law_3 rfl ?_
    refine x_ctor (pre := []) (hC 1 10 (by decide) (by decide)) (c_X11_init x0) rfl u_1_25 u_1_23 u_1_24 u_1_1 rfl ⟨by decide, by decide, by decide +kernel⟩ (by decide) (by decide) (Nat.le_of_ble_eq_true rfl) rfl (hC 51 10860 (by decide) (by decide)) dL_law_4 (fun u hu => ?_)
    obtain ⟨x1, x12, x2, x13, x14, x15, x16, x17, x18, x19, x20, x21, x22, x23, x24, x10, x47, x3, x11, x48, x49, x50, x25, x4, x26, x27, x28, x29, x30, x31, x32, x33, x34, x35, x5, x36, x7, x38, x6, x37, x8, x39, x40, x41, x9, x42, x43, x44, x45, x46, rfl⟩ := hu
    refine x_ws (ws' := [(x0, .inr (11, [.ref x1, .ref x2, .ref x3, .ref x4, .ref x5, .ref x6, .ref x7, .ref x8, .ref x9, .int (-1)])), (x1, .inr (9, [.ref x12, .int 0])), (x12, .inl (ids.1, 2000, .inl (fun _ => 0))), (x2, .inr (7, [.ref x13, .ref x14, .ref x15, .ref x16, .ref x17, .ref x18, .ref x19, .ref x20, .ref x21, .ref x22, .ref x23, .ref x24, .ref x10, .int 0, .int 0, .int 0])), (x13, .inl (ids.2.1, 2400, .inl (fun _ => 0))), (x14, .inl (ids.2.1, 144, .inl (fun _ => 0))), (x15, .inl (ids.2.2.1, 144, .inr (.inl (fun _ => 0)))), (x16, .inl (ids.2.1, 144, .inl (fun _ => 0))), (x17, .inl (ids.2.1, 144, .inl (fun _ => 0))), (x18, .inl (ids.2.1, 144, .inl (fun _ => 0))), (x19, .inl (ids.2.1, 144, .inl (fun _ => 0))), (x20, .inl (ids.2.1, 144, .inl (fun _ => 0))), (x21, .inl (ids.2.1, 6, .inl (fun _ => 0))), (x22, .inl (ids.2.1, 6, .inl (fun _ => 0))), (x23, .inl (ids.2.1, 1008, .inl (fun _ => 0))), (x24, .inl (ids.2.1, 7, .inl (fun _ => 0))), (x10, .inr (4, [.ref x47, .int 0, .int 0])), (x47, .inl (ids.2.1, 32, .inl (fun _ => 0))), (x3, .inr (2, [.ref x2, .ref x11, .ref x25, .int 0, .int 0, .int 0, .int 0, .long 0, .int 0, .int (-1)])), (x11, .inr (10, [.ref x48, .ref x49, .ref x50, .int 0])), (x48, .inl (ids.2.1, 401, .inl (fun _ => 0))), (x49, .inl (ids.2.1, 401, .inl (fun _ => 0))), (x50, .inl (ids.2.2.1, 401, .inr (.inl (fun _ => 0)))), (x25, .inl (ids.2.1, 32, .inl (fun _ => 0))), (x4, .inr (0, [.ref x26, .ref x27, .ref x28, .ref x29, .ref x30, .ref x31, .ref x32, .ref x33, .ref x34, .ref x35, .int 0])), (x26, .inl (ids.2.1, 180, .inl (fun _ => 0))), (x27, .inl (ids.2.1, 180, .inl (fun _ => 0))), (x28, .inl (ids.2.1, 180, .inl (fun _ => 0))), (x29, .inl (ids.2.1, 180, .inl (fun _ => 0))), (x30, .inl (ids.2.1, 180, .inl (fun _ => 0))), (x31, .inl (ids.2.1, 180, .inl (fun _ => 0))), (x32, .inl (ids.2.1, 180, .inl (fun _ => 0))), (x33, .inl (ids.2.1, 180, .inl (fun _ => 0))), (x34, .inl (ids.2.1, 180, .inl (fun _ => 0))), (x35, .inl (ids.2.1, 180, .inl (fun _ => 0))), (x5, .inr (3, [.ref x4, .ref x2, .ref x36, .int 0, .int 0, .int 0, .int 0, .int 0, .int 0, .int 0])), (x36, .inl (ids.2.1, 12, .inl (fun _ => 0))), (x7, .inr (5, [.ref x4, .ref x38])), (x38, .inl (ids.2.2.2, 1000, .inl (fun _ => 0))), (x6, .inr (1, [.ref x4, .ref x5, .ref x7, .ref x37, .int 0])), (x37, .inl (ids.2.1, 180, .inl (fun _ => 0))), (x8, .inr (8, [.ref x39, .ref x40, .ref x41])), (x39, .inl (ids.2.1, 36, .inl (fun _ => 0))), (x40, .inl (ids.2.1, 3, .inl (fun _ => 0))), (x41, .inl (ids.2.1, 13, .inl (fun _ => 0))), (x9, .inr (6, [.ref x42, .ref x43, .ref x44, .ref x45, .ref x46, .int 0, .int 0, .int 0, .int 0, .int 0])), (x42, .inl (ids.2.1, 4, .inl (upd (upd (upd (upd (fun _ => 0) 0 1) 1 1) 2 1) 3 1))), (x43, .inl (ids.2.1, 4, .inl (fun _ => 0))), (x44, .inl (ids.2.1, 4, .inl (fun _ => 0))), (x45, .inl (ids.2.1, 8, .inl (fun _ => 0))), (x46, .inl (ids.2.1, 8, .inl (fun _ => 0)))]) rfl ?_
    refine x_astore_n (hC 51 10860 (by decide) (by decide)) dL_law_7 rfl (by decide) rfl ?_
    refine x_no (ci := 12) (fs := [.int 0, .null, .int 0, .null, .int 0, .null, .null, .null, .null, .null, .int 0, .int 0, .int 0, .int 0, .int 0, .int 0, .int 0, .int 0, .int 0, .null, .null, .null, .null, .null, .null, .null, .null, .int 0, .null, .null, .null, .null, .null, .null, .int 0, .null, .null, .null, .int 0, .null, .null, .int 0, .int 0, .int 0, .null, .int 0, .null, .null, .null, .null, .null, .null, .null, .null, .int 0, .int 0, .int 0, .int 0, .int 0, .null, .int 0, .int 0, .null, .null, .null, .null, .null, .null, .null, .int 0, .null]) (hC 51 10860 (by decide) (by decide)) inX12 tyX12 tyX12_ok u_5_68 u_5_69 u_1_13 rfl dfX12 (hC 52 10931 (by decide) (by decide)) dL_law_8 (fun y0 => ?_)
    refine x_dup (hC 52 10931 (by decide) (by decide)) dL_law_11 rfl ?_
    refine x_ctor (pre := [(x0, .inr (11, [.ref x1, .ref x2, .ref x3, .ref x4, .ref x5, .ref x6, .ref x7, .ref x8, .ref x9, .int (-1)])), (x1, .inr (9, [.ref x12, .int 0])), (x12, .inl (ids.1, 2000, .inl (fun _ => 0))), (x2, .inr (7, [.ref x13, .ref x14, .ref x15, .ref x16, .ref x17, .ref x18, .ref x19, .ref x20, .ref x21, .ref x22, .ref x23, .ref x24, .ref x10, .int 0, .int 0, .int 0])), (x13, .inl (ids.2.1, 2400, .inl (fun _ => 0))), (x14, .inl (ids.2.1, 144, .inl (fun _ => 0))), (x15, .inl (ids.2.2.1, 144, .inr (.inl (fun _ => 0)))), (x16, .inl (ids.2.1, 144, .inl (fun _ => 0))), (x17, .inl (ids.2.1, 144, .inl (fun _ => 0))), (x18, .inl (ids.2.1, 144, .inl (fun _ => 0))), (x19, .inl (ids.2.1, 144, .inl (fun _ => 0))), (x20, .inl (ids.2.1, 144, .inl (fun _ => 0))), (x21, .inl (ids.2.1, 6, .inl (fun _ => 0))), (x22, .inl (ids.2.1, 6, .inl (fun _ => 0))), (x23, .inl (ids.2.1, 1008, .inl (fun _ => 0))), (x24, .inl (ids.2.1, 7, .inl (fun _ => 0))), (x10, .inr (4, [.ref x47, .int 0, .int 0])), (x47, .inl (ids.2.1, 32, .inl (fun _ => 0))), (x3, .inr (2, [.ref x2, .ref x11, .ref x25, .int 0, .int 0, .int 0, .int 0, .long 0, .int 0, .int (-1)])), (x11, .inr (10, [.ref x48, .ref x49, .ref x50, .int 0])), (x48, .inl (ids.2.1, 401, .inl (fun _ => 0))), (x49, .inl (ids.2.1, 401, .inl (fun _ => 0))), (x50, .inl (ids.2.2.1, 401, .inr (.inl (fun _ => 0)))), (x25, .inl (ids.2.1, 32, .inl (fun _ => 0))), (x4, .inr (0, [.ref x26, .ref x27, .ref x28, .ref x29, .ref x30, .ref x31, .ref x32, .ref x33, .ref x34, .ref x35, .int 0])), (x26, .inl (ids.2.1, 180, .inl (fun _ => 0))), (x27, .inl (ids.2.1, 180, .inl (fun _ => 0))), (x28, .inl (ids.2.1, 180, .inl (fun _ => 0))), (x29, .inl (ids.2.1, 180, .inl (fun _ => 0))), (x30, .inl (ids.2.1, 180, .inl (fun _ => 0))), (x31, .inl (ids.2.1, 180, .inl (fun _ => 0))), (x32, .inl (ids.2.1, 180, .inl (fun _ => 0))), (x33, .inl (ids.2.1, 180, .inl (fun _ => 0))), (x34, .inl (ids.2.1, 180, .inl (fun _ => 0))), (x35, .inl (ids.2.1, 180, .inl (fun _ => 0))), (x5, .inr (3, [.ref x4, .ref x2, .ref x36, .int 0, .int 0, .int 0, .int 0, .int 0, .int 0, .int 0])), (x36, .inl (ids.2.1, 12, .inl (fun _ => 0))), (x7, .inr (5, [.ref x4, .ref x38])), (x38, .inl (ids.2.2.2, 1000, .inl (fun _ => 0))), (x6, .inr (1, [.ref x4, .ref x5, .ref x7, .ref x37, .int 0])), (x37, .inl (ids.2.1, 180, .inl (fun _ => 0))), (x8, .inr (8, [.ref x39, .ref x40, .ref x41])), (x39, .inl (ids.2.1, 36, .inl (fun _ => 0))), (x40, .inl (ids.2.1, 3, .inl (fun _ => 0))), (x41, .inl (ids.2.1, 13, .inl (fun _ => 0))), (x9, .inr (6, [.ref x42, .ref x43, .ref x44, .ref x45, .ref x46, .int 0, .int 0, .int 0, .int 0, .int 0])), (x42, .inl (ids.2.1, 4, .inl (upd (upd (upd (upd (fun _ => 0) 0 1) 1 1) 2 1) 3 1))), (x43, .inl (ids.2.1, 4, .inl (fun _ => 0))), (x44, .inl (ids.2.1, 4, .inl (fun _ => 0))), (x45, .inl (ids.2.1, 8, .inl (fun _ => 0))), (x46, .inl (ids.2.1, 8, .inl (fun _ => 0)))]) (hC 52 10931 (by decide) (by decide)) (c_X12_init y0) rfl u_5_72 u_5_70 u_5_71 u_1_13 rfl ⟨by decide, by decide, by decide +kernel⟩ (by decide) (by decide) (Nat.le_of_ble_eq_true rfl) rfl (hC 96 32541 (by decide) (by decide)) dL_law_12 (fun u hu => ?_)
    obtain ⟨y1, y2, y3, y4, y5, y6, y7, y8, y9, y10, y11, y12, y13, y14, y15, y16, y17, y18, y19, y20, y21, y22, y23, y24, y25, y26, y27, y28, y29, y30, y31, y32, y33, y34, y35, y36, y37, y38, y39, y40, y41, y42, y43, y44, rfl⟩ := hu
    refine x_astore_n (hC 96 32541 (by decide) (by decide)) dL_law_15 rfl (by decide) rfl (x_iconst (hC 96 32541 (by decide) (by decide)) dL_law_16 kc_0 (x_istore_n (hC 96 32541 (by decide) (by decide)) dL_law_17 rfl (by decide) rfl ?_))
    obtain ⟨ad, had⟩ : ∃ ad : AD, ad = (fun k => if k = 100 then adK 0 else if k = 101 then adK 1 else if k = 110 then adV 0 else if k = 111 then adV 1 else if k < 100 then [x0, x1, x2, x3, x4, x5, x6, x7, x8, x9, x10, x11, x12, x13, x14, x15, x16, x17, x18, x19, x20, x21, x22, x23, x24, x25, x26, x27, x28, x29, x30, x31, x32, x33, x34, x35, x36, x37, x38, x39, x40, x41, x42, x43, x44, x45, x46, x47, x48, x49, x50].getD k 0 else [y0, y1, y2, y3, y4, y5, y6, y7, y8, y9, y10, y11, y12, y13, y14, y15, y16, y17, y18, y19, y20, y21, y22, y23, y24, y25, y26, y27, y28, y29, y30, y31, y32, y33, y34, y35, y36, y37, y38, y39, y40, y41, y42, y43, y44].getD (k - 200) 0, ids) := ⟨_, rfl⟩
    have hCX : CX (zset z 96 32541) ad (ekX ad) cL_law RL l (dC, dI) 60 4 := by
      subst had
      subst hz
      refine ⟨hx, hb, hU, hown, hKq _, hA, hml, rfl, ⟨by decide, by decide, by decide, by decide⟩, rfl, rfl, ekX_ok _, ?_⟩
      refine hst _ (fun i hi => ?_) (fun i hi => ?_) ids
      · rcases (show i = 0 ∨ i = 1 by omega) with rfl | rfl <;> rfl
      · rcases (show i = 0 ∨ i = 1 by omega) with rfl | rfl <;> rfl
    have hend : ∀ (S : ST × ST) (lv : List (Nat × Value)), XW (zset z 96 32541) (wXM ad) 1577 lv [.int 1] S := by
      intro S lv
      subst hz
      intro H locs hP hD hS ls hl
      exact va_forget (fun q hq => hS.2.2 q hq) (W.widen (k := 600000) (n := 7302250) (by decide) (by decide) (lw_ret hx hb hr hlocks dL_law_1577))
    refine x_tow2 (ad := ad) (S2 := (X0, M0)) [0, 1, 3, 18, 24, 35, 39, 37, 41, 45, 16, 19, 2, 4, 5, 6, 7, 8, 9, 10, 11, 12, 13, 14, 15, 23, 25, 26, 27, 28, 29, 30, 31, 32, 33, 34, 36, 40, 38, 42, 43, 44, 46, 47, 48, 49, 50, 17, 20, 21, 22, 51, 52, 53, 54, 55, 56, 57, 58, 59, 60, 61, 62, 63, 64, 65, 66, 67, 68, 69, 70, 71, 72, 73, 74, 75, 76, 77, 78, 79, 80, 81, 82, 83, 84, 85, 86, 87, 88, 89, 90, 91, 92, 93, 94, 95] (by subst had; rfl) (by decide) (by subst had; rfl) ?_
    refine x_perm (lv' := [(0, .ref b), (1, .ref (ad.1 0)), (2, .ref ((ad2 ad).1 0)), (3, .int 0)]) [3, 2, 1, 0] (by subst had; rfl) ?_
    exact law_loop (dp := 0) hCX (hZ _ _) hL hend (L + 1) 0 0 (Nat.zero_le L) (by omega) nI_0.symm X0 M0 RR0
  subst hz
  exact key s.heap [] (fun k q h => by simp at h) ⟨fun i j p q h => by simp at h, fun k q h => by simp at h⟩ va_S.rf _ hl
set_option maxHeartbeats 4000000 in
theorem lw_walk (l : Launch) (b : Addr) (xs : List Int32) : MetFree l x (headSpec (Jvm.Cond.code x code maxLocals ret :: tables_1) room_1) (lw_P b xs) (fun _ _ _ _ _ => True) lw_Q := by
  refine MetFree.of_bodyS (code := code) (maxLocals := maxLocals) (ret := ret) (by decide) ?_ ?_
  · intro args s m h hn
    obtain ⟨meth, c, h1, h2, h3, h4, h5, h6, -, -⟩ := Cond.code_spec hn (atoms_spec (ws := Jvm.Cond.code x code maxLocals ret :: tables_1) h _ List.mem_cons_self)
    exact ⟨meth, c, h1, h2, h3, h4, h5, h6⟩
  · intro p e s m args below meth c s₁ B hml0 hP _
    obtain ⟨rfl, hx, hbd, hgv⟩ := hP
    obtain ⟨scr, harrAt, hlist, hof, hsmall⟩ := hx
    obtain ⟨hcb, hkn, -, -⟩ := State.arrayAt?_spec harrAt
    have hown : s.vm.findClass R_law = some m.cls := findClass_of_methodNamed B.named
    have hts0 : ∀ c ∈ (Jvm.Cond.code x code maxLocals ret :: tables_1), c.before #[Value.ref b] s = true := atoms_spec (ws := Jvm.Cond.code x code maxLocals ret :: tables_1) B.pre
    have hts : ∀ w ∈ lw_tbl, w.before #[Value.ref b] s = true := k2_hts_sels lw_privs (fun w hw => hts0 w (List.mem_cons_of_mem _ hw)) lw_privs_ok
    have hml : c.maxLocals = 4 := B.maxLocals_eq (hts0 _ List.mem_cons_self)
    have X₀ : Stand p l e room_1 s m #[Value.ref b] below meth c s₁ [] 0 0 := Stand.of_body B
    have hh0 : s₁.heap = s.heap := by rw [B.state]; rfl
    have hsz : scr.slots.size = xs.length := by rw [← Array.length_toList, hlist, List.length_map]
    have hval : ∀ j : Nat, j < xs.length → scr.slots[j]? = some (.int (xs.getD j 0)) := fun j hj => by
      rw [← Array.getElem?_toList, hlist]
      simp [hj]
    have hbl : b < s.heap.size := (Array.getElem?_eq_some_iff.mp hcb).1
    have hX : va_X b xs.length (fun j => xs.getD j 0) s s.heap := ⟨scr, hcb, hof, hkn, hsz, hval⟩
    have K : W p l e room_1 s m #[Value.ref b] below meth c s₁.heap [] 0 0 (lw_Z below #[Value.ref b] s) (entryFrame m ([Value.ref b] : List Value).toArray 4) := by
      rw [hh0]
      exact whole_start l hbd ⟨B.exec, B.bytes, B.returns, hml, hown, hts, hX, hbl, B.notSynchronized, hgv⟩
    obtain ⟨t, a1, o, b1, b2, b3⟩ := K s₁ rfl X₀
    exact ⟨t, o, a1, b1, b2, b3⟩
theorem lw_pre_spec {args : Array Value} {s : State} (h : (Jvm.Cond.and given_1 narrow_1).before args s = true) (hr : rest_1_c.before args s = true) : ∃ (b : Addr) (xs : List Int32), lw_P b xs args s := by
  have hs := flat_of_before _ h
  have hq := flat_of_before _ hr
  have hc : (Cond.count 1).before args s = true := hs _ (by decide +kernel)
  have harr : (Cond.arrayOf (.arg 0) .int).before args s = true := hs _ (by decide +kernel)
  have hle : (Cond.le (.length (.arg 0)) (.int 3584)).before args s = true := hs _ (by decide +kernel)
  have hlen : (Cond.isInt (.length (.arg 0))).before args s = true := hq _ (by decide +kernel)
  have hall : (Cond.all (.arg 0) (.isInt (.elem (.arg 0) (.index 0)))).before args s = true := hq _ (by decide +kernel)
  obtain ⟨b, xs, hb, hx⟩ := State.ints_of_pre rfl harr hlen hall
  have hsm : xs.length < 2 ^ 31 := hx.choose_spec.2.2.2
  have hev : (Term.length (.arg 0)).eval args s none [] s = some (.int xs.length.toInt32) := hx.length_eval hb
  have hv := Cond.le_ints hev (show (Term.int 3584).eval args s none [] s = some (.int 3584) from rfl)
  have hd : xs.length.toInt32 ≤ 3584 := by
    simpa [Cond.before, Cond.holds, hv] using hle
  have hN : xs.length ≤ 3584 := (Int32.ofNat_le_ofNat hsm (by decide)).mp (show Int32.ofNat xs.length ≤ Int32.ofNat 3584 from hd)
  exact ⟨b, xs, Cond.one_arg hc (show args[0]? = some (.ref b) from hb), hx, hN, h⟩
theorem lw_comes (l : Launch) : Comes l x (Jvm.Cond.code x code maxLocals ret :: tables_1) room_1 (fun tb e args s => Calls_1 tb e args s ∧ rest_1 tb e args s ∧ Pre_1 tb e args s)
    (fun _ _ args s o t => lw_Q args s o t) := by
  intro p e ha hc hk s m args below hf hfit hheap happ hpre
  obtain ⟨b, xs, hP⟩ := lw_pre_spec hpre.2.2 hpre.2.1
  obtain ⟨k, o, h1, h2, h3, hQ⟩ := lw_walk l b xs p e ha hc hk s m args below hf ((Spec.applies_iff_loose hf).mp happ).1 hP trivial
  exact ⟨k, o, h1, h2, h3, hQ⟩
theorem lw_frame {s t : State} {o : Outcome} {args : Array Value} (h : Framed s o t [] 600000 7302250) :
    Framed s o t (fieldLocs frame_1_writes args s ++ arrayLocs frame_1_arrays args s ++ staticLocs frame_1_statics s) 600000 7302250 := h
theorem lw_limb (L : Cond) (hL : ∀ (args : Array Value) (s t : State), L.after args s (.returned (some (.int 1))) t = true) :
    ArmFor flags0 classFile x code maxLocals ret World_1 tables_1 room_1 Calls_1 rest_1 Pre_1
      (fun tb e a s o t => postC L tb e a s o t ∧ Framed s o t (fieldLocs frame_1_writes a s ++ arrayLocs frame_1_arrays a s ++ staticLocs frame_1_statics s) 600000 7302250) := by
  intro l _ _ _ p e ha hc hk s m args below hf hfit hheap happ hpre
  obtain ⟨k, o, h1, h2, h3, rfl, hF⟩ := lw_comes l p e ha hc hk s m args below hf hfit hheap happ hpre
  exact ⟨k, _, h1, h2, h3, hL args s _, lw_frame hF⟩
theorem i_vc : Claimed_1_1 ∧ Claimed_1_2 := ⟨lw_limb limb_1_1 (fun args s t => by simp [limb_1_1, Cond.after, Cond.holds, Cond.value]), lw_limb limb_1_2 (fun args s t => Cond.after_iff.mpr (by
  first | (rw [show limb_1_2 = Cond.eq .result (.int 1) from rfl, Cond.eq_ints (x := 1) (y := 1) rfl rfl]; simp; done) | (simp [limb_1_2, Cond.value, Term.eval]; done)))⟩

