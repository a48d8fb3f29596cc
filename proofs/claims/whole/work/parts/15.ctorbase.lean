abbrev idw : va_W → va_W := fun w => w
def zset (z : ZT) (a b : Nat) : ZT := match z with
  | (p, l, e, R, s, m, args, below, meth, c, D, A, nL0, Q, _, _) => (p, l, e, R, s, m, args, below, meth, c, D, A, nL0, Q, a, b)
def ZI (z : ZT) : Prop := match z with
  | (p, l, e, R, s, m, args, below, meth, c, D, A, nL0, Q, _, _) => meth.name = "<init>"
def ekC : EK := fun A U H => va_Nw (.methodLinkNest "SaidRecord" 9 yX9_init "SaidRecord") U ∧ va_Nw (.methodLinkNest "SaidRecord" 18 yX7_init "SaidRecord") U ∧ va_Nw (.methodLinkNest "SaidRecord" 34 yX0_init "SaidRecord") U ∧ va_Nw (.methodLinkNest "SaidRecord" 68 yX8_init "SaidRecord") U ∧ va_Nw (.methodLinkNest "SaidRecord$Parser" 11 yX10_init "SaidRecord") U ∧ va_Nw (.methodLinkNest "SaidRecord$RuleBook" 51 yX4_init "SaidRecord") U
theorem ekC_ok : EKok ekC := by
  refine ⟨fun A U H H1 h hq => h, fun A B U H h hAB => h, fun A s U H hW h => ?_, fun A U U' H hv h => ?_⟩
  · exact ⟨(h.1).warmM hW, (h.2.1).warmM hW, (h.2.2.1).warmM hW, (h.2.2.2.1).warmM hW, (h.2.2.2.2.1).warmM hW, (h.2.2.2.2.2).warmM hW⟩
  · exact ⟨va_Nw.same rfl hv.symm (h.1), va_Nw.same rfl hv.symm (h.2.1), va_Nw.same rfl hv.symm (h.2.2.1), va_Nw.same rfl hv.symm (h.2.2.2.1), va_Nw.same rfl hv.symm (h.2.2.2.2.1), va_Nw.same rfl hv.symm (h.2.2.2.2.2)⟩
theorem P_left {D : va_G} {cl : List vw_C} {a b : va_W} {H : Heap} (h : va_P D cl (a ++ b) H) : va_P D cl a H := fun k q hk => h k q (by rw [List.getElem?_append_left (List.getElem?_eq_some_iff.mp hk).1]; exact hk)
theorem P_right {D : va_G} {cl : List vw_C} {a b : va_W} {H : Heap} (h : va_P D cl (a ++ b) H) : va_P D cl b H := fun k q hk => h (a.length + k) q (by rw [List.getElem?_append_right (Nat.le_add_right _ _), Nat.add_sub_cancel_left]; exact hk)
theorem D_left {A : Nat → Prop} {a b : va_W} (h : va_D A (a ++ b)) : va_D A a := ⟨fun i j p q hi hj e => h.1 i j p q (by rw [List.getElem?_append_left (List.getElem?_eq_some_iff.mp hi).1]; exact hi) (by rw [List.getElem?_append_left (List.getElem?_eq_some_iff.mp hj).1]; exact hj) e, fun k q hk => h.2 k q (by rw [List.getElem?_append_left (List.getElem?_eq_some_iff.mp hk).1]; exact hk)⟩
theorem D_right {A : Nat → Prop} {a b : va_W} (h : va_D A (a ++ b)) : va_D A b := ⟨fun i j p q hi hj e => by
  have h1 := h.1 (a.length + i) (a.length + j) p q (by rw [List.getElem?_append_right (Nat.le_add_right _ _), Nat.add_sub_cancel_left]; exact hi) (by rw [List.getElem?_append_right (Nat.le_add_right _ _), Nat.add_sub_cancel_left]; exact hj) e
  omega, fun k q hk => h.2 (a.length + k) q (by rw [List.getElem?_append_right (Nat.le_add_right _ _), Nat.add_sub_cancel_left]; exact hk)⟩
theorem D_apart {A : Nat → Prop} {a b : va_W} (h : va_D A (a ++ b)) (i j : Nat) (p q : Nat × va_E) (hi : a[i]? = some p) (hj : b[j]? = some q) : p.1 ≠ q.1 := by
  intro e
  have hl := (List.getElem?_eq_some_iff.mp hi).1
  have h1 := h.1 i (a.length + j) p q (by rw [List.getElem?_append_left hl]; exact hi) (by rw [List.getElem?_append_right (Nat.le_add_right _ _), Nat.add_sub_cancel_left]; exact hj) e
  omega
/-- behind a call on the cells b, the cells a beside them are as they were -/
theorem frame_l {D : va_G} {cl : List vw_C} {A : Nat → Prop} {a b b' : va_W} {H H1 : Heap} (hP : va_P D cl (a ++ b) H) (hD : va_D A (a ++ b)) (hk : ∀ q : Nat, q < H.size → ¬ va_A b H.size q → H1[q]? = H[q]?) (hP1 : va_P D cl b' H1) (hD1 : va_D (va_A b H.size) b') (hF : ∀ q, va_A b H.size q → A q) : va_P D cl (a ++ b') H1 ∧ va_D A (a ++ b') := by
  have hap : ∀ (i : Nat) (p : Nat × va_E), a[i]? = some p → ¬ va_A b H.size p.1 := by
    intro i p hi q
    rcases q with ⟨k, e, hk⟩ | q
    · exact D_apart hD i k p (p.1, e) hi hk rfl
    · exact absurd ((P_left hP) i p hi).lt (Nat.not_lt.mpr q)
  refine ⟨((P_left hP).kept fun i p hi => hk p.1 ((P_left hP) i p hi).lt (hap i p hi)).app hP1, (D_left hD).app (hD1.weaken fun _ _ _ h => hF _ h) fun i j p q hi hj e => hap i p hi ?_⟩
  rw [e]
  exact hD1.2 j q hj
theorem frame_r {D : va_G} {cl : List vw_C} {A : Nat → Prop} {a a' b : va_W} {H H1 : Heap} (hP : va_P D cl (a ++ b) H) (hD : va_D A (a ++ b)) (hk : ∀ q : Nat, q < H.size → ¬ va_A a H.size q → H1[q]? = H[q]?) (hP1 : va_P D cl a' H1) (hD1 : va_D (va_A a H.size) a') (hF : ∀ q, va_A a H.size q → A q) : va_P D cl (a' ++ b) H1 ∧ va_D A (a' ++ b) := by
  have hap : ∀ (i : Nat) (p : Nat × va_E), b[i]? = some p → ¬ va_A a H.size p.1 := by
    intro i p hi q
    rcases q with ⟨k, e, hk⟩ | q
    · exact D_apart hD k i (p.1, e) p hk hi rfl
    · exact absurd ((P_right hP) i p hi).lt (Nat.not_lt.mpr q)
  refine ⟨hP1.app ((P_right hP).kept fun i p hi => hk p.1 ((P_right hP) i p hi).lt (hap i p hi)), (hD1.weaken fun _ _ _ h => hF _ h).app (D_right hD) fun i j p q hi hj e => hap j q hj ?_⟩
  rw [← e]
  exact hD1.2 i p hi
def rmC (d mc ms : Nat) : Room := { frames := d, cells := mc, slots := ms, locals := 40 * d }
def MXc (l : Launch) (D : va_G) (ad : AD) (ek : EK) (y : MethodName) (cc : ByteArray) (maxL d : Nat) (av : List Value) (ws0 : va_W) (P : va_W → Prop) (mc ms : Nat) : Prop :=
  EKok ek → ∀ sz, Met l y (Cond.code y cc maxL none :: UN) (rmC d mc ms) (MPc idw ad ek D av ws0 sz) (va_Qv P (MB idw ad D (va_A ws0 sz)) (va_A ws0 sz)) mc ms (va_A ws0 sz)
theorem mxc_of {l : Launch} {D : va_G} {ad : AD} {ek : EK} {y : MethodName} {cc : ByteArray} {maxL d : Nat} {av : List Value} {ws0 : va_W} {P : va_W → Prop} {mc ms : Nat} (hy : plainName y.cls = true) (hin : y.name = "<init>") (hlen : (lg_sl av).length ≤ maxL)
    (body : ∀ z : ZT, (∀ a b, a ≤ mc → b ≤ ms → CX (zset z a b) ad ek cc y.cls l D d maxL) → ZI z → (∀ (pc : Nat) (lv : List (Nat × Value)) (u : va_W), decode cc pc = .ok (.return_, 1) → P u → XW (zset z mc ms) idw pc lv [] u) → XW (zset z 0 0) idw 0 (lv_args 0 av) [] ws0) : MXc l D ad ek y cc maxL d av ws0 P mc ms := by
  intro hEo sz
  refine Met.ofW (cc := cc) (maxL := maxL) (ret := none) hy rfl ?_
  intro p e s m args below meth c s₁ B hml hv
  obtain ⟨rfl, hsz, hP, hK, hD0, hE⟩ := hv
  have hx := B.exec
  have hb := B.bytes
  have hr := B.returns
  have hts0 := atoms_spec (ws := Cond.code y cc maxL none :: UN) B.pre
  have hts : ∀ v ∈ UN, v.before av.toArray s = true := fun v hv => hts0 v (List.mem_cons_of_mem _ hv)
  have hown : s.vm.findClass y.cls = some m.cls := findClass_of_methodNamed B.named
  have hlocks := B.notSynchronized
  have hnm : meth.name = "<init>" := (name_of_methodNamed B.named B.method).1.trans hin
  subst hsz
  have hD := hD0.self (sz := s.heap.size)
  have hA : ∀ q : Nat, s.heap.size ≤ q → va_A ws0 s.heap.size q := fun q h => Or.inr h
  have hl := lv_entry av (n := maxL) hlen
  rw [lg_entry_eq]
  refine body (p, l, e, rmC d mc ms, s, m, av.toArray, below, meth, c, D, va_A ws0 s.heap.size, maxL, _, 0, 0) (fun a b ha hb2 => ⟨hx, hb, hts, hown, hK, hA, hml, rfl, ⟨Nat.le_refl _, Nat.le_refl _, ha, hb2⟩, rfl, rfl, hEo, hE⟩) hnm ?_ s.heap [] hP hD va_S.rf _ hl
  intro pc lv u hd hPu H locs hP1 hD1 hS1 ls hl1
  exact W.vret hx hb hr (fun t ht hW => ⟨⟨u, rfl, hPu, by rw [ht]; exact hP1, va_K.moved hW.alike hK, hD1⟩, hS1.F ht⟩) hS1.2.2 hd hlocks
section XC
variable {z : ZT} {ad : AD} {ek : EK} {cc : ByteArray} {own : String} {lh : Launch} {Dh : va_G} {dp nL : Nat} {pc a b : Nat} {lv lv' : List (Nat × Value)} {st stk : List Value} {ws pre : va_W}
theorem x_na_byte (C : CX (zset z a b) ad ek cc own lh Dh dp nL) {n : Int32} (N : Nat) (hn : ¬ n < 0) (hN : n.toNatClampNeg = N) (hsz : N ≤ 10000) (C2 : CX (zset z (a + 1) (b + N)) ad ek cc own lh Dh dp nL) (d : decode cc pc = .ok (.newarray .byte, 2)) (kk : ∀ q : Nat, XW (zset z (a + 1) (b + N)) idw (pc + 2) lv (.ref q :: st) (ws ++ [(q, .inl (ad.2.1, N, .inl (fun _ => 0)))])) : XW (zset z a b) idw pc lv (.int n :: st) ws := by
  obtain ⟨p, l, e, R, s, m, args, below, meth, c, D, A, nL0, Q, kc, ksl⟩ := z
  obtain ⟨hx, hb, hts, hown, hK, hA, hml, hnl, hR, hlh, hDh, hEo, hE⟩ := C
  intro H locs hP hD hS ls hl
  obtain ⟨-, -, -, -, -, -, -, -, hR2, -, -, -, -⟩ := C2
  have hby : N * componentBytes FieldType.byte ≤ 536870912 := by
    have h8 : componentBytes FieldType.byte ≤ 8 := by decide
    have h9 := Nat.mul_le_mul hsz h8
    omega
  refine va_newa (atype := .byte) (ty := .byte) (a0 := (N, .inl (fun _ => 0))) hx hb (hts _ u_1_44) rfl hK hP hD hS hA (fun cA => rfl) hn hN hby hR2.2.2.1 hR2.2.2.2 d (fun q cA H1 hK1 hP1 hD1 hS1 => ?_)
  have e1 : cA = ad.2.1 := by
    have h1 := (hK1.2 4 (cA, .byte) rfl).2
    have h2 := (hK.2 0 (ad.2.1, .byte) rfl).2
    exact Option.some.inj (h1.symm.trans h2)
  subst e1
  exact kk q H1 locs hP1 hD1 hS1 ls hl
theorem x_na_int (C : CX (zset z a b) ad ek cc own lh Dh dp nL) {n : Int32} (N : Nat) (hn : ¬ n < 0) (hN : n.toNatClampNeg = N) (hsz : N ≤ 10000) (C2 : CX (zset z (a + 1) (b + N)) ad ek cc own lh Dh dp nL) (d : decode cc pc = .ok (.newarray .int, 2)) (kk : ∀ q : Nat, XW (zset z (a + 1) (b + N)) idw (pc + 2) lv (.ref q :: st) (ws ++ [(q, .inl (ad.2.2.1, N, .inl (fun _ => 0)))])) : XW (zset z a b) idw pc lv (.int n :: st) ws := by
  obtain ⟨p, l, e, R, s, m, args, below, meth, c, D, A, nL0, Q, kc, ksl⟩ := z
  obtain ⟨hx, hb, hts, hown, hK, hA, hml, hnl, hR, hlh, hDh, hEo, hE⟩ := C
  intro H locs hP hD hS ls hl
  obtain ⟨-, -, -, -, -, -, -, -, hR2, -, -, -, -⟩ := C2
  have hby : N * componentBytes FieldType.int ≤ 536870912 := by
    have h8 : componentBytes FieldType.int ≤ 8 := by decide
    have h9 := Nat.mul_le_mul hsz h8
    omega
  refine va_newa (atype := .int) (ty := .int) (a0 := (N, .inl (fun _ => 0))) hx hb (hts _ u_1_67) rfl hK hP hD hS hA (fun cA => rfl) hn hN hby hR2.2.2.1 hR2.2.2.2 d (fun q cA H1 hK1 hP1 hD1 hS1 => ?_)
  have e1 : cA = ad.2.2.1 := by
    have h1 := (hK1.2 4 (cA, .int) rfl).2
    have h2 := (hK.2 1 (ad.2.2.1, .int) rfl).2
    exact Option.some.inj (h1.symm.trans h2)
  subst e1
  exact kk q H1 locs hP1 hD1 hS1 ls hl
theorem x_na_long (C : CX (zset z a b) ad ek cc own lh Dh dp nL) {n : Int32} (N : Nat) (hn : ¬ n < 0) (hN : n.toNatClampNeg = N) (hsz : N ≤ 10000) (C2 : CX (zset z (a + 1) (b + N)) ad ek cc own lh Dh dp nL) (d : decode cc pc = .ok (.newarray .long, 2)) (kk : ∀ q : Nat, XW (zset z (a + 1) (b + N)) idw (pc + 2) lv (.ref q :: st) (ws ++ [(q, .inl (ad.2.2.2.1, N, .inr (.inl (fun _ => 0))))])) : XW (zset z a b) idw pc lv (.int n :: st) ws := by
  obtain ⟨p, l, e, R, s, m, args, below, meth, c, D, A, nL0, Q, kc, ksl⟩ := z
  obtain ⟨hx, hb, hts, hown, hK, hA, hml, hnl, hR, hlh, hDh, hEo, hE⟩ := C
  intro H locs hP hD hS ls hl
  obtain ⟨-, -, -, -, -, -, -, -, hR2, -, -, -, -⟩ := C2
  have hby : N * componentBytes FieldType.long ≤ 536870912 := by
    have h8 : componentBytes FieldType.long ≤ 8 := by decide
    have h9 := Nat.mul_le_mul hsz h8
    omega
  refine va_newa (atype := .long) (ty := .long) (a0 := (N, .inr (.inl (fun _ => 0)))) hx hb (hts _ u_1_68) rfl hK hP hD hS hA (fun cA => rfl) hn hN hby hR2.2.2.1 hR2.2.2.2 d (fun q cA H1 hK1 hP1 hD1 hS1 => ?_)
  have e1 : cA = ad.2.2.2.1 := by
    have h1 := (hK1.2 4 (cA, .long) rfl).2
    have h2 := (hK.2 2 (ad.2.2.2.1, .long) rfl).2
    exact Option.some.inj (h1.symm.trans h2)
  subst e1
  exact kk q H1 locs hP1 hD1 hS1 ls hl
theorem x_na_boolean (C : CX (zset z a b) ad ek cc own lh Dh dp nL) {n : Int32} (N : Nat) (hn : ¬ n < 0) (hN : n.toNatClampNeg = N) (hsz : N ≤ 10000) (C2 : CX (zset z (a + 1) (b + N)) ad ek cc own lh Dh dp nL) (d : decode cc pc = .ok (.newarray .boolean, 2)) (kk : ∀ q : Nat, XW (zset z (a + 1) (b + N)) idw (pc + 2) lv (.ref q :: st) (ws ++ [(q, .inl (ad.2.2.2.2, N, .inl (fun _ => 0)))])) : XW (zset z a b) idw pc lv (.int n :: st) ws := by
  obtain ⟨p, l, e, R, s, m, args, below, meth, c, D, A, nL0, Q, kc, ksl⟩ := z
  obtain ⟨hx, hb, hts, hown, hK, hA, hml, hnl, hR, hlh, hDh, hEo, hE⟩ := C
  intro H locs hP hD hS ls hl
  obtain ⟨-, -, -, -, -, -, -, -, hR2, -, -, -, -⟩ := C2
  have hby : N * componentBytes FieldType.boolean ≤ 536870912 := by
    have h8 : componentBytes FieldType.boolean ≤ 8 := by decide
    have h9 := Nat.mul_le_mul hsz h8
    omega
  refine va_newa (atype := .boolean) (ty := .boolean) (a0 := (N, .inl (fun _ => 0))) hx hb (hts _ u_2_62) rfl hK hP hD hS hA (fun cA => rfl) hn hN hby hR2.2.2.1 hR2.2.2.2 d (fun q cA H1 hK1 hP1 hD1 hS1 => ?_)
  have e1 : cA = ad.2.2.2.2 := by
    have h1 := (hK1.2 4 (cA, .boolean) rfl).2
    have h2 := (hK.2 3 (ad.2.2.2.2, .boolean) rfl).2
    exact Option.some.inj (h1.symm.trans h2)
  subst e1
  exact kk q H1 locs hP1 hD1 hS1 ls hl
theorem x_no (C : CX (zset z a b) ad ek cc own lh Dh dp nL) {Cn : String} {T : u_T} {N ci idx : Nat} {fs : List Value} (hin : ∀ v ∈ u_ws Cn T N, v ∈ UN) (ty : Nat → FieldType) (hty : ∀ k, k < N → parseFieldDescriptor (T k).2.2.1 = some (ty k)) (u1 : Cond.classLink own idx Cn ∈ UN) (u2 : Cond.instantiable Cn N ∈ UN) (u3 : Cond.initialized Cn ∈ UN) (hc : vwCl[ci]? = some (Cn, T, N)) (hfs : ∀ j, j < N → defaultValue (ty j) = vp_V fs j) (C2 : CX (zset z (a + 1) (b + N)) ad ek cc own lh Dh dp nL) (d : decode cc pc = .ok (.new idx, 3)) (kk : ∀ q : Nat, XW (zset z (a + 1) (b + N)) idw (pc + 3) lv (.ref q :: st) (ws ++ [(q, .inr (ci, fs))])) : XW (zset z a b) idw pc lv st ws := by
  obtain ⟨p, l, e, R, s, m, args, below, meth, c, D, A, nL0, Q, kc, ksl⟩ := z
  obtain ⟨hx, hb, hts, hown, hK, hA, hml, hnl, hR, hlh, hDh, hEo, hE⟩ := C
  intro H locs hP hD hS ls hl
  obtain ⟨-, -, -, -, -, -, -, -, hR2, -, -, -, -⟩ := C2
  exact va_new hx hb hts hin ty hty hown (hts _ u1) (hts _ u2) (hts _ u3) hK hP hD hS hA hc hfs hR2.2.2.1 hR2.2.2.2 d (fun q H1 hP1 hD1 hS1 => kk q H1 locs hP1 hD1 hS1 ls hl)
theorem x_putF (C : CX (zset z a b) ad ek cc own lh Dh dp nL) (hI : ZI z) {ws' : va_W} {Cn : String} {T : u_T} {N ci idx : Nat} (hin : ∀ v ∈ u_ws Cn T N, v ∈ UN) (ty0 : Nat → FieldType) (hty : ∀ k, k < N → parseFieldDescriptor (T k).2.2.1 = some (ty0 k)) (hnm : ∀ a, a < N → ∀ b, b < N → a ≠ b → (T a).2.1 ≠ (T b).2.1) (q0 : Nat) {a1 : Nat} {fs : List Value} (he : ws[q0]? = some (a1, .inr (ci, fs))) (hc : vwCl[ci]? = some (Cn, T, N)) (k : Nat) (hk : k < N) (hfin : (T k).2.2.2 = true) (hdecl : (T k).1 = own) {ty : FieldType} {v : Value} (hd : parseFieldDescriptor (T k).2.2.1 = some ty) (hn : narrow ty v = v) (hfit : fits ty v = true) (hl0 : k < fs.length) (hS' : ws.set q0 (a1, .inr (ci, fs.set k v)) = ws') (u : Cond.fieldLink own idx (T k).1 (T k).2.1 (T k).2.2.1 ∈ UN) (d : decode cc pc = .ok (.putfield idx, 3)) (kk : XW (zset z a b) idw (pc + 3) lv st ws') : XW (zset z a b) idw pc lv (v :: .ref a1 :: st) ws := by
  obtain ⟨p, l, e, R, s, m, args, below, meth, c, D, A, nL0, Q, kc, ksl⟩ := z
  obtain ⟨hx, hb, hts, hown, hK, hA, hml, hnl, hR, hlh, hDh, hEo, hE⟩ := C
  intro H locs hP hD hS ls hl
  exact va_putF hx hb hts hin ty0 hty hnm hown hK hP hD hS q0 he hc k hk (hts _ u) (fun _ h9 => h9) hfin hI hdecl hd hn hfit hl0 d (fun H1 locs1 h1 h2 h3 => kk H1 locs1 (hS' ▸ h1) (hS' ▸ h2) h3 ls hl)
theorem x_objI (C : CX (zset z a b) ad ek cc own lh Dh dp nL) {idx a1 : Nat} (u : Cond.methodLink own idx Lib.objectInit ∈ UN) (hd1 : 1 ≤ dp) (hcat : (st.map fun v => v.category).sum + 12 ≤ 40) (d : decode cc pc = .ok (.invokespecial idx, 3)) (kk : XW (zset z a b) idw (pc + 3) lv st ws) : XW (zset z a b) idw pc lv (.ref a1 :: st) ws := by
  obtain ⟨p, l, e, R, s, m, args, below, meth, c, D, A, nL0, Q, kc, ksl⟩ := z
  obtain ⟨hx, hb, hts, hown, hK, hA, hml, hnl, hR, hlh, hDh, hEo, hE⟩ := C
  intro H locs hP hD hS ls hl
  exact W.objInit hx hb hown (hts _ u) (hts _ u_1_27) (hts _ u_1_28) rfl (by rw [hml, ← hnl]; exact hl.1) rfl d (Nat.le_trans hd1 hR.1) (by show 2 * 0 + _ + 12 ≤ _; have := hR.2.1; omega) (kk H locs hP hD hS ls hl)
theorem x_ws {ws' : va_W} (h : ws = ws') (kk : XW (zset z a b) idw pc lv st ws') : XW (zset z a b) idw pc lv st ws := h ▸ kk
variable {y : MethodName} {ccy : ByteArray} {maxL dy idx b1 mc ms : Nat} {As : List Value} {cell : va_E} {P : va_W → Prop}
theorem x_ctor (C : CX (zset z a b) ad ek cc own lh Dh dp nL) (hM : MXc lh Dh ad ek y ccy maxL dy (.ref b1 :: As) [(b1, cell)] P mc ms) (hws : ws = pre ++ [(b1, cell)]) (uC : Cond.code y ccy maxL none ∈ UN) (uL : Cond.methodLink own idx y ∈ UN) (uM : Cond.instanceMethod y ∈ UN) (uI : Cond.initialized y.cls ∈ UN) (hnam : y.name = "<init>") (hd0 : y.cls ≠ "java/lang/invoke/MethodHandle" ∧ y.cls ≠ "java/lang/invoke/VarHandle" ∧ (parseMethodDescriptor y.desc).map (fun d => d.parameters.length) = some As.length) (hmax : maxL ≤ 21) (hd1 : dy + 1 ≤ dp) (hcat : (st.map fun v => v.category).sum ≤ 8) (hstk : As.reverse ++ .ref b1 :: st = stk) (C2 : CX (zset z (a + mc) (b + ms)) ad ek cc own lh Dh dp nL) (d : decode cc pc = .ok (.invokespecial idx, 3)) (kk : ∀ u : va_W, P u → XW (zset z (a + mc) (b + ms)) idw (pc + 3) lv st (pre ++ u)) : XW (zset z a b) idw pc lv stk ws := by
  obtain ⟨p, l, e, R, s, m, args, below, meth, c, D, A, nL0, Q, kc, ksl⟩ := z
  obtain ⟨hx, hb, hts, hown, hK, hA, hml, hnl, hR, hlh, hDh, hEo, hE⟩ := C
  intro H locs hP hD hS ls hl
  obtain ⟨-, -, -, -, -, -, -, -, hR2, -, -, -, -⟩ := C2
  subst hlh hDh hnl hstk hws
  have hP0 := P_right hP
  have hD0 := D_right hD
  have hF := A_in hD0 hS hA
  have hG : GoodIn UN (Cond.code y ccy maxL none :: UN) := goodIn_sub (List.forall_mem_cons.mpr ⟨uC, fun _ h => h⟩) (List.all_eq_true.mpr (List.forall_mem_cons.mpr ⟨good_all _ uC, good_all⟩))
  have hrm : (rmC dy mc ms).frames + 1 ≤ R.frames ∧ 8 + (maxL + 11) + (rmC dy mc ms).locals ≤ R.locals := ⟨Nat.le_trans hd1 hR.1, by have := hR.2.1; show 8 + (maxL + 11) + 40 * dy ≤ R.locals; omega⟩
  refine va_callv (va_runI (cc := cc) (As := As) (rest := st) ⟨hx, hb, hml, hown, hts⟩ (hM hEo H.size) (cwI As.length hts hG rfl rfl rfl (hts _ uI) (hts _ uL) (hts _ uM) hnam hd0 hrm) ⟨MPc_blind hEo, fun U hU hW => ⟨rfl, by rw [hU], by rw [hU]; exact hP0, va_K.moved hW.alike hK, hD0.weaken (fun _ _ _ _ => trivial), by rw [hU]; exact hEo.2.2.1 _ s U H hW (hEo.2.1 _ _ s H (hEo.1 _ s s.heap H hE hS.2.1) hF)⟩⟩ rfl rfl hl.1 rfl (lv_room hcat) d ⟨hR2.2.2.1, hR2.2.2.2⟩) hS (fun q _ h => hF q h) hF (fun u t H1 locs1 ht hvm hw2 hB hz1 hk1 hS1 => ?_)
  obtain ⟨hP1, hK1, hD1⟩ := hB
  rw [ht] at hP1
  obtain ⟨hP2, hD2⟩ := frame_l hP hD hk1 hP1 hD1 hF
  exact kk u hw2 H1 locs1 hP2 hD2 hS1 ls hl
theorem x_ctorN (C : CX (zset z a b) ad ek cc own lh Dh dp nL) (hM : MXc lh Dh ad ek y ccy maxL dy (.ref b1 :: As) [(b1, cell)] P mc ms) (hws : ws = pre ++ [(b1, cell)]) (uC : Cond.code y ccy maxL none ∈ UN) (hnw : ∀ A U H, ek A U H → va_Nw (.methodLinkNest own idx y "SaidRecord") U) (uM : Cond.instanceMethod y ∈ UN) (uI : Cond.initialized y.cls ∈ UN) (hnam : y.name = "<init>") (hd0 : y.cls ≠ "java/lang/invoke/MethodHandle" ∧ y.cls ≠ "java/lang/invoke/VarHandle" ∧ (parseMethodDescriptor y.desc).map (fun d => d.parameters.length) = some As.length) (hmax : maxL ≤ 21) (hd1 : dy + 1 ≤ dp) (hcat : (st.map fun v => v.category).sum ≤ 8) (hstk : As.reverse ++ .ref b1 :: st = stk) (C2 : CX (zset z (a + mc) (b + ms)) ad ek cc own lh Dh dp nL) (d : decode cc pc = .ok (.invokespecial idx, 3)) (kk : ∀ u : va_W, P u → XW (zset z (a + mc) (b + ms)) idw (pc + 3) lv st (pre ++ u)) : XW (zset z a b) idw pc lv stk ws := by
  obtain ⟨p, l, e, R, s, m, args, below, meth, c, D, A, nL0, Q, kc, ksl⟩ := z
  obtain ⟨hx, hb, hts, hown, hK, hA, hml, hnl, hR, hlh, hDh, hEo, hE⟩ := C
  intro H locs hP hD hS ls hl
  obtain ⟨-, -, -, -, -, -, -, -, hR2, -, -, -, -⟩ := C2
  subst hlh hDh hnl hstk hws
  have hP0 := P_right hP
  have hD0 := D_right hD
  have hF := A_in hD0 hS hA
  have hG : GoodIn UN (Cond.code y ccy maxL none :: UN) := goodIn_sub (List.forall_mem_cons.mpr ⟨uC, fun _ h => h⟩) (List.all_eq_true.mpr (List.forall_mem_cons.mpr ⟨good_all _ uC, good_all⟩))
  have hrm : (rmC dy mc ms).frames + 1 ≤ R.frames ∧ 8 + (maxL + 11) + (rmC dy mc ms).locals ≤ R.locals := ⟨Nat.le_trans hd1 hR.1, by have := hR.2.1; show 8 + (maxL + 11) + 40 * dy ≤ R.locals; omega⟩
  refine va_callv (va_runIN (cc := cc) (n := As.length) (As := As) (rest := st) ⟨hx, hb, hml, hown, hts⟩ (hM hEo H.size) (⟨va_cnB As.length hts hG rfl rfl rfl (hnw _ _ _ hE) (hts _ uI) ⟨hd0.1, hd0.2.1, hd0.2.2⟩ hrm, hnam, hts _ uM⟩) ⟨MPc_blind hEo, fun U hU hW => ⟨rfl, by rw [hU], by rw [hU]; exact hP0, va_K.moved hW.alike hK, hD0.weaken (fun _ _ _ _ => trivial), by rw [hU]; exact hEo.2.2.1 _ s U H hW (hEo.2.1 _ _ s H (hEo.1 _ s s.heap H hE hS.2.1) hF)⟩⟩ rfl rfl hl.1 rfl (lv_room hcat) d ⟨hR2.2.2.1, hR2.2.2.2⟩) hS (fun q _ h => hF q h) hF (fun u t H1 locs1 ht hvm hw2 hB hz1 hk1 hS1 => ?_)
  obtain ⟨hP1, hK1, hD1⟩ := hB
  rw [ht] at hP1
  obtain ⟨hP2, hD2⟩ := frame_l hP hD hk1 hP1 hD1 hF
  exact kk u hw2 H1 locs1 hP2 hD2 hS1 ls hl
end XC
