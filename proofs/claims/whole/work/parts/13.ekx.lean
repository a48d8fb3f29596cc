def lenS : List Nat := [56, 69]
def bytS : List (List Int32) := [[102, 114, 111, 109, 32, 116, 111, 32, 105, 102, 32, 111, 114, 32, 97, 110, 100, 32, 110, 111, 116, 32, 114, 105, 103, 104, 116, 32, 109, 101, 110, 100, 32, 98, 97, 114, 32, 108, 101, 97, 118, 101, 32, 99, 111, 117, 114, 116, 32, 115, 116, 114, 105, 107, 101, 32], [119, 111, 114, 100, 32, 119, 97, 115, 32, 112, 97, 112, 101, 114, 32, 115, 111, 114, 116, 32, 109, 105, 110, 117, 116, 101, 32, 109, 101, 109, 98, 101, 114, 32, 111, 102, 102, 105, 99, 101, 32, 100, 97, 121, 115, 32, 116, 105, 109, 101, 115, 32, 104, 101, 97, 114, 100, 32, 110, 101, 120, 116, 32, 108, 105, 110, 101, 115, 32]]
def ekX (ad : AD) : EK := fun A U H => va_Nw (.methodLinkNest "SaidRecord$Renames" 46 yX11_isWord "SaidRecord") U ∧ vk_S 2 lenS bytS (fun i => ad.1 (100 + i)) (fun i => ad.1 (110 + i)) A U H ∧ vk_R "SaidRecord$Tokens" 73 "from to if or and not right mend bar leave court strike " (ad.1 (100 + 0)) U ∧ vk_R "SaidRecord$Tokens" 79 "word was paper sort minute member office days times heard next lines " (ad.1 (100 + 1)) U ∧ va_Z "java/lang/String" "COMPACT_STRINGS" "Z" (.int 1) A U H ∧ va_Zq "jdk/internal/util/Preconditions" "SIOOBE_FORMATTER" "Ljava/util/function/BiFunction;" A U H
theorem xk_alike {u U : State} (h : U.vm = u.vm) : u.vm.Alike U.vm := by rw [h]; exact Vm.Alike.refl _
theorem ekX_ok (ad : AD) : EKok (ekX ad) := by
  refine ⟨?_, ?_, ?_, ?_⟩
  · intro A U H H1 h hq
    exact ⟨h.1, h.2.1.kept hq, h.2.2.1, h.2.2.2.1, h.2.2.2.2.1.kept hq, h.2.2.2.2.2.kept hq⟩
  · intro A B U H h hAB
    exact ⟨h.1, h.2.1.narrow hAB, h.2.2.1, h.2.2.2.1, h.2.2.2.2.1.narrow hAB, h.2.2.2.2.2.narrow hAB⟩
  · intro A s U H hW h
    exact ⟨h.1.warmM hW, h.2.1.moved hW.alike, h.2.2.1.warm hW, h.2.2.2.1.warm hW, h.2.2.2.2.1.moved hW.alike, h.2.2.2.2.2.moved hW.alike⟩
  · intro A U U' H hv h
    exact ⟨va_Nw.same rfl hv.symm h.1, h.2.1.moved (xk_alike hv), h.2.2.1.same hv, h.2.2.2.1.same hv, h.2.2.2.2.1.moved (xk_alike hv), h.2.2.2.2.2.moved (xk_alike hv)⟩
theorem ekM_ok : EKok (fun _ _ _ => True) := ⟨fun _ _ _ _ _ _ => trivial, fun _ _ _ _ _ _ => trivial, fun _ _ _ _ _ _ => trivial, fun _ _ _ _ _ _ => trivial⟩
section XSTR
variable {z : ZT} {w : ST → va_W} {ad : AD} {cc : ByteArray} {own : String} {lh : Launch} {Dh : va_G} {dp nL : Nat} {pc : Nat} {lv lv' : List (Nat × Value)} {st stk : List Value} {S : ST}
theorem x_sgetV (C : CX z ad (ekX ad) cc own lh Dh dp nL) {idx q : Nat} (hq : q < 2) (u : Cond.fieldLink own idx "java/lang/String" "value" "[B" ∈ UN) (d : decode cc pc = .ok (.getfield idx, 3)) (kk : XW z w (pc + 3) lv (.ref (ad.1 (110 + q)) :: st) S) : XW z w pc lv (.ref (ad.1 (100 + q)) :: st) S := by
  obtain ⟨p, l, e, R, s, m, args, below, meth, c, D, A, nL0, Q, kc, ksl⟩ := z
  obtain ⟨hx, hb, hts, hown, hK, hA, hml, hnl, hR, hlh, hDh, hEo, hE⟩ := C
  intro H locs hP hD hS ls hl
  exact vk_getf hx hb (hE.2.1.1 q hq).2.2.1 hS hown (hts _ u) (fun _ h9 => h9) d (kk H locs hP hD hS ls hl)
theorem x_sgetC (C : CX z ad (ekX ad) cc own lh Dh dp nL) {idx q : Nat} (hq : q < 2) (u : Cond.fieldLink own idx "java/lang/String" "coder" "B" ∈ UN) (d : decode cc pc = .ok (.getfield idx, 3)) (kk : XW z w (pc + 3) lv (.int 0 :: st) S) : XW z w pc lv (.ref (ad.1 (100 + q)) :: st) S := by
  obtain ⟨p, l, e, R, s, m, args, below, meth, c, D, A, nL0, Q, kc, ksl⟩ := z
  obtain ⟨hx, hb, hts, hown, hK, hA, hml, hnl, hR, hlh, hDh, hEo, hE⟩ := C
  intro H locs hP hD hS ls hl
  exact vk_getf hx hb (hE.2.1.1 q hq).2.1 hS hown (hts _ u) (fun _ h9 => h9) d (kk H locs hP hD hS ls hl)
theorem x_getsC (C : CX z ad (ekX ad) cc own lh Dh dp nL) {idx : Nat} (u : Cond.fieldLink own idx "java/lang/String" "COMPACT_STRINGS" "Z" ∈ UN) (d : decode cc pc = .ok (.getstatic idx, 3)) (kk : XW z w (pc + 3) lv (.int 1 :: st) S) : XW z w pc lv st S := by
  obtain ⟨p, l, e, R, s, m, args, below, meth, c, D, A, nL0, Q, kc, ksl⟩ := z
  obtain ⟨hx, hb, hts, hown, hK, hA, hml, hnl, hR, hlh, hDh, hEo, hE⟩ := C
  intro H locs hP hD hS ls hl
  exact va_gets hx hb hE.2.2.2.2.1 hS hown (hts _ u) (fun _ h9 => h9) d (kk H locs hP hD hS ls hl)
theorem x_getsF (C : CX z ad (ekX ad) cc own lh Dh dp nL) {idx : Nat} (u : Cond.fieldLink own idx "jdk/internal/util/Preconditions" "SIOOBE_FORMATTER" "Ljava/util/function/BiFunction;" ∈ UN) (d : decode cc pc = .ok (.getstatic idx, 3)) (kk : ∀ o : Option Nat, XW z w (pc + 3) lv (va_rf o :: st) S) : XW z w pc lv st S := by
  obtain ⟨p, l, e, R, s, m, args, below, meth, c, D, A, nL0, Q, kc, ksl⟩ := z
  obtain ⟨hx, hb, hts, hown, hK, hA, hml, hnl, hR, hlh, hDh, hEo, hE⟩ := C
  intro H locs hP hD hS ls hl
  rcases hE.2.2.2.2.2 with q | ⟨t, q⟩
  · exact va_gets hx hb q hS hown (hts _ u) (fun _ h9 => h9) d (kk none H locs hP hD hS ls hl)
  · exact va_gets hx hb q hS hown (hts _ u) (fun _ h9 => h9) d (kk (some t) H locs hP hD hS ls hl)
theorem x_slen (C : CX z ad (ekX ad) cc own lh Dh dp nL) {q : Nat} (hq : q < 2) (d : decode cc pc = .ok (.arraylength, 1)) (kk : XW z w (pc + 1) lv (.int (Int32.ofNat (lenS.getD q 0)) :: st) S) : XW z w pc lv (.ref (ad.1 (110 + q)) :: st) S := by
  obtain ⟨p, l, e, R, s, m, args, below, meth, c, D, A, nL0, Q, kc, ksl⟩ := z
  obtain ⟨hx, hb, hts, hown, hK, hA, hml, hnl, hR, hlh, hDh, hEo, hE⟩ := C
  intro H locs hP hD hS ls hl
  exact va_tlen hx hb (hE.2.1.1 q hq).2.2.2 hS rfl d (kk H locs hP hD hS ls hl)
theorem x_sbald (C : CX z ad (ekX ad) cc own lh Dh dp nL) {q : Nat} (hq : q < 2) {i : Int32} (hin : inb i (lenS.getD q 0) = true) (d : decode cc pc = .ok (.baload, 1)) (kk : XW z w (pc + 1) lv (.int ((bytS.getD q []).getD i.toNatClampNeg 0) :: st) S) : XW z w pc lv (.int i :: .ref (ad.1 (110 + q)) :: st) S := by
  obtain ⟨p, l, e, R, s, m, args, below, meth, c, D, A, nL0, Q, kc, ksl⟩ := z
  obtain ⟨hx, hb, hts, hown, hK, hA, hml, hnl, hR, hlh, hDh, hEo, hE⟩ := C
  intro H locs hP hD hS ls hl
  exact va_tb hx hb (hE.2.1.1 q hq).2.2.2 hS (inb_in hin) rfl d (kk H locs hP hD hS ls hl)
theorem x_ldcS0 (C : CX z ad (ekX ad) cc own lh Dh dp nL) (hown2 : own = "SaidRecord$Tokens") (d : decode cc pc = .ok (.ldc 73, 2)) (kk : XW z w (pc + 2) lv (.ref (ad.1 (100 + 0)) :: st) S) : XW z w pc lv st S := by
  obtain ⟨p, l, e, R, s, m, args, below, meth, c, D, A, nL0, Q, kc, ksl⟩ := z
  obtain ⟨hx, hb, hts, hown, hK, hA, hml, hnl, hR, hlh, hDh, hEo, hE⟩ := C
  intro H locs hP hD hS ls hl
  subst hown2
  exact va_ldcS hx hb hown hE.2.2.1 d (kk H locs hP hD hS ls hl)
theorem x_ldcS1 (C : CX z ad (ekX ad) cc own lh Dh dp nL) (hown2 : own = "SaidRecord$Tokens") (d : decode cc pc = .ok (.ldc 79, 2)) (kk : XW z w (pc + 2) lv (.ref (ad.1 (100 + 1)) :: st) S) : XW z w pc lv st S := by
  obtain ⟨p, l, e, R, s, m, args, below, meth, c, D, A, nL0, Q, kc, ksl⟩ := z
  obtain ⟨hx, hb, hts, hown, hK, hA, hml, hnl, hR, hlh, hDh, hEo, hE⟩ := C
  intro H locs hP hD hS ls hl
  subst hown2
  exact va_ldcS hx hb hown hE.2.2.2.1 d (kk H locs hP hD hS ls hl)
variable {y : MethodName} {ccy : ByteArray} {maxL : Nat} {ret : Option FieldType} {dy idx b : Nat} {As : List Value} {Cn : String} {T : u_T} {N ci q0 : Nat} {fs : List Value}
theorem x_callVsi (C : CX z ad (ekX ad) cc own lh Dh dp nL) {r : Int32} {S' : ST} {q : Nat} (hq : q < 2) (hM : MXi lh Dh ad (ekX ad) w y ccy maxL ret dy (.ref (ad.1 (100 + q)) :: As) S r S') (hw : CWV own idx "java/lang/String" y ccy maxL ret As.length) (hd1 : dy + 1 ≤ dp) (hcat : (st.map fun v => v.category).sum ≤ 8) (hstk : As.reverse ++ .ref (ad.1 (100 + q)) :: st = stk) (d : decode cc pc = .ok (.invokevirtual idx, 3)) (kk : XW z w (pc + 3) lv (.int r :: st) S') : XW z w pc lv stk S := by
  obtain ⟨p, l, e, R, s, m, args, below, meth, c, D, A, nL0, Q, kc, ksl⟩ := z
  obtain ⟨hx, hb, hts, hown, hK, hA, hml, hnl, hR, hlh, hDh, hEo, hE⟩ := C
  intro H locs hP hD hS ls hl
  subst hlh hDh hnl hstk
  have hF := A_in hD hS hA
  refine va_calli (va_runV (cc := cc) (As := As) (rest := st) ⟨hx, hb, hml, hown, hts⟩ (hM hEo H.size) (cwV As.length hts (cwv_good hw) rfl rfl rfl hw.2.1 (rm_le hR hd1 hw.2.2)) ⟨MPc_blind hEo, vk_recv hE.2.1 hq hS, fun U hU hW => ⟨rfl, by rw [hU], by rw [hU]; exact hP, va_K.moved hW.alike hK, hD.weaken (fun _ _ _ _ => trivial), by rw [hU]; exact hEo.2.2.1 _ s U H hW (hEo.2.1 _ _ s H (hEo.1 _ s s.heap H hE hS.2.1) (A_in hD hS hA))⟩⟩ rfl rfl hl.1 rfl (lv_room hcat) d ⟨hR.2.2.1, hR.2.2.2⟩) hS (fun q _ h => hF q h) hF (fun r2 u t H1 locs1 ht hvm hw2 hB hz1 hk1 hS1 => ?_)
  obtain ⟨hP1, hK1, hD1⟩ := hB
  obtain ⟨rfl, rfl⟩ := hw2
  rw [ht] at hP1
  exact kk H1 locs1 hP1 (hD1.weaken (fun _ _ _ h => hF _ h)) hS1 ls hl
theorem x_callSNi (C : CX z ad (ekX ad) cc own lh Dh dp nL) {r : Int32} {S' : ST} (hM : MXi lh Dh ad (ekX ad) w yX11_isWord cX11_isWord 1 (some .boolean) dy As S r S') (ho : own = "SaidRecord$Renames") (hn : As.length = 1) (hd1 : dy + 1 ≤ dp) (hcat : (st.map fun v => v.category).sum ≤ 8) (hstk : As.reverse ++ st = stk) (d : decode cc pc = .ok (.invokestatic 46, 3)) (kk : XW z w (pc + 3) lv (.int r :: st) S') : XW z w pc lv stk S := by
  obtain ⟨p, l, e, R, s, m, args, below, meth, c, D, A, nL0, Q, kc, ksl⟩ := z
  obtain ⟨hx, hb, hts, hown, hK, hA, hml, hnl, hR, hlh, hDh, hEo, hE⟩ := C
  intro H locs hP hD hS ls hl
  subst hlh hDh hnl hstk ho
  have hF := A_in hD hS hA
  have hG : GoodIn UN (Cond.code yX11_isWord cX11_isWord 1 (some .boolean) :: UN) := goodIn_sub (List.forall_mem_cons.mpr ⟨u_3_161, fun _ h => h⟩) (List.all_eq_true.mpr (List.forall_mem_cons.mpr ⟨good_all _ u_3_161, good_all⟩))
  refine va_calli (va_runSN (cc := cc) (n := 1) (As := As) (rest := st) ⟨hx, hb, hml, hown, hts⟩ (hM hEo H.size) ⟨va_cnB 1 hts hG rfl rfl rfl hE.1 (hts _ u_1_1) ⟨by decide, by decide, by decide +kernel⟩ (rm_le hR hd1 (by decide)), hts _ u_3_160, trivial⟩ ⟨MPc_blind hEo, fun U hU hW => ⟨rfl, by rw [hU], by rw [hU]; exact hP, va_K.moved hW.alike hK, hD.weaken (fun _ _ _ _ => trivial), by rw [hU]; exact hEo.2.2.1 _ s U H hW (hEo.2.1 _ _ s H (hEo.1 _ s s.heap H hE hS.2.1) (A_in hD hS hA))⟩⟩ rfl hn hl.1 rfl (lv_room hcat) d ⟨hR.2.2.1, hR.2.2.2⟩) hS (fun q _ h => hF q h) hF (fun r2 u t H1 locs1 ht hvm hw2 hB hz1 hk1 hS1 => ?_)
  obtain ⟨hP1, hK1, hD1⟩ := hB
  obtain ⟨rfl, rfl⟩ := hw2
  rw [ht] at hP1
  exact kk H1 locs1 hP1 (hD1.weaken (fun _ _ _ h => hF _ h)) hS1 ls hl
end XSTR
