def ad2 (ad : AD) : AD := (fun k => ad.1 (200 + k), ad.2)
def wXM (ad : AD) : ST × ST → va_W := fun S => cX ad S.1 ++ cM (ad2 ad) S.2
def ZL (z : ZT) (b L : Nat) (xs : Nat → Int32) : Prop := match z with
  | (p, l, e, R, s, m, args, below, meth, c, D, A, nL0, Q, _, _) => va_X b L xs s s.heap ∧ b < s.heap.size ∧ ¬ A b
section XLAW
variable {α : Type} {z : ZT} {w : α → va_W} {ad : AD} {ek : EK} {cc : ByteArray} {own : String} {lh : Launch} {Dh : va_G} {dp nL : Nat} {pc : Nat} {lv lv' : List (Nat × Value)} {st stk : List Value} {S : α} {b L : Nat} {xs : Nat → Int32}
theorem x_sld (C : CX z ad ek cc own lh Dh dp nL) (hz : ZL z b L xs) {i : Int32} (hin : vp_in i L) (d : decode cc pc = .ok (.iaload, 1)) (kk : XW z w (pc + 1) lv (.int (xs i.toNatClampNeg) :: st) S) : XW z w pc lv (.int i :: .ref b :: st) S := by
  obtain ⟨p, l, e, R, s, m, args, below, meth, c, D, A, nL0, Q, kc, ksl⟩ := z
  obtain ⟨hx, hb, hts, hown, hK, hA, hml, hnl, hR, hlh, hDh, hEo, hE⟩ := C
  intro H locs hP hD hS ls hl
  exact va_sld hx hb hz.1 hz.2.1 hz.2.2 hS hin d (kk H locs hP hD hS ls hl)
theorem x_scl (C : CX z ad ek cc own lh Dh dp nL) (hz : ZL z b L xs) (d : decode cc pc = .ok (.arraylength, 1)) (kk : XW z w (pc + 1) lv (.int (Int32.ofNat L) :: st) S) : XW z w pc lv (.ref b :: st) S := by
  obtain ⟨p, l, e, R, s, m, args, below, meth, c, D, A, nL0, Q, kc, ksl⟩ := z
  obtain ⟨hx, hb, hts, hown, hK, hA, hml, hnl, hR, hlh, hDh, hEo, hE⟩ := C
  intro H locs hP hD hS ls hl
  exact va_slen hx hb hz.1 hz.2.1 hz.2.2 hS d (kk H locs hP hD hS ls hl)
theorem x_tow2 {ws : va_W} {S2 : ST × ST} (is : List Nat) (h1 : is.filterMap (fun i => ws[i]?) = wXM ad S2) (h2 : va_nd is = true) (h3 : is.map (fun i => ws[i]?) = (wXM ad S2).map some) (kk : XW z (wXM ad) pc lv st S2) : XW z idw pc lv st ws := by
  obtain ⟨p, l, e, R, s, m, args, below, meth, c, D, A, nL0, Q, kc, ksl⟩ := z
  intro H locs hP hD hS ls hl
  exact kk H locs (hP.sub is h1) (hD.sub is h2 h3) hS ls hl
end XLAW
section XLAW2
variable {z : ZT} {ad : AD} {ek ek' : EK} {cc : ByteArray} {own : String} {lh : Launch} {Dh : va_G} {dp nL : Nat} {pc : Nat} {lv lv' : List (Nat × Value)} {st stk : List Value} {Sx Sm : ST}
variable {y : MethodName} {ccy : ByteArray} {maxL : Nat} {ret : Option FieldType} {dy idx b1 : Nat} {As : List Value} {Cn : String} {T : u_T} {N ci q0 : Nat} {fs : List Value}
theorem x_lawXi (C : CX z ad ek cc own lh Dh dp nL) {S' : ST} {r : Int32} (hEo' : EKok ek') (hek : ∀ A U H, ek A U H → ek' A U H) (hM : MXi lh Dh ad ek' (cX ad) y ccy maxL ret dy (.ref b1 :: As) Sx r S') (hw : CWV own idx Cn y ccy maxL ret As.length) (hc : vwCl[ci]? = some (Cn, T, N)) (he : ((cX ad) Sx)[q0]? = some (b1, .inr (ci, fs))) (hd1 : dy + 1 ≤ dp) (hcat : (st.map fun v => v.category).sum ≤ 8) (hstk : As.reverse ++ .ref b1 :: st = stk) (d : decode cc pc = .ok (.invokevirtual idx, 3)) (kk : XW z (wXM ad) (pc + 3) lv (.int r :: st) (S', Sm)) : XW z (wXM ad) pc lv stk (Sx, Sm) := by
  obtain ⟨p, l, e, R, s, m, args, below, meth, c, D, A, nL0, Q, kc, ksl⟩ := z
  obtain ⟨hx, hb, hts, hown, hK, hA, hml, hnl, hR, hlh, hDh, hEo, hE⟩ := C
  intro H locs hP hD hS ls hl
  subst hlh hDh hnl hstk
  have hP0 := (P_left hP)
  have hD0 := (D_left hD)
  have hF := A_in hD0 hS hA
  refine va_calli (va_runV (cc := cc) (As := As) (rest := st) ⟨hx, hb, hml, hown, hts⟩ (hM hEo' H.size) (cwV As.length hts (cwv_good hw) rfl rfl rfl hw.2.1 (rm_le hR hd1 hw.2.2)) ⟨MPc_blind hEo', va_recv hK hP0 hc he, fun U hU hW => ⟨rfl, by rw [hU], by rw [hU]; exact hP0, va_K.moved hW.alike hK, hD0.weaken (fun _ _ _ _ => trivial), by rw [hU]; exact hEo'.2.2.1 _ s U H hW (hEo'.2.1 _ _ s H (hEo'.1 _ s s.heap H (hek _ _ _ hE) hS.2.1) hF)⟩⟩ rfl rfl hl.1 rfl (lv_room hcat) d ⟨hR.2.2.1, hR.2.2.2⟩) hS (fun q _ h => hF q h) hF (fun r2 u t H1 locs1 ht hvm hw2 hB hz1 hk1 hS1 => ?_)
  obtain ⟨hP1, hK1, hD1⟩ := hB
  obtain ⟨rfl, rfl⟩ := hw2
  rw [ht] at hP1
  obtain ⟨hP2, hD2⟩ := frame_r hP hD hk1 hP1 hD1 hF
  exact kk H1 locs1 hP2 hD2 hS1 ls hl
theorem x_lawXv (C : CX z ad ek cc own lh Dh dp nL) {S' : ST} (hEo' : EKok ek') (hek : ∀ A U H, ek A U H → ek' A U H) (hM : MXv lh Dh ad ek' (cX ad) y ccy maxL ret dy (.ref b1 :: As) Sx S') (hw : CWV own idx Cn y ccy maxL ret As.length) (hc : vwCl[ci]? = some (Cn, T, N)) (he : ((cX ad) Sx)[q0]? = some (b1, .inr (ci, fs))) (hd1 : dy + 1 ≤ dp) (hcat : (st.map fun v => v.category).sum ≤ 8) (hstk : As.reverse ++ .ref b1 :: st = stk) (d : decode cc pc = .ok (.invokevirtual idx, 3)) (kk : XW z (wXM ad) (pc + 3) lv (st) (S', Sm)) : XW z (wXM ad) pc lv stk (Sx, Sm) := by
  obtain ⟨p, l, e, R, s, m, args, below, meth, c, D, A, nL0, Q, kc, ksl⟩ := z
  obtain ⟨hx, hb, hts, hown, hK, hA, hml, hnl, hR, hlh, hDh, hEo, hE⟩ := C
  intro H locs hP hD hS ls hl
  subst hlh hDh hnl hstk
  have hP0 := (P_left hP)
  have hD0 := (D_left hD)
  have hF := A_in hD0 hS hA
  refine va_callv (va_runV (cc := cc) (As := As) (rest := st) ⟨hx, hb, hml, hown, hts⟩ (hM hEo' H.size) (cwV As.length hts (cwv_good hw) rfl rfl rfl hw.2.1 (rm_le hR hd1 hw.2.2)) ⟨MPc_blind hEo', va_recv hK hP0 hc he, fun U hU hW => ⟨rfl, by rw [hU], by rw [hU]; exact hP0, va_K.moved hW.alike hK, hD0.weaken (fun _ _ _ _ => trivial), by rw [hU]; exact hEo'.2.2.1 _ s U H hW (hEo'.2.1 _ _ s H (hEo'.1 _ s s.heap H (hek _ _ _ hE) hS.2.1) hF)⟩⟩ rfl rfl hl.1 rfl (lv_room hcat) d ⟨hR.2.2.1, hR.2.2.2⟩) hS (fun q _ h => hF q h) hF (fun u t H1 locs1 ht hvm hw2 hB hz1 hk1 hS1 => ?_)
  obtain ⟨hP1, hK1, hD1⟩ := hB
  subst hw2
  rw [ht] at hP1
  obtain ⟨hP2, hD2⟩ := frame_r hP hD hk1 hP1 hD1 hF
  exact kk H1 locs1 hP2 hD2 hS1 ls hl
theorem x_lawMi (C : CX z ad ek cc own lh Dh dp nL) {S' : ST} {r : Int32} (hEo' : EKok ek') (hek : ∀ A U H, ek A U H → ek' A U H) (hM : MXi lh Dh (ad2 ad) ek' (cM (ad2 ad)) y ccy maxL ret dy (.ref b1 :: As) Sm r S') (hw : CWV own idx Cn y ccy maxL ret As.length) (hc : vwCl[ci]? = some (Cn, T, N)) (he : ((cM (ad2 ad)) Sm)[q0]? = some (b1, .inr (ci, fs))) (hd1 : dy + 1 ≤ dp) (hcat : (st.map fun v => v.category).sum ≤ 8) (hstk : As.reverse ++ .ref b1 :: st = stk) (d : decode cc pc = .ok (.invokevirtual idx, 3)) (kk : XW z (wXM ad) (pc + 3) lv (.int r :: st) (Sx, S')) : XW z (wXM ad) pc lv stk (Sx, Sm) := by
  obtain ⟨p, l, e, R, s, m, args, below, meth, c, D, A, nL0, Q, kc, ksl⟩ := z
  obtain ⟨hx, hb, hts, hown, hK, hA, hml, hnl, hR, hlh, hDh, hEo, hE⟩ := C
  intro H locs hP hD hS ls hl
  subst hlh hDh hnl hstk
  have hP0 := (P_right hP)
  have hD0 := (D_right hD)
  have hF := A_in hD0 hS hA
  refine va_calli (va_runV (cc := cc) (As := As) (rest := st) ⟨hx, hb, hml, hown, hts⟩ (hM hEo' H.size) (cwV As.length hts (cwv_good hw) rfl rfl rfl hw.2.1 (rm_le hR hd1 hw.2.2)) ⟨MPc_blind hEo', va_recv hK hP0 hc he, fun U hU hW => ⟨rfl, by rw [hU], by rw [hU]; exact hP0, va_K.moved hW.alike hK, hD0.weaken (fun _ _ _ _ => trivial), by rw [hU]; exact hEo'.2.2.1 _ s U H hW (hEo'.2.1 _ _ s H (hEo'.1 _ s s.heap H (hek _ _ _ hE) hS.2.1) hF)⟩⟩ rfl rfl hl.1 rfl (lv_room hcat) d ⟨hR.2.2.1, hR.2.2.2⟩) hS (fun q _ h => hF q h) hF (fun r2 u t H1 locs1 ht hvm hw2 hB hz1 hk1 hS1 => ?_)
  obtain ⟨hP1, hK1, hD1⟩ := hB
  obtain ⟨rfl, rfl⟩ := hw2
  rw [ht] at hP1
  obtain ⟨hP2, hD2⟩ := frame_l hP hD hk1 hP1 hD1 hF
  exact kk H1 locs1 hP2 hD2 hS1 ls hl
theorem x_lawMv (C : CX z ad ek cc own lh Dh dp nL) {S' : ST} (hEo' : EKok ek') (hek : ∀ A U H, ek A U H → ek' A U H) (hM : MXv lh Dh (ad2 ad) ek' (cM (ad2 ad)) y ccy maxL ret dy (.ref b1 :: As) Sm S') (hw : CWV own idx Cn y ccy maxL ret As.length) (hc : vwCl[ci]? = some (Cn, T, N)) (he : ((cM (ad2 ad)) Sm)[q0]? = some (b1, .inr (ci, fs))) (hd1 : dy + 1 ≤ dp) (hcat : (st.map fun v => v.category).sum ≤ 8) (hstk : As.reverse ++ .ref b1 :: st = stk) (d : decode cc pc = .ok (.invokevirtual idx, 3)) (kk : XW z (wXM ad) (pc + 3) lv (st) (Sx, S')) : XW z (wXM ad) pc lv stk (Sx, Sm) := by
  obtain ⟨p, l, e, R, s, m, args, below, meth, c, D, A, nL0, Q, kc, ksl⟩ := z
  obtain ⟨hx, hb, hts, hown, hK, hA, hml, hnl, hR, hlh, hDh, hEo, hE⟩ := C
  intro H locs hP hD hS ls hl
  subst hlh hDh hnl hstk
  have hP0 := (P_right hP)
  have hD0 := (D_right hD)
  have hF := A_in hD0 hS hA
  refine va_callv (va_runV (cc := cc) (As := As) (rest := st) ⟨hx, hb, hml, hown, hts⟩ (hM hEo' H.size) (cwV As.length hts (cwv_good hw) rfl rfl rfl hw.2.1 (rm_le hR hd1 hw.2.2)) ⟨MPc_blind hEo', va_recv hK hP0 hc he, fun U hU hW => ⟨rfl, by rw [hU], by rw [hU]; exact hP0, va_K.moved hW.alike hK, hD0.weaken (fun _ _ _ _ => trivial), by rw [hU]; exact hEo'.2.2.1 _ s U H hW (hEo'.2.1 _ _ s H (hEo'.1 _ s s.heap H (hek _ _ _ hE) hS.2.1) hF)⟩⟩ rfl rfl hl.1 rfl (lv_room hcat) d ⟨hR.2.2.1, hR.2.2.2⟩) hS (fun q _ h => hF q h) hF (fun u t H1 locs1 ht hvm hw2 hB hz1 hk1 hS1 => ?_)
  obtain ⟨hP1, hK1, hD1⟩ := hB
  subst hw2
  rw [ht] at hP1
  obtain ⟨hP2, hD2⟩ := frame_l hP hD hk1 hP1 hD1 hF
  exact kk H1 locs1 hP2 hD2 hS1 ls hl
end XLAW2
