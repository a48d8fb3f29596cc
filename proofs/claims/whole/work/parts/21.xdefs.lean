noncomputable def j6_bitCount_0f7a4 (l0 : Int32) : Option Int32 :=
  let v9 := (l0 - (((Int32.toUInt32 l0) >>> ((Int32.toUInt32 1) &&& Int32.toUInt32 31)).toInt32 &&& 1431655765))
  let v23 := ((v9 &&& 858993459) + (((Int32.toUInt32 v9) >>> ((Int32.toUInt32 2) &&& Int32.toUInt32 31)).toInt32 &&& 858993459))
  let v33 := ((v23 + ((Int32.toUInt32 v23) >>> ((Int32.toUInt32 4) &&& Int32.toUInt32 31)).toInt32) &&& 252645135)
  let v40 := (v33 + ((Int32.toUInt32 v33) >>> ((Int32.toUInt32 8) &&& Int32.toUInt32 31)).toInt32)
  let v47 := (v40 + ((Int32.toUInt32 v40) >>> ((Int32.toUInt32 16) &&& Int32.toUInt32 31)).toInt32)
  some (v47 &&& 63)
noncomputable def j6_compare_7cf53 (l0 : Int32) (l1 : Int32) : Option Int32 :=
  if l1 ≤ l0 then (if l0 = l1 then (some 0) else (some 1)) else (some (-1))
noncomputable def x0_isAbout (S : ST) (l1 : Int32) (l2 : Int32) (l3 : Int32) : Option (Int32 × ST) :=
  G (inb l1 180) <|
  if (S.2.1 13 (Int32.toNatClampNeg l1)) = l2 then (G (inb l1 180) <|
  if (S.2.1 21 (Int32.toNatClampNeg l1)) = l3 then (some (1, S)) else (some (0, S))) else (some (0, S))
noncomputable def x0_isOfKind (S : ST) (l1 : Int32) (l2 : Int32) (l3 : Int32) : Option (Int32 × ST) :=
  if l1 < 0 then (some (0, S)) else (if l3 ≤ l1 then (some (0, S)) else (if (S.1 11) ≤ l1 then (some (0, S)) else (G (inb l1 180) <|
  if (S.2.1 13 (Int32.toNatClampNeg l1)) = l2 then (some (1, S)) else (some (0, S)))))
noncomputable def x0_laterOf (S : ST) (l1 : Int32) (l2 : Int32) (l3 : Int32) : Option (Int32 × ST) :=
  G (inb l2 180) <|
  if (S.2.1 14 (Int32.toNatClampNeg l2)) ≤ l3 then (if l1 = (-1) then (some (l2, S)) else (G (inb l2 180) <|
  G (inb l1 180) <|
  if (S.2.1 14 (Int32.toNatClampNeg l2)) < (S.2.1 14 (Int32.toNatClampNeg l1)) then (some (l1, S)) else (some (l2, S)))) else (some (l1, S))
noncomputable def x0_linesBeside_j57 (Kb : ST → Int32 → Int32 → Int32 → Int32 → Option (Int32 × ST)) (S : ST) (l1 : Int32) (l2 : Int32) (l3 : Int32) (l4 : Int32) : Option (Int32 × ST) :=
  let v57 := l4 + 1
  Kb S l1 l2 l3 v57
noncomputable def x0_linesBeside_h5 : Nat → ST → Int32 → Int32 → Int32 → Int32 → Option (Int32 × ST)
  | 0, _, _, _, _, _ => none
  | n + 1, S, l1, l2, l3, l4 =>
    if l2 ≤ l4 then (some (l3, S)) else (G (inb l4 180) <|
    if (S.2.1 13 (Int32.toNatClampNeg l4)) = 4 then (G (inb l4 180) <|
    G (inb l1 180) <|
    if (S.2.1 14 (Int32.toNatClampNeg l4)) = (S.2.1 14 (Int32.toNatClampNeg l1)) then (G (inb l4 180) <|
    G (inb l1 180) <|
    if (S.2.1 16 (Int32.toNatClampNeg l4)) = (S.2.1 16 (Int32.toNatClampNeg l1)) then (let v54 := l3 + 1
    x0_linesBeside_j57 (x0_linesBeside_h5 n) S l1 l2 v54 l4) else (x0_linesBeside_j57 (x0_linesBeside_h5 n) S l1 l2 l3 l4)) else (x0_linesBeside_j57 (x0_linesBeside_h5 n) S l1 l2 l3 l4)) else (x0_linesBeside_j57 (x0_linesBeside_h5 n) S l1 l2 l3 l4))
noncomputable def x0_linesBeside (S : ST) (l1 : Int32) (l2 : Int32) : Option (Int32 × ST) :=
  x0_linesBeside_h5 FU S l1 l2 0 0
noncomputable def x0_officeOf_j42 (Kb : ST → Int32 → Int32 → Int32 → Int32 → Option (Int32 × ST)) (S : ST) (l1 : Int32) (l2 : Int32) (l3 : Int32) (l4 : Int32) : Option (Int32 × ST) :=
  let v42 := l4 + 1
  Kb S l1 l2 l3 v42
noncomputable def x0_officeOf_h5 : Nat → ST → Int32 → Int32 → Int32 → Int32 → Option (Int32 × ST)
  | 0, _, _, _, _, _ => none
  | n + 1, S, l1, l2, l3, l4 =>
    if l2 ≤ l4 then (some (l3, S)) else (G (inb l4 180) <|
    if (S.2.1 13 (Int32.toNatClampNeg l4)) = 6 then (G (inb l4 180) <|
    if (S.2.1 20 (Int32.toNatClampNeg l4)) = l1 then (G (inb l4 180) <|
    let v41 := (S.2.1 22 (Int32.toNatClampNeg l4))
    x0_officeOf_j42 (x0_officeOf_h5 n) S l1 l2 v41 l4) else (x0_officeOf_j42 (x0_officeOf_h5 n) S l1 l2 l3 l4)) else (x0_officeOf_j42 (x0_officeOf_h5 n) S l1 l2 l3 l4))
noncomputable def x0_officeOf (S : ST) (l1 : Int32) (l2 : Int32) : Option (Int32 × ST) :=
  x0_officeOf_h5 FU S l1 l2 0 0
noncomputable def x0_paperWord_j73 (Kb : ST → Int32 → Int32 → Int32 → Int32 → Option (Int32 × ST)) (S : ST) (l1 : Int32) (l2 : Int32) (l3 : Int32) (l4 : Int32) : Option (Int32 × ST) :=
  let v73 := l4 + 1
  Kb S l1 l2 l3 v73
noncomputable def x0_paperWord_h5 : Nat → ST → Int32 → Int32 → Int32 → Int32 → Option (Int32 × ST)
  | 0, _, _, _, _, _ => none
  | n + 1, S, l1, l2, l3, l4 =>
    G (inb l1 180) <|
    if (S.2.1 22 (Int32.toNatClampNeg l1)) = 1 then (if l2 ≤ l4 then (some (l3, S)) else (G (inb l4 180) <|
    if (S.2.1 13 (Int32.toNatClampNeg l4)) = 7 then (G (inb l4 180) <|
    G (inb l1 180) <|
    if (S.2.1 18 (Int32.toNatClampNeg l4)) = (S.2.1 18 (Int32.toNatClampNeg l1)) then (G (inb l4 180) <|
    G (inb l1 180) <|
    if (S.2.1 19 (Int32.toNatClampNeg l4)) = (S.2.1 19 (Int32.toNatClampNeg l1)) then (G (inb l4 180) <|
    let v72 := (S.2.1 17 (Int32.toNatClampNeg l4))
    x0_paperWord_j73 (x0_paperWord_h5 n) S l1 l2 v72 l4) else (x0_paperWord_j73 (x0_paperWord_h5 n) S l1 l2 l3 l4)) else (x0_paperWord_j73 (x0_paperWord_h5 n) S l1 l2 l3 l4)) else (x0_paperWord_j73 (x0_paperWord_h5 n) S l1 l2 l3 l4))) else (some (l3, S))
noncomputable def x0_paperWord (S : ST) (l1 : Int32) (l2 : Int32) : Option (Int32 × ST) :=
  x0_paperWord_h5 FU S l1 l2 0 0
noncomputable def x0_setPaper (S : ST) (l1 : Int32) (l2 : Int32) (l3 : Int32) : Option ST :=
  if l1 < 0 then (some S) else (if (S.1 11) ≤ l1 then (some S) else (G (inb l1 180) <|
  let S18 := sA S 18 (upd (S.2.1 18) (Int32.toNatClampNeg l1) l2)
  G (inb l1 180) <|
  let S25 := sA S18 19 (upd (S18.2.1 19) (Int32.toNatClampNeg l1) l3)
  some S25))
noncomputable def x0_standsBehind (S : ST) (l1 : Int32) (l2 : Int32) : Option (Int32 × ST) :=
  G (inb l1 180) <|
  G (inb l2 180) <|
  if (S.2.1 14 (Int32.toNatClampNeg l1)) = (S.2.1 14 (Int32.toNatClampNeg l2)) then (G (inb l1 180) <|
  G (inb l2 180) <|
  if (S.2.1 15 (Int32.toNatClampNeg l1)) ≤ (S.2.1 15 (Int32.toNatClampNeg l2)) then (some (0, S)) else (some (1, S))) else (G (inb l1 180) <|
  G (inb l2 180) <|
  if (S.2.1 14 (Int32.toNatClampNeg l1)) ≤ (S.2.1 14 (Int32.toNatClampNeg l2)) then (some (0, S)) else (some (1, S)))
noncomputable def x0_tell (S : ST) (l1 : Int32) (l2 : Int32) (l3 : Int32) : Option (Int32 × ST) :=
  if (S.1 11) < 180 then (G (inb (S.1 11) 180) <|
  let S21 := sA S 13 (upd (S.2.1 13) (Int32.toNatClampNeg (S.1 11)) l1)
  G (inb (S21.1 11) 180) <|
  let S31 := sA S21 14 (upd (S21.2.1 14) (Int32.toNatClampNeg (S21.1 11)) l2)
  G (inb (S31.1 11) 180) <|
  let S41 := sA S31 17 (upd (S31.2.1 17) (Int32.toNatClampNeg (S31.1 11)) l3)
  let S49 := sI S41 11 ((S41.1 11) + 1)
  some (((S49.1 11) - 1), S49)) else (some ((-1), S))
noncomputable def x10_isDigit (l0 : Int32) : Option Int32 :=
  if l0 < 48 then (some 0) else (if 57 < l0 then (some 0) else (some 1))
noncomputable def x10_isLetter (l0 : Int32) : Option Int32 :=
  if l0 < 97 then (some 0) else (if 122 < l0 then (some 0) else (some 1))
noncomputable def x10_keep (S : ST) (l1 : Int32) (l2 : Int32) : Option (Int32 × ST) :=
  if (S.1 27) < 0 then (some (l2, S)) else (if 401 ≤ (S.1 27) then (some (l2, S)) else (G (inb (S.1 27) 401) <|
  let S28 := sA S 35 (upd (S.2.1 35) (Int32.toNatClampNeg (S.1 27)) l1)
  some (l2, S28)))
noncomputable def x10_packLetter (l0 : Int64) (l2 : Int32) : Option Int64 :=
  some ((l0 * 32) + (Int32.toInt64 ((l2 - 97) + 1)))
noncomputable def x11_back (S : ST) (l1 : Int32) : Option (Int32 × ST) :=
  if l1 < 0 then (some ((-1), S)) else (if l1 ≤ (S.1 1) then (let S27 := sI S 1 ((S.1 1) - l1)
  some ((S27.1 1), S27)) else (some ((-1), S)))
noncomputable def x11_isBelow (l0 : Int32) (l1 : Int32) : Option Int32 :=
  if l0 < 0 then (some 0) else (if l1 ≤ l0 then (some 0) else (some 1))
noncomputable def x11_isKnown (S : ST) (l1 : Int32) : Option (Int32 × ST) :=
  if l1 < 0 then (some (0, S)) else (if (S.1 11) < l1 then (some (0, S)) else (some (1, S)))
noncomputable def x11_isWord (l0 : Int32) : Option Int32 :=
  if l0 < 1 then (some 0) else (if 1000 ≤ l0 then (some 0) else (some 1))
noncomputable def x11_place (S : ST) : Option (Int32 × ST) :=
  some ((S.1 0), S)
noncomputable def x1_entry (S : ST) (l1 : Int32) : Option (Int32 × ST) :=
  if l1 < 0 then (some ((-1), S)) else (if (S.1 19) ≤ l1 then (some ((-1), S)) else (if 180 ≤ l1 then (some ((-1), S)) else (G (inb l1 180) <|
  some ((S.2.1 24 (Int32.toNatClampNeg l1)), S))))
noncomputable def x2_bindsAsTight_j17 (l0 : Int32) (s0 : Int32) : Option Int32 :=
  if l0 = 29 then (some 1) else (if l0 = 30 then (some 1) else (if l0 = 35 then (some 0) else (if s0 = 0 then (some 0) else (some 1))))
noncomputable def x2_bindsAsTight_j12 (l0 : Int32) : Option Int32 :=
  x2_bindsAsTight_j17 l0 1
noncomputable def x2_bindsAsTight (l0 : Int32) (l1 : Int32) : Option Int32 :=
  if l1 = 27 then (x2_bindsAsTight_j12 l0) else (if l1 = 28 then (x2_bindsAsTight_j12 l0) else (x2_bindsAsTight_j17 l0 0))
noncomputable def x2_hold (S : ST) (l1 : Int32) : Option ST :=
  if (S.1 5) < 0 then (some S) else (if 32 ≤ (S.1 5) then (some S) else (G (inb (S.1 5) 32) <|
  let S28 := sA S 12 (upd (S.2.1 12) (Int32.toNatClampNeg (S.1 5)) l1)
  let S36 := sI S28 5 ((S28.1 5) + 1)
  some S36))
noncomputable def x2_moveTo (S : ST) (l1 : Int32) : Option ST :=
  let S2 := sI S 6 l1
  if l1 < 0 then (some S2) else (if (S2.1 27) ≤ l1 then (some S2) else (G (inb l1 401) <|
  let S30 := sI S2 7 (S2.2.1 35 (Int32.toNatClampNeg l1))
  G (inb l1 401) <|
  let S43 := sI S30 8 (S30.2.1 36 (Int32.toNatClampNeg l1))
  G (inb l1 401) <|
  let S56 := sL S43 1 (vp_updL (S43.2.2 1) 0 (S43.2.2 2 (Int32.toNatClampNeg l1)))
  some S56))
noncomputable def x2_refuse (S : ST) (l1 : Int32) : Option ST :=
  if (S.1 9) = 0 then (let S9 := sI S 9 l1
  let S17 := sI S9 10 (S9.1 8)
  some S17) else (some S)
noncomputable def x3_setVariables (S : ST) (l1 : Int32) (l2 : Int32) : Option ST :=
  G (inb 0 12) <|
  let S9 := sA S 23 (upd (S.2.1 23) (Int32.toNatClampNeg 0) (S.1 12))
  G (inb 7 12) <|
  let S17 := sA S9 23 (upd (S9.2.1 23) (Int32.toNatClampNeg 7) l1)
  G (inb 8 12) <|
  let S28 := sA S17 23 (upd (S17.2.1 23) (Int32.toNatClampNeg 8) (S17.1 14))
  G (inb 10 12) <|
  let S36 := sA S28 23 (upd (S28.2.1 23) (Int32.toNatClampNeg 10) l2)
  some S36
noncomputable def x4_calculate_j115 (S : ST) (l4 : Int32) : Option ST :=
  G (inb ((S.1 25) - 1) 32) <|
  let S127 := sA S 34 (upd (S.2.1 34) (Int32.toNatClampNeg ((S.1 25) - 1)) l4)
  some S127
noncomputable def x4_calculate (S : ST) (l1 : Int32) : Option ST :=
  if (S.1 25) < 2 then (some S) else (if (S.1 25) ≤ 32 then (let S28 := sI S 25 ((S.1 25) - 1)
  G (inb ((S28.1 25) - 1) 32) <|
  let v42 := (S28.2.1 34 (Int32.toNatClampNeg ((S28.1 25) - 1)))
  G (inb (S28.1 25) 32) <|
  let v52 := (S28.2.1 34 (Int32.toNatClampNeg (S28.1 25)))
  if l1 = 27 then (let v65 := (v42 + v52)
  x4_calculate_j115 S28 v65) else (if l1 = 28 then (let v79 := (v42 - v52)
  x4_calculate_j115 S28 v79) else (if l1 = 29 then (let v93 := (v42 * v52)
  x4_calculate_j115 S28 v93) else (if v52 = 0 then (G (isB 1) <|
  let S112 := sI S28 26 1
  x4_calculate_j115 S112 0) else (G (decide (¬ v52 = 0)) <|
  let v105 := (v42 / v52)
  x4_calculate_j115 S28 v105))))) else (some S))
noncomputable def x4_push (S : ST) (l1 : Int32) : Option ST :=
  if (S.1 25) < 0 then (some S) else (if 32 ≤ (S.1 25) then (some S) else (G (inb (S.1 25) 32) <|
  let S28 := sA S 34 (upd (S.2.1 34) (Int32.toNatClampNeg (S.1 25)) l1)
  let S36 := sI S28 25 ((S28.1 25) + 1)
  some S36))
noncomputable def x4_result (S : ST) : Option (Int32 × ST) :=
  if (S.1 25) = 1 then (if (S.1 26) = 0 then (G (inb 0 32) <|
  some ((S.2.1 34 (Int32.toNatClampNeg 0)), S)) else (some (0, S))) else (some (0, S))
noncomputable def x6_setReporter (S : ST) (l1 : Int32) (l2 : Int32) (l3 : Int32) : Option ST :=
  if l1 < 0 then (some S) else (if 4 ≤ l1 then (some S) else (G (inb l1 4) <|
  let S15 := sA S 29 (upd (S.2.1 29) (Int32.toNatClampNeg l1) l2)
  G (inb l1 4) <|
  let S22 := sA S15 30 (upd (S15.2.1 30) (Int32.toNatClampNeg l1) l3)
  some S22))
noncomputable def x6_taker (S : ST) (l1 : Int32) : Option (Int32 × ST) :=
  if l1 < 0 then (some ((-1), S)) else (if (S.1 24) ≤ l1 then (some ((-1), S)) else (if 8 ≤ l1 then (some ((-1), S)) else (G (inb l1 8) <|
  some ((S.2.1 33 (Int32.toNatClampNeg l1)), S))))
noncomputable def x7_beginCondition (S : ST) : Option ST :=
  if (S.1 3) < 0 then (some S) else (if 144 ≤ (S.1 3) then (some S) else (G (inb (S.1 3) 144) <|
  let S29 := sA S 6 (upd (S.2.1 6) (Int32.toNatClampNeg (S.1 3)) (S.1 2))
  some S29))
noncomputable def x7_closeRule (S : ST) : Option ST :=
  if (S.1 3) < 0 then (some S) else (if 144 ≤ (S.1 3) then (some S) else (G (inb (S.1 3) 144) <|
  let S29 := sA S 7 (upd (S.2.1 7) (Int32.toNatClampNeg (S.1 3)) (S.1 2))
  let S37 := sI S29 3 ((S29.1 3) + 1)
  some S37))
noncomputable def x7_emit (S : ST) (l1 : Int32) : Option ST :=
  if (S.1 2) < 0 then (some S) else (if 2400 ≤ (S.1 2) then (some S) else (G (inb (S.1 2) 2400) <|
  let S26 := sA S 1 (upd (S.2.1 1) (Int32.toNatClampNeg (S.1 2)) l1)
  let S34 := sI S26 2 ((S26.1 2) + 1)
  some S34))
noncomputable def x7_levelOn_j25 (Kb : ST → Int32 → Int32 → Int32 → Option (Int32 × ST)) (S : ST) (l1 : Int32) (l2 : Int32) (l3 : Int32) : Option (Int32 × ST) :=
  let v25 := l3 + 1
  Kb S l1 l2 v25
noncomputable def x7_levelOn_h4 : Nat → ST → Int32 → Int32 → Int32 → Option (Int32 × ST)
  | 0, _, _, _, _ => none
  | n + 1, S, l1, l2, l3 =>
    if (S.1 4) ≤ l3 then (some (l2, S)) else (G (inb l3 6) <|
    if l1 < (S.2.1 8 (Int32.toNatClampNeg l3)) then (x7_levelOn_j25 (x7_levelOn_h4 n) S l1 l2 l3) else (let v22 := l2 + 1
    x7_levelOn_j25 (x7_levelOn_h4 n) S l1 v22 l3))
noncomputable def x7_levelOn (S : ST) (l1 : Int32) : Option (Int32 × ST) :=
  x7_levelOn_h4 FU S l1 0 0
noncomputable def x7_namedInForce_h3 : Nat → ST → Int32 → Int64 → Int32 → Option (Int32 × ST)
  | 0, _, _, _, _ => none
  | n + 1, S, l1, l2, l4 =>
    G (inb l1 7) <|
    if (S.2.1 11 (Int32.toNatClampNeg l1)) ≤ l4 then (some ((-1), S)) else (G (inb ((l1 * 144) + l4) 1008) <|
    G (inb (S.2.1 10 (Int32.toNatClampNeg ((l1 * 144) + l4))) 144) <|
    if (lg_cmp (S.2.2 0 (Int32.toNatClampNeg (S.2.1 10 (Int32.toNatClampNeg ((l1 * 144) + l4))))) l2) = 0 then (some (l4, S)) else (let v40 := l4 + 1
    (x7_namedInForce_h3 n) S l1 l2 v40))
noncomputable def x7_namedInForce (S : ST) (l1 : Int32) (l2 : Int64) : Option (Int32 × ST) :=
  x7_namedInForce_h3 FU S l1 l2 0
noncomputable def x7_openRule (S : ST) (l1 : Int32) (l2 : Int64) (l4 : Int32) : Option ST :=
  if (S.1 3) < 0 then (some S) else (if (S.1 3) < 144 then (G (inb (S.1 3) 144) <|
  let S27 := sA S 2 (upd (S.2.1 2) (Int32.toNatClampNeg (S.1 3)) l1)
  G (inb (S27.1 3) 144) <|
  let S37 := sL S27 0 (vp_updL (S27.2.2 0) (Int32.toNatClampNeg (S27.1 3)) l2)
  G (inb (S37.1 3) 144) <|
  let S50 := sA S37 3 (upd (S37.2.1 3) (Int32.toNatClampNeg (S37.1 3)) (S37.1 4))
  G (inb (S50.1 3) 144) <|
  let S61 := sA S50 4 (upd (S50.2.1 4) (Int32.toNatClampNeg (S50.1 3)) l4)
  G (inb (S61.1 3) 144) <|
  let S74 := sA S61 5 (upd (S61.2.1 5) (Int32.toNatClampNeg (S61.1 3)) (S61.1 2))
  G (inb (S74.1 3) 144) <|
  let S87 := sA S74 6 (upd (S74.2.1 6) (Int32.toNatClampNeg (S74.1 3)) (S74.1 2))
  some S87) else (some S))
noncomputable def x7_openText_j32 (S : ST) (s0 : Int32) : Option ST :=
  let S32 := sI S 3 s0
  if (S32.1 3) ≤ 0 then (let S68 := sI S32 2 0
  some S68) else (if 144 < (S32.1 3) then (let S68 := sI S32 2 0
  some S68) else (G (inb ((S32.1 3) - 1) 144) <|
  let S68 := sI S32 2 (S32.2.1 7 (Int32.toNatClampNeg ((S32.1 3) - 1)))
  some S68))
noncomputable def x7_openText_j31 (S : ST) : Option ST :=
  x7_openText_j32 S 0
noncomputable def x7_openText (S : ST) : Option ST :=
  if (S.1 4) ≤ 0 then (x7_openText_j31 S) else (if 6 < (S.1 4) then (x7_openText_j31 S) else (G (inb ((S.1 4) - 1) 6) <|
  x7_openText_j32 S ((S.2.1 9 (Int32.toNatClampNeg ((S.1 4) - 1))))))
noncomputable def x7_takeAway_h25 : Nat → ST → Int32 → Int32 → Int32 → Option ST
  | 0, _, _, _, _ => none
  | n + 1, S, l1, l3, l4 =>
    G (inb l1 7) <|
    if (S.2.1 11 (Int32.toNatClampNeg l1)) ≤ l4 then (some S) else (G (inb ((l3 + l4) + 1) 1008) <|
    G (inb (l3 + l4) 1008) <|
    let S55 := sA S 10 (upd (S.2.1 10) (Int32.toNatClampNeg (l3 + l4)) (S.2.1 10 (Int32.toNatClampNeg ((l3 + l4) + 1))))
    let v56 := l4 + 1
    (x7_takeAway_h25 n) S55 l1 l3 v56)
noncomputable def x7_takeAway (S : ST) (l1 : Int32) (l2 : Int32) : Option ST :=
  if l2 = (-1) then (some S) else (let v11 := (l1 * 144)
  G (inb l1 7) <|
  G (inb l1 7) <|
  let S21 := sA S 11 (upd (S.2.1 11) (Int32.toNatClampNeg l1) ((S.2.1 11 (Int32.toNatClampNeg l1)) - 1))
  x7_takeAway_h25 FU S21 l1 v11 l2)
noncomputable def x8_empty_h2 : Nat → ST → Int32 → Option ST
  | 0, _, _ => none
  | n + 1, S, l1 =>
    if 3 ≤ l1 then (some S) else (G (inb l1 3) <|
    let S13 := sA S 27 (upd (S.2.1 27) (Int32.toNatClampNeg l1) 0)
    let v14 := l1 + 1
    (x8_empty_h2 n) S13 v14)
noncomputable def x8_empty (S : ST) : Option ST :=
  x8_empty_h2 FU S 0
noncomputable def x8_lengthOf (S : ST) (l1 : Int32) : Option (Int32 × ST) :=
  if l1 < 0 then (some ((-1), S)) else (if 3 ≤ l1 then (some ((-1), S)) else (G (inb l1 3) <|
  some ((S.2.1 27 (Int32.toNatClampNeg l1)), S)))
noncomputable def x9_append_j40 (Kb : ST → Int32 → Int32 → Option ST) (S : ST) (l1 : Int32) (l2 : Int32) : Option ST :=
  let v40 := l2 + (-8)
  Kb S l1 v40
noncomputable def x9_append_h3 : Nat → ST → Int32 → Int32 → Option ST
  | 0, _, _, _ => none
  | n + 1, S, l1, l2 =>
    if l2 < 0 then (some S) else (if 2000 ≤ (S.1 1) then (x9_append_j40 (x9_append_h3 n) S l1 l2) else (G (inb (S.1 1) 2000) <|
    let S29 := sA S 0 (upd (S.2.1 0) (Int32.toNatClampNeg (S.1 1)) (vp_nar .byte (Int8.toInt32 (Int32.toInt8 ((Int32.toUInt32 l1) >>> ((Int32.toUInt32 l2) &&& Int32.toUInt32 31)).toInt32))))
    let S37 := sI S29 1 ((S29.1 1) + 1)
    x9_append_j40 (x9_append_h3 n) S37 l1 l2))
noncomputable def x9_append (S : ST) (l1 : Int32) : Option ST :=
  x9_append_h3 FU S l1 24
noncomputable def x9_byteAt (S : ST) (l1 : Int32) : Option (Int32 × ST) :=
  if l1 < 0 then (some ((-1), S)) else (if (S.1 1) ≤ l1 then (some ((-1), S)) else (if 2000 ≤ l1 then (some ((-1), S)) else (G (inb l1 2000) <|
  some (((S.2.1 0 (Int32.toNatClampNeg l1)) &&& 255), S))))
noncomputable def x9_hasRoom (S : ST) : Option (Int32 × ST) :=
  if 1980 < (S.1 1) then (some (0, S)) else (some (1, S))
noncomputable def x9_isBlank (l0 : Int32) : Option Int32 :=
  if l0 = 9 then (some 1) else (if l0 = 10 then (some 1) else (if l0 = 13 then (some 1) else (if l0 = 32 then (some 1) else (some 0))))
noncomputable def x0_heardWord_j32 (Kb : ST → Int32 → Int32 → Int32 → Int32 → Option (Int32 × ST)) (S : ST) (l1 : Int32) (l2 : Int32) (l3 : Int32) (l4 : Int32) : Option (Int32 × ST) :=
  let v32 := l4 + 1
  Kb S l1 l2 l3 v32
noncomputable def x0_heardWord_h7 : Nat → ST → Int32 → Int32 → Int32 → Int32 → Option (Int32 × ST)
  | 0, _, _, _, _, _ => none
  | n + 1, S, l1, l2, l3, l4 =>
    if l2 ≤ l4 then (some (l3, S)) else (cal (x0_isAbout S l4 1 l1) fun r18 S18 =>
    if r18 = 0 then (x0_heardWord_j32 (x0_heardWord_h7 n) S18 l1 l2 l3 l4) else (G (inb l4 180) <|
    let v31 := (S18.2.1 17 (Int32.toNatClampNeg l4))
    x0_heardWord_j32 (x0_heardWord_h7 n) S18 l1 l2 v31 l4))
noncomputable def x0_heardWord (S : ST) (l1 : Int32) (l2 : Int32) : Option (Int32 × ST) :=
  let v5 := (l1 + 1)
  x0_heardWord_h7 FU S l1 l2 0 v5
noncomputable def x0_isMendBy (S : ST) (l1 : Int32) (l2 : Int32) (l3 : Int32) : Option (Int32 × ST) :=
  cal (x0_isAbout S l1 0 l2) fun r4 S4 =>
  if r4 = 0 then (some (0, S4)) else (G (inb l1 180) <|
  if l3 < (S4.2.1 14 (Int32.toNatClampNeg l1)) then (some (0, S4)) else (some (1, S4)))
noncomputable def x0_isStruckBy_j35 (Kb : ST → Int32 → Int32 → Int32 → Int32 → Option (Int32 × ST)) (S : ST) (l1 : Int32) (l2 : Int32) (l3 : Int32) (l4 : Int32) : Option (Int32 × ST) :=
  let v35 := l4 + 1
  Kb S l1 l2 l3 v35
noncomputable def x0_isStruckBy_h5 : Nat → ST → Int32 → Int32 → Int32 → Int32 → Option (Int32 × ST)
  | 0, _, _, _, _, _ => none
  | n + 1, S, l1, l2, l3, l4 =>
    if l3 ≤ l4 then (some (0, S)) else (cal (x0_isAbout S l4 2 l1) fun r16 S16 =>
    if r16 = 0 then (x0_isStruckBy_j35 (x0_isStruckBy_h5 n) S16 l1 l2 l3 l4) else (G (inb l4 180) <|
    if l2 < (S16.2.1 14 (Int32.toNatClampNeg l4)) then (x0_isStruckBy_j35 (x0_isStruckBy_h5 n) S16 l1 l2 l3 l4) else (some (1, S16))))
noncomputable def x0_isStruckBy (S : ST) (l1 : Int32) (l2 : Int32) (l3 : Int32) : Option (Int32 × ST) :=
  let v3 := (l1 + 1)
  x0_isStruckBy_h5 FU S l1 l2 l3 v3
noncomputable def x0_lastTurnOfDivision_j133 (Kb : ST → Int32 → Int32 → Int32 → Int32 → Int32 → Int32 → Int32 → Option (Int32 × ST)) (S : ST) (l1 : Int32) (l2 : Int32) (l3 : Int32) (l4 : Int32) (l5 : Int32) (l6 : Int32) (l7 : Int32) : Option (Int32 × ST) :=
  let v133 := l7 + 1
  Kb S l1 l2 l3 l4 l5 l6 v133
noncomputable def x0_lastTurnOfDivision_j127 (Kb : ST → Int32 → Int32 → Int32 → Int32 → Int32 → Int32 → Int32 → Option (Int32 × ST)) (S : ST) (l1 : Int32) (l2 : Int32) (l3 : Int32) (l4 : Int32) (l7 : Int32) (l9 : Int32) (s0 : Int32) : Option (Int32 × ST) :=
  x0_lastTurnOfDivision_j133 Kb S l1 l2 l3 l4 s0 l9 l7
noncomputable def x0_lastTurnOfDivision_j111 (Kb : ST → Int32 → Int32 → Int32 → Int32 → Int32 → Int32 → Int32 → Option (Int32 × ST)) (S : ST) (l1 : Int32) (l2 : Int32) (l3 : Int32) (l4 : Int32) (l5 : Int32) (l6 : Int32) (l7 : Int32) (s0 : Int32) : Option (Int32 × ST) :=
  if s0 = l6 then (x0_lastTurnOfDivision_j127 Kb S l1 l2 l3 l4 l7 s0 l5) else (x0_lastTurnOfDivision_j127 Kb S l1 l2 l3 l4 l7 s0 l7)
noncomputable def x0_lastTurnOfDivision_j82 (Kb : ST → Int32 → Int32 → Int32 → Int32 → Int32 → Int32 → Int32 → Option (Int32 × ST)) (S : ST) (l1 : Int32) (l2 : Int32) (l3 : Int32) (l5 : Int32) (l6 : Int32) (l7 : Int32) (s0 : Int32) (s1 : Int32) : Option (Int32 × ST) :=
  let v83 := (s1 ||| s0)
  cal0 (j6_bitCount_0f7a4 ((l3 &&& (v83 ^^^ (-1))))) fun r91 =>
  cal0 (j6_bitCount_0f7a4 ((v83 &&& (l3 ^^^ (-1))))) fun r100 =>
  if r91 ≤ r100 then (x0_lastTurnOfDivision_j111 Kb S l1 l2 l3 v83 l5 l6 l7 0) else (x0_lastTurnOfDivision_j111 Kb S l1 l2 l3 v83 l5 l6 l7 1)
noncomputable def x0_lastTurnOfDivision_j61 (Kb : ST → Int32 → Int32 → Int32 → Int32 → Int32 → Int32 → Int32 → Option (Int32 × ST)) (S : ST) (l1 : Int32) (l2 : Int32) (l4 : Int32) (l5 : Int32) (l6 : Int32) (l7 : Int32) (l8 : Int32) (s0 : Int32) (s1 : Int32) : Option (Int32 × ST) :=
  let v62 := (s1 ||| s0)
  G (inb l7 180) <|
  if (S.2.1 22 (Int32.toNatClampNeg l7)) = 1 then (x0_lastTurnOfDivision_j82 Kb S l1 l2 v62 l5 l6 l7 l8 l4) else (x0_lastTurnOfDivision_j82 Kb S l1 l2 v62 l5 l6 l7 0 l4)
noncomputable def x0_lastTurnOfDivision_h15 : Nat → ST → Int32 → Int32 → Int32 → Int32 → Int32 → Int32 → Int32 → Option (Int32 × ST)
  | 0, _, _, _, _, _, _, _, _ => none
  | n + 1, S, l1, l2, l3, l4, l5, l6, l7 =>
    if l2 ≤ l7 then (some (l5, S)) else (cal (x0_isAbout S l7 9 l1) fun r27 S27 =>
    if r27 = 0 then (x0_lastTurnOfDivision_j133 (x0_lastTurnOfDivision_h15 n) S27 l1 l2 l3 l4 l5 l6 l7) else (G (inb l7 180) <|
    let v42 := (1 <<< ((S27.2.1 20 (Int32.toNatClampNeg l7)) &&& 31))
    G (inb l7 180) <|
    if (S27.2.1 22 (Int32.toNatClampNeg l7)) = 0 then (x0_lastTurnOfDivision_j61 (x0_lastTurnOfDivision_h15 n) S27 l1 l2 l4 l5 l6 l7 v42 v42 l3) else (x0_lastTurnOfDivision_j61 (x0_lastTurnOfDivision_h15 n) S27 l1 l2 l4 l5 l6 l7 v42 0 l3)))
noncomputable def x0_lastTurnOfDivision (S : ST) (l1 : Int32) (l2 : Int32) : Option (Int32 × ST) :=
  x0_lastTurnOfDivision_h15 FU S l1 l2 0 0 (-2) 0 0
noncomputable def x0_sitter_j121 (S : ST) (l1 : Int32) (l5 : Int32) (l6 : Int32) : Option (Int32 × ST) :=
  if l6 = (-1) then (some ((-2), S)) else (G (inb l6 180) <|
  if (S.2.1 16 (Int32.toNatClampNeg l6)) = l1 then (some (l5, S)) else (some ((-2), S)))
noncomputable def x0_sitter_j115 (Kb : ST → Int32 → Int32 → Int32 → Int32 → Int32 → Int32 → Option (Int32 × ST)) (K121 : ST → Int32 → Int32 → Int32 → Option (Int32 × ST)) (S : ST) (l1 : Int32) (l2 : Int32) (l3 : Int32) (l5 : Int32) (l6 : Int32) (l7 : Int32) : Option (Int32 × ST) :=
  let v115 := l7 + 1
  Kb S l1 l2 l3 l5 l6 v115
noncomputable def x0_sitter_h75 (K121 : ST → Int32 → Int32 → Int32 → Option (Int32 × ST)) : Nat → ST → Int32 → Int32 → Int32 → Int32 → Int32 → Int32 → Option (Int32 × ST)
  | 0, _, _, _, _, _, _, _ => none
  | n + 1, S, l1, l2, l3, l5, l6, l7 =>
    if l3 ≤ l7 then (K121 S l1 l5 l6) else (G (inb l7 180) <|
    if (S.2.1 13 (Int32.toNatClampNeg l7)) = 5 then (G (inb l7 180) <|
    if (S.2.1 20 (Int32.toNatClampNeg l7)) = l5 then (cal (x0_laterOf S l6 l7 l2) fun r110 S110 =>
    x0_sitter_j115 (x0_sitter_h75 K121 n) K121 S110 l1 l2 l3 l5 r110 l7) else (x0_sitter_j115 (x0_sitter_h75 K121 n) K121 S l1 l2 l3 l5 l6 l7)) else (x0_sitter_j115 (x0_sitter_h75 K121 n) K121 S l1 l2 l3 l5 l6 l7))
noncomputable def x0_sitter_j51 (S : ST) (l1 : Int32) (l2 : Int32) (l3 : Int32) (l4 : Int32) : Option (Int32 × ST) :=
  if l4 = (-1) then (some ((-2), S)) else (G (inb l4 180) <|
  let v67 := (S.2.1 20 (Int32.toNatClampNeg l4))
  x0_sitter_h75 (x0_sitter_j121) FU S l1 l2 l3 v67 (-1) 0)
noncomputable def x0_sitter_j45 (Kb : ST → Int32 → Int32 → Int32 → Int32 → Int32 → Option (Int32 × ST)) (K51 : ST → Int32 → Int32 → Int32 → Int32 → Option (Int32 × ST)) (S : ST) (l1 : Int32) (l2 : Int32) (l3 : Int32) (l4 : Int32) (l5 : Int32) : Option (Int32 × ST) :=
  let v45 := l5 + 1
  Kb S l1 l2 l3 l4 v45
noncomputable def x0_sitter_h6 (K51 : ST → Int32 → Int32 → Int32 → Int32 → Option (Int32 × ST)) : Nat → ST → Int32 → Int32 → Int32 → Int32 → Int32 → Option (Int32 × ST)
  | 0, _, _, _, _, _, _ => none
  | n + 1, S, l1, l2, l3, l4, l5 =>
    if l3 ≤ l5 then (K51 S l1 l2 l3 l4) else (G (inb l5 180) <|
    if (S.2.1 13 (Int32.toNatClampNeg l5)) = 5 then (G (inb l5 180) <|
    if (S.2.1 16 (Int32.toNatClampNeg l5)) = l1 then (cal (x0_laterOf S l4 l5 l2) fun r40 S40 =>
    x0_sitter_j45 (x0_sitter_h6 K51 n) K51 S40 l1 l2 l3 r40 l5) else (x0_sitter_j45 (x0_sitter_h6 K51 n) K51 S l1 l2 l3 l4 l5)) else (x0_sitter_j45 (x0_sitter_h6 K51 n) K51 S l1 l2 l3 l4 l5))
noncomputable def x0_sitter (S : ST) (l1 : Int32) (l2 : Int32) (l3 : Int32) : Option (Int32 × ST) :=
  x0_sitter_h6 (x0_sitter_j51) FU S l1 l2 l3 (-1) 0
noncomputable def x0_voters_j49 (Kb : ST → Int32 → Int32 → Int32 → Int32 → Int32 → Option (Int32 × ST)) (S : ST) (l1 : Int32) (l2 : Int32) (l3 : Int32) (l4 : Int32) (l5 : Int32) : Option (Int32 × ST) :=
  let v49 := l5 + 1
  Kb S l1 l2 l3 l4 v49
noncomputable def x0_voters_h6 : Nat → ST → Int32 → Int32 → Int32 → Int32 → Int32 → Option (Int32 × ST)
  | 0, _, _, _, _, _, _ => none
  | n + 1, S, l1, l2, l3, l4, l5 =>
    if l3 ≤ l5 then (some (l4, S)) else (cal (x0_isAbout S l5 9 l1) fun r18 S18 =>
    if r18 = 0 then (x0_voters_j49 (x0_voters_h6 n) S18 l1 l2 l3 l4 l5) else (G (inb l5 180) <|
    if (S18.2.1 22 (Int32.toNatClampNeg l5)) = l2 then (G (inb l5 180) <|
    let v47 := (l4 ||| (1 <<< ((S18.2.1 20 (Int32.toNatClampNeg l5)) &&& 31)))
    x0_voters_j49 (x0_voters_h6 n) S18 l1 l2 l3 v47 l5) else (x0_voters_j49 (x0_voters_h6 n) S18 l1 l2 l3 l4 l5)))
noncomputable def x0_voters (S : ST) (l1 : Int32) (l2 : Int32) (l3 : Int32) : Option (Int32 × ST) :=
  x0_voters_h6 FU S l1 l2 l3 0 0
noncomputable def x10_cutDigits_j55 (S : ST) (l2 : Int32) (l3 : Int32) (l4 : Int32) : Option (Int32 × ST) :=
  if (l4 - l2) ≤ 4 then (G (inb (S.1 27) 401) <|
  let S82 := sL S 2 (vp_updL (S.2.2 2) (Int32.toNatClampNeg (S.1 27)) (Int32.toInt64 l3))
  cal (x10_keep S82 25 l4) fun r88 S88 =>
  some (r88, S88)) else (cal (x10_keep S 38 l4) fun r68 S68 =>
  some (r68, S68))
noncomputable def x10_cutDigits_j49 (Kb : ST → Int32 → Int32 → Int32 → Option (Int32 × ST)) (K55 : ST → Int32 → Int32 → Int32 → Option (Int32 × ST)) (S : ST) (l2 : Int32) (l3 : Int32) (l4 : Int32) : Option (Int32 × ST) :=
  let v49 := l4 + 1
  Kb S l2 l3 v49
noncomputable def x10_cutDigits_h5 (K55 : ST → Int32 → Int32 → Int32 → Option (Int32 × ST)) : Nat → ST → Int32 → Int32 → Int32 → Option (Int32 × ST)
  | 0, _, _, _, _ => none
  | n + 1, S, l2, l3, l4 =>
    if (S.1 1) ≤ l4 then (K55 S l2 l3 l4) else (cal (x9_byteAt S l4) fun r17 S17 =>
    cal0 (x10_isDigit r17) fun r20 =>
    if r20 = 0 then (K55 S17 l2 l3 l4) else (if 4 ≤ (l4 - l2) then (x10_cutDigits_j49 (x10_cutDigits_h5 K55 n) K55 S17 l2 l3 l4) else (cal (x9_byteAt S17 l4) fun r41 S41 =>
    let v48 := (((l3 * 10) + r41) - 48)
    x10_cutDigits_j49 (x10_cutDigits_h5 K55 n) K55 S41 l2 v48 l4)))
noncomputable def x10_cutDigits (S : ST) (l2 : Int32) : Option (Int32 × ST) :=
  x10_cutDigits_h5 (x10_cutDigits_j55) FU S l2 0 l2
noncomputable def x10_cutSign (S : ST) (l1 : Int32) (l2 : Int32) (l3 : Int32) : Option (Int32 × ST) :=
  if l1 = 33 then (if l2 = 0 then (cal (x10_keep S 38 ((l3 + 2))) fun r262 S262 =>
  some (r262, S262)) else (cal (x10_keep S 32 ((l3 + 2))) fun r262 S262 =>
  some (r262, S262))) else (if l1 = 40 then (cal (x10_keep S 35 ((l3 + 1))) fun r188 S188 =>
  some (r188, S188)) else (if l1 = 41 then (cal (x10_keep S 36 ((l3 + 1))) fun r198 S198 =>
  some (r198, S198)) else (if l1 = 42 then (cal (x10_keep S 29 ((l3 + 1))) fun r168 S168 =>
  some (r168, S168)) else (if l1 = 43 then (cal (x10_keep S 27 ((l3 + 1))) fun r148 S148 =>
  some (r148, S148)) else (if l1 = 45 then (cal (x10_keep S 28 ((l3 + 1))) fun r158 S158 =>
  some (r158, S158)) else (if l1 = 47 then (cal (x10_keep S 30 ((l3 + 1))) fun r178 S178 =>
  some (r178, S178)) else (if l1 = 59 then (cal (x10_keep S 26 ((l3 + 1))) fun r138 S138 =>
  some (r138, S138)) else (if l1 = 60 then (if l2 = 0 then (cal (x10_keep S 33 ((l3 + 1))) fun r224 S224 =>
  some (r224, S224)) else (cal (x10_keep S 34 ((l3 + 2))) fun r212 S212 =>
  some (r212, S212))) else (if l1 = 61 then (if l2 = 0 then (cal (x10_keep S 38 ((l3 + 2))) fun r243 S243 =>
  some (r243, S243)) else (cal (x10_keep S 31 ((l3 + 2))) fun r243 S243 =>
  some (r243, S243))) else (cal (x10_keep S 38 ((l3 + 1))) fun r272 S272 =>
  some (r272, S272)))))))))))
noncomputable def x11_clear (S : ST) : Option ST :=
  calV (x8_empty S) fun S4 =>
  some S4
noncomputable def x11_count (S : ST) (l1 : Int32) : Option (Int32 × ST) :=
  if l1 = 0 then (some ((S.1 11), S)) else (if l1 = 1 then (some ((S.1 4), S)) else (if l1 = 2 then (some ((S.1 1), S)) else (if l1 = 3 then (cal (x8_lengthOf S ((l1 - 3))) fun r71 S71 =>
  some (r71, S71)) else (if l1 = 4 then (cal (x8_lengthOf S ((l1 - 3))) fun r71 S71 =>
  some (r71, S71)) else (if l1 = 5 then (cal (x8_lengthOf S ((l1 - 3))) fun r71 S71 =>
  some (r71, S71)) else (some ((-1), S)))))))
noncomputable def x11_fact_j108 (S : ST) (l1 : Int32) (l2 : Int32) (l3 : Int32) (l4 : Int32) : Option (Int32 × ST) :=
  cal (x0_tell S l1 l4 l3) fun r116 S116 =>
  if r116 = (-1) then (some (r116, S116)) else (G (inb r116 180) <|
  let S137 := sA S116 21 (upd (S116.2.1 21) (Int32.toNatClampNeg r116) l2)
  some (r116, S137))
noncomputable def x11_fact_j87 (S : ST) (l1 : Int32) (l2 : Int32) (l3 : Int32) (l4 : Int32) : Option (Int32 × ST) :=
  if l1 = 3 then (G (inb l2 180) <|
  if (S.2.1 14 (Int32.toNatClampNeg l2)) ≤ l4 then (x11_fact_j108 S l1 l2 l3 l4) else (some ((-1), S))) else (x11_fact_j108 S l1 l2 l3 l4)
noncomputable def x11_fact_j70 (S : ST) (l1 : Int32) (l2 : Int32) (l3 : Int32) (l4 : Int32) (l6 : Int32) : Option (Int32 × ST) :=
  if l6 = 0 then (x11_fact_j87 S l1 l2 l3 l4) else (cal0 (x11_isBelow l4 100) fun r79 =>
  if r79 = 0 then (some ((-1), S)) else (x11_fact_j87 S l1 l2 l3 l4))
noncomputable def x11_fact_j56 (S : ST) (l1 : Int32) (l2 : Int32) (l3 : Int32) (l4 : Int32) (l5 : Int32) (s0 : Int32) : Option (Int32 × ST) :=
  if l5 = 0 then (x11_fact_j70 S l1 l2 l3 l4 s0) else (cal0 (x11_isWord l3) fun r64 =>
  if r64 = 0 then (some ((-1), S)) else (x11_fact_j70 S l1 l2 l3 l4 s0))
noncomputable def x11_fact_j44 (S : ST) (l1 : Int32) (l2 : Int32) (l3 : Int32) (l4 : Int32) (s0 : Int32) : Option (Int32 × ST) :=
  if l1 = 1 then (x11_fact_j56 S l1 l2 l3 l4 s0 0) else (x11_fact_j56 S l1 l2 l3 l4 s0 1)
noncomputable def x11_fact_j39 (S : ST) (l1 : Int32) (l2 : Int32) (l3 : Int32) (l4 : Int32) : Option (Int32 × ST) :=
  x11_fact_j44 S l1 l2 l3 l4 1
noncomputable def x11_fact (S : ST) (l1 : Int32) (l2 : Int32) (l3 : Int32) (l4 : Int32) : Option (Int32 × ST) :=
  if l1 < 0 then (some ((-1), S)) else (if 3 < l1 then (some ((-1), S)) else (cal (x0_isOfKind S l2 4 ((S.1 11))) fun r22 S22 =>
  if r22 = 0 then (some ((-1), S22)) else (if l1 = 0 then (x11_fact_j39 S22 l1 l2 l3 l4) else (if l1 = 1 then (x11_fact_j39 S22 l1 l2 l3 l4) else (x11_fact_j44 S22 l1 l2 l3 l4 0)))))
noncomputable def x11_feed (S : ST) (l1 : Int32) (l2 : Int32) (l3 : Int32) (l4 : Int32) (l5 : Int32) : Option (Int32 × ST) :=
  cal (x9_hasRoom S) fun r4 S4 =>
  if r4 = 0 then (some ((-1), S4)) else (calV (x9_append S4 l1) fun S17 =>
  calV (x9_append S17 l2) fun S25 =>
  calV (x9_append S25 l3) fun S33 =>
  calV (x9_append S33 l4) fun S42 =>
  calV (x9_append S42 l5) fun S51 =>
  some ((S51.1 1), S51))
noncomputable def x11_isPrint (S : ST) (l1 : Int32) (l2 : Int32) (l3 : Int32) : Option (Int32 × ST) :=
  cal0 (x11_isBelow l1 100) fun r3 =>
  if r3 = 0 then (some (0, S)) else (cal0 (x11_isBelow l2 100) fun r12 =>
  if r12 = 0 then (some (0, S)) else (if l2 < l1 then (some (0, S)) else (cal (x11_isKnown S l3) fun r25 S25 =>
  if r25 = 0 then (some (0, S25)) else (some (1, S25)))))
noncomputable def x11_office (S : ST) (l1 : Int32) (l2 : Int32) : Option (Int32 × ST) :=
  cal0 (x11_isBelow l1 8) fun r3 =>
  if r3 = 0 then (some ((-1), S)) else (cal0 (x11_isBelow l2 10) fun r12 =>
  if r12 = 0 then (some ((-1), S)) else (cal (x0_tell S 6 0 0) fun r28 S28 =>
  if r28 = (-1) then (some (r28, S28)) else (G (inb r28 180) <|
  let S46 := sA S28 20 (upd (S28.2.1 20) (Int32.toNatClampNeg r28) l1)
  G (inb r28 180) <|
  let S56 := sA S46 22 (upd (S46.2.1 22) (Int32.toNatClampNeg r28) l2)
  some (r28, S56))))
noncomputable def x11_paper (S : ST) (l1 : Int32) (l2 : Int32) (l3 : Int32) : Option (Int32 × ST) :=
  cal0 (x11_isBelow l1 4) fun r2 =>
  if r2 = 0 then (some ((-1), S)) else (cal0 (x11_isBelow l2 10) fun r11 =>
  if r11 = 0 then (some ((-1), S)) else (cal0 (x11_isBelow l3 1000) fun r21 =>
  if r21 = 0 then (some ((-1), S)) else (cal (x0_tell S 7 0 l3) fun r37 S37 =>
  if r37 = (-1) then (some (r37, S37)) else (calV (x0_setPaper S37 r37 l1 l2) fun S56 =>
  some (r37, S56)))))
noncomputable def x11_rename (S : ST) (l1 : Int32) (l2 : Int32) (l3 : Int32) : Option (Int32 × ST) :=
  cal0 (x11_isWord l1) fun r1 =>
  if r1 = 0 then (some ((-1), S)) else (cal0 (x11_isWord l2) fun r8 =>
  if r8 = 0 then (some ((-1), S)) else (if l1 = l2 then (some ((-1), S)) else (cal0 (x11_isBelow l3 100) fun r22 =>
  if r22 = 0 then (some ((-1), S)) else (cal (x0_tell S 8 l3 l1) fun r38 S38 =>
  if r38 = (-1) then (some (r38, S38)) else (G (inb r38 180) <|
  let S59 := sA S38 22 (upd (S38.2.1 22) (Int32.toNatClampNeg r38) l2)
  some (r38, S59))))))
noncomputable def x11_reporter (S : ST) (l1 : Int32) (l2 : Int32) (l3 : Int32) : Option (Int32 × ST) :=
  cal0 (x11_isBelow l1 4) fun r2 =>
  if r2 = 0 then (some (0, S)) else (if l2 < 1 then (some (0, S)) else (if 6 < l2 then (some (0, S)) else (cal0 (x11_isBelow l3 256) fun r23 =>
  if r23 = 0 then (some (0, S)) else (calV (x6_setReporter S l1 l2 l3) fun S38 =>
  some (1, S38)))))
noncomputable def x11_sits (S : ST) (l1 : Int32) (l2 : Int32) (l3 : Int32) : Option (Int32 × ST) :=
  cal0 (x11_isBelow l1 8) fun r3 =>
  if r3 = 0 then (some ((-1), S)) else (cal0 (x11_isBelow l2 10) fun r12 =>
  if r12 = 0 then (some ((-1), S)) else (cal0 (x11_isBelow l3 100) fun r21 =>
  if r21 = 0 then (some ((-1), S)) else (cal (x0_tell S 5 l3 0) fun r36 S36 =>
  if r36 = (-1) then (some (r36, S36)) else (G (inb r36 180) <|
  let S57 := sA S36 20 (upd (S36.2.1 20) (Int32.toNatClampNeg r36) l1)
  G (inb r36 180) <|
  let S68 := sA S57 16 (upd (S57.2.1 16) (Int32.toNatClampNeg r36) l2)
  some (r36, S68)))))
noncomputable def x11_tellLine (S : ST) (l1 : Int32) (l2 : Int32) (l3 : Int32) (l4 : Int32) (l5 : Int32) : Option (Int32 × ST) :=
  cal0 (x11_isBelow l1 100) fun r3 =>
  if r3 = 0 then (some ((-1), S)) else (cal0 (x11_isBelow l2 240) fun r13 =>
  if r13 = 0 then (some ((-1), S)) else (cal0 (x11_isBelow l4 10) fun r23 =>
  if r23 = 0 then (some ((-1), S)) else (cal (x0_tell S 4 l1 l5) fun r39 S39 =>
  if r39 = (-1) then (some (r39, S39)) else (G (inb r39 180) <|
  let S60 := sA S39 15 (upd (S39.2.1 15) (Int32.toNatClampNeg r39) l2)
  G (inb r39 180) <|
  let S71 := sA S60 22 (upd (S60.2.1 22) (Int32.toNatClampNeg r39) l3)
  G (inb r39 180) <|
  let S83 := sA S71 16 (upd (S71.2.1 16) (Int32.toNatClampNeg r39) l4)
  some (r39, S83)))))
noncomputable def x11_turn (S : ST) (l1 : Int32) : Option (Int32 × ST) :=
  cal (x6_taker S l1) fun r5 S5 =>
  some (r5, S5)
noncomputable def x11_vote (S : ST) (l1 : Int32) (l2 : Int32) (l3 : Int32) (l4 : Int32) : Option (Int32 × ST) :=
  cal0 (x11_isBelow l1 4) fun r2 =>
  if r2 = 0 then (some ((-1), S)) else (cal0 (x11_isBelow l2 8) fun r11 =>
  if r11 = 0 then (some ((-1), S)) else (cal0 (x11_isBelow l3 2) fun r19 =>
  if r19 = 0 then (some ((-1), S)) else (cal0 (x11_isBelow l4 2) fun r28 =>
  if r28 = 0 then (some ((-1), S)) else (cal (x0_tell S 9 0 0) fun r44 S44 =>
  if r44 = (-1) then (some (r44, S44)) else (G (inb r44 180) <|
  let S65 := sA S44 21 (upd (S44.2.1 21) (Int32.toNatClampNeg r44) l1)
  G (inb r44 180) <|
  let S76 := sA S65 20 (upd (S65.2.1 20) (Int32.toNatClampNeg r44) l2)
  G (inb r44 180) <|
  let S87 := sA S76 22 (upd (S76.2.1 22) (Int32.toNatClampNeg r44) l3)
  some (r44, S87))))))
noncomputable def x1_insert_j68 (S : ST) (l1 : Int32) (l2 : Int32) : Option ST :=
  G (inb l2 180) <|
  let S74 := sA S 24 (upd (S.2.1 24) (Int32.toNatClampNeg l2) l1)
  let S82 := sI S74 19 ((S74.1 19) + 1)
  some S82
noncomputable def x1_insert_h25 (K68 : ST → Int32 → Int32 → Option ST) : Nat → ST → Int32 → Int32 → Option ST
  | 0, _, _, _ => none
  | n + 1, S, l1, l2 =>
    if l2 ≤ 0 then (K68 S l1 l2) else (G (inb (l2 - 1) 180) <|
    cal (x0_standsBehind S ((S.2.1 24 (Int32.toNatClampNeg (l2 - 1)))) l1) fun r42 S42 =>
    if r42 = 0 then (K68 S42 l1 l2) else (G (inb (l2 - 1) 180) <|
    G (inb l2 180) <|
    let S61 := sA S42 24 (upd (S42.2.1 24) (Int32.toNatClampNeg l2) (S42.2.1 24 (Int32.toNatClampNeg (l2 - 1))))
    let v62 := l2 + (-1)
    (x1_insert_h25 K68 n) S61 l1 v62))
noncomputable def x1_insert (S : ST) (l1 : Int32) : Option ST :=
  if (S.1 19) < 0 then (some S) else (if (S.1 19) < 180 then (let v24 := (S.1 19)
  x1_insert_h25 (x1_insert_j68) FU S l1 v24) else (some S))
noncomputable def x2_accept_j48 (S : ST) : Option (Int32 × ST) :=
  if (S.1 9) = 0 then (some (1, S)) else (some (0, S))
noncomputable def x2_accept_j31 (S : ST) : Option (Int32 × ST) :=
  if (S.1 9) = 0 then (calV (x2_moveTo S (((S.1 6) + 1))) fun S45 =>
  x2_accept_j48 S45) else (x2_accept_j48 S)
noncomputable def x2_accept (S : ST) (l1 : Int32) : Option (Int32 × ST) :=
  if (S.1 7) = l1 then (if (S.1 6) < 400 then (x2_accept_j31 S) else (calV (x2_refuse S 2) fun S28 =>
  x2_accept_j31 S28)) else (calV (x2_refuse S 1) fun S10 =>
  x2_accept_j31 S10)
noncomputable def x2_emitWaiting_h0 : Nat → ST → Int32 → Option ST
  | 0, _, _ => none
  | n + 1, S, l1 =>
    if (S.1 5) ≤ 0 then (some S) else (G (inb ((S.1 5) - 1) 32) <|
    cal0 (x2_bindsAsTight ((S.2.1 12 (Int32.toNatClampNeg ((S.1 5) - 1)))) l1) fun r19 =>
    if r19 = 0 then (some S) else (let S32 := sI S 5 ((S.1 5) - 1)
    G (inb (S32.1 5) 32) <|
    calV (x7_emit S32 ((20000 + (S32.2.1 12 (Int32.toNatClampNeg (S32.1 5)))))) fun S52 =>
    (x2_emitWaiting_h0 n) S52 l1))
noncomputable def x2_emitWaiting (S : ST) (l1 : Int32) : Option ST :=
  x2_emitWaiting_h0 FU S l1
noncomputable def x4_compare_j110 (S : ST) (l5 : Int32) (s0 : Int32) : Option (Int32 × ST) :=
  let S114 := sI S 25 0
  G (isB 0) <|
  let S119 := sI S114 26 0
  if l5 = s0 then (some (0, S119)) else (some (1, S119))
noncomputable def x4_compare_j96 (S : ST) (l1 : Int32) (s0 : Int32) : Option (Int32 × ST) :=
  if (l1 - l1 / 2 * 2) = 1 then (x4_compare_j110 S s0 1) else (x4_compare_j110 S s0 0)
noncomputable def x4_compare_j95 (S : ST) (l1 : Int32) : Option (Int32 × ST) :=
  x4_compare_j96 S l1 0
noncomputable def x4_compare_j77 (S : ST) (l1 : Int32) (s0 : Int32) : Option (Int32 × ST) :=
  if s0 = 0 then (x4_compare_j95 S l1) else (if (S.1 26) = 0 then (x4_compare_j96 S l1 1) else (x4_compare_j95 S l1))
noncomputable def x4_compare_j76 (S : ST) (l1 : Int32) : Option (Int32 × ST) :=
  x4_compare_j77 S l1 0
noncomputable def x4_compare_j72 (S : ST) (l1 : Int32) : Option (Int32 × ST) :=
  x4_compare_j77 S l1 1
noncomputable def x4_compare_j62 (S : ST) (l1 : Int32) (l2 : Int32) (l3 : Int32) : Option (Int32 × ST) :=
  if l3 = 34 then (if 0 < l2 then (x4_compare_j76 S l1) else (x4_compare_j72 S l1)) else (x4_compare_j76 S l1)
noncomputable def x4_compare_j52 (S : ST) (l1 : Int32) (l2 : Int32) (l3 : Int32) : Option (Int32 × ST) :=
  if l3 = 33 then (if l2 < 0 then (x4_compare_j72 S l1) else (x4_compare_j62 S l1 l2 l3)) else (x4_compare_j62 S l1 l2 l3)
noncomputable def x4_compare_j42 (S : ST) (l1 : Int32) (l2 : Int32) (l3 : Int32) : Option (Int32 × ST) :=
  if l3 = 32 then (if l2 = 0 then (x4_compare_j52 S l1 l2 l3) else (x4_compare_j72 S l1)) else (x4_compare_j52 S l1 l2 l3)
noncomputable def x4_compare_j27 (S : ST) (l1 : Int32) (s0 : Int32) : Option (Int32 × ST) :=
  let v31 := (l1 / 2)
  if v31 = 31 then (if s0 = 0 then (x4_compare_j72 S l1) else (x4_compare_j42 S l1 s0 v31)) else (x4_compare_j42 S l1 s0 v31)
noncomputable def x4_compare (S : ST) (l1 : Int32) : Option (Int32 × ST) :=
  if (S.1 25) = 2 then (G (inb 0 32) <|
  G (inb 1 32) <|
  cal0 (j6_compare_7cf53 ((S.2.1 34 (Int32.toNatClampNeg 0))) ((S.2.1 34 (Int32.toNatClampNeg 1)))) fun r20 =>
  x4_compare_j27 S l1 r20) else (x4_compare_j27 S l1 0)
noncomputable def x5_gathered (S : ST) (l1 : Int32) : Option (Int32 × ST) :=
  cal0 (x11_isWord l1) fun r1 =>
  if r1 = 0 then (some (0, S)) else (G (inb l1 1000) <|
  if (S.2.1 25 (Int32.toNatClampNeg l1)) = 0 then (some (0, S)) else (some (1, S)))
noncomputable def x5_mark (S : ST) (l1 : Int32) : Option ST :=
  cal0 (x11_isWord l1) fun r1 =>
  if r1 = 0 then (some S) else (G (inb l1 1000) <|
  let S13 := sA S 25 (upd (S.2.1 25) (Int32.toNatClampNeg l1) (vp_nar .boolean 1))
  some S13)
noncomputable def x7_enforceText_j181 (Kb : ST → Int32 → Int32 → Int32 → Int32 → Option ST) (S : ST) (l1 : Int32) (l2 : Int32) (l4 : Int32) (l6 : Int32) : Option ST :=
  let v181 := l6 + 1
  Kb S l1 l2 l4 v181
noncomputable def x7_enforceText_h66 : Nat → ST → Int32 → Int32 → Int32 → Int32 → Option ST
  | 0, _, _, _, _, _ => none
  | n + 1, S, l1, l2, l4, l6 =>
    G (inb l1 6) <|
    if (S.2.1 9 (Int32.toNatClampNeg l1)) ≤ l6 then (some S) else (G (inb l6 144) <|
    cal (x7_namedInForce S ((l2 + 1)) ((S.2.2 0 (Int32.toNatClampNeg l6)))) fun r88 S88 =>
    G (inb l6 144) <|
    if (S88.2.1 2 (Int32.toNatClampNeg l6)) = 5 then (calV (x7_takeAway S88 ((l2 + 1)) r88) fun S110 =>
    x7_enforceText_j181 (x7_enforceText_h66 n) S110 l1 l2 l4 l6) else (if r88 = (-1) then (G (inb (l2 + 1) 7) <|
    if 144 ≤ (S88.2.1 11 (Int32.toNatClampNeg (l2 + 1))) then (x7_enforceText_j181 (x7_enforceText_h66 n) S88 l1 l2 l4 l6) else (G (inb (l2 + 1) 7) <|
    G (inb (l4 + (S88.2.1 11 (Int32.toNatClampNeg (l2 + 1)))) 1008) <|
    let S168 := sA S88 10 (upd (S88.2.1 10) (Int32.toNatClampNeg (l4 + (S88.2.1 11 (Int32.toNatClampNeg (l2 + 1))))) l6)
    G (inb (l2 + 1) 7) <|
    G (inb (l2 + 1) 7) <|
    let S180 := sA S168 11 (upd (S168.2.1 11) (Int32.toNatClampNeg (l2 + 1)) ((S168.2.1 11 (Int32.toNatClampNeg (l2 + 1))) + 1))
    x7_enforceText_j181 (x7_enforceText_h66 n) S180 l1 l2 l4 l6)) else (G (inb (l4 + r88) 1008) <|
    let S133 := sA S88 10 (upd (S88.2.1 10) (Int32.toNatClampNeg (l4 + r88)) l6)
    x7_enforceText_j181 (x7_enforceText_h66 n) S133 l1 l2 l4 l6)))
noncomputable def x7_enforceText_j60 (S : ST) (l1 : Int32) (l2 : Int32) (l4 : Int32) (s0 : Int32) : Option ST :=
  x7_enforceText_h66 FU S l1 l2 l4 s0
noncomputable def x7_enforceText (S : ST) (l1 : Int32) (l2 : Int32) : Option ST :=
  let v5 := (l2 * 144)
  let v11 := (v5 + 144)
  G (cpyOK v5 v11 144 1008 1008) <|
  let S27 := sA S 10 (va_cpy (S.2.1 10) (S.2.1 10) (Int32.toNatClampNeg v5) (Int32.toNatClampNeg v11) (Int32.toNatClampNeg 144))
  G (inb l2 7) <|
  G (inb (l2 + 1) 7) <|
  let S43 := sA S27 11 (upd (S27.2.1 11) (Int32.toNatClampNeg (l2 + 1)) (S27.2.1 11 (Int32.toNatClampNeg l2)))
  if l1 ≤ 0 then (x7_enforceText_j60 S43 l1 l2 v11 0) else (G (inb (l1 - 1) 6) <|
  x7_enforceText_j60 S43 l1 l2 v11 ((S43.2.1 9 (Int32.toNatClampNeg (l1 - 1)))))
noncomputable def x7_howManyInForce (S : ST) (l1 : Int32) : Option (Int32 × ST) :=
  cal (x7_levelOn S l1) fun r6 S6 =>
  G (inb r6 7) <|
  some ((S6.2.1 11 (Int32.toNatClampNeg r6)), S6)
noncomputable def x7_inForceAt (S : ST) (l1 : Int32) (l2 : Int32) : Option (Int32 × ST) :=
  cal (x7_levelOn S l1) fun r2 S2 =>
  if l2 < 0 then (some ((-1), S2)) else (G (inb r2 7) <|
  if (S2.2.1 11 (Int32.toNatClampNeg r2)) ≤ l2 then (some ((-1), S2)) else (G (inb ((r2 * 144) + l2) 1008) <|
  some ((S2.2.1 10 (Int32.toNatClampNeg ((r2 * 144) + l2))), S2)))
noncomputable def x8_append (S : ST) (l1 : Int32) (l2 : Int32) : Option (Int32 × ST) :=
  cal (x8_lengthOf S l1) fun r2 S2 =>
  if r2 = (-1) then (some ((-1), S2)) else (G (inb l1 3) <|
  if (S2.2.1 27 (Int32.toNatClampNeg l1)) < 12 then (G (inb l1 3) <|
  G (inb ((l1 * 12) + (S2.2.1 27 (Int32.toNatClampNeg l1))) 36) <|
  let S38 := sA S2 26 (upd (S2.2.1 26) (Int32.toNatClampNeg ((l1 * 12) + (S2.2.1 27 (Int32.toNatClampNeg l1)))) l2)
  G (inb l1 3) <|
  G (inb l1 3) <|
  let S48 := sA S38 27 (upd (S38.2.1 27) (Int32.toNatClampNeg l1) ((S38.2.1 27 (Int32.toNatClampNeg l1)) + 1))
  G (inb l1 3) <|
  some ((S48.2.1 27 (Int32.toNatClampNeg l1)), S48)) else (some ((-1), S2)))
noncomputable def x8_wordAt (S : ST) (l1 : Int32) (l2 : Int32) : Option (Int32 × ST) :=
  if l2 < 0 then (some ((-1), S)) else (cal (x8_lengthOf S l1) fun r7 S7 =>
  if r7 ≤ l2 then (some ((-1), S7)) else (G (inb ((l1 * 12) + l2) 36) <|
  some ((S7.2.1 26 (Int32.toNatClampNeg ((l1 * 12) + l2))), S7)))
noncomputable def x9_behindBlanks_h2 : Nat → ST → Int32 → Option (Int32 × ST)
  | 0, _, _ => none
  | n + 1, S, l2 =>
    if (S.1 1) ≤ l2 then (some (l2, S)) else (cal (x9_byteAt S l2) fun r12 S12 =>
    cal0 (x9_isBlank r12) fun r15 =>
    if r15 = 0 then (some (l2, S12)) else (let v21 := l2 + 1
    (x9_behindBlanks_h2 n) S12 v21))
noncomputable def x9_behindBlanks (S : ST) (l1 : Int32) : Option (Int32 × ST) :=
  x9_behindBlanks_h2 FU S l1
noncomputable def x11_doubles (S : ST) (l1 : Int32) (l2 : Int32) : Option (Int32 × ST) :=
  cal0 (x11_isBelow l1 4) fun r2 =>
  if r2 = 0 then (some ((-1), S)) else (cal (x11_isKnown S l2) fun r10 S10 =>
  if r10 = 0 then (some ((-1), S10)) else (cal (x0_voters S10 l1 0 l2) fun r25 S25 =>
  cal (x0_voters S25 l1 1 l2) fun r35 S35 =>
  some ((r25 &&& r35), S35)))
noncomputable def x11_line_j53 (S : ST) (l1 : Int32) (l2 : Int32) (l3 : Int32) (l4 : Int32) (l5 : Int32) : Option (Int32 × ST) :=
  cal (x11_tellLine S l1 l2 l3 l4 l5) fun r61 S61 =>
  some (r61, S61)
noncomputable def x11_line_j39 (S : ST) (l1 : Int32) (l2 : Int32) (l3 : Int32) (l4 : Int32) (l5 : Int32) (l6 : Int32) (s0 : Int32) : Option (Int32 × ST) :=
  if l6 = 0 then (if s0 = 0 then (some ((-1), S)) else (x11_line_j53 S l1 l2 l3 l4 l5)) else (x11_line_j53 S l1 l2 l3 l4 l5)
noncomputable def x11_line_j38 (S : ST) (l1 : Int32) (l2 : Int32) (l3 : Int32) (l4 : Int32) (l5 : Int32) (l6 : Int32) : Option (Int32 × ST) :=
  x11_line_j39 S l1 l2 l3 l4 l5 l6 0
noncomputable def x11_line_j22 (S : ST) (l1 : Int32) (l2 : Int32) (l3 : Int32) (l4 : Int32) (l5 : Int32) (s0 : Int32) : Option (Int32 × ST) :=
  if l3 = 3 then (if l5 = 0 then (x11_line_j39 S l1 l2 l3 l4 l5 s0 1) else (x11_line_j38 S l1 l2 l3 l4 l5 s0)) else (x11_line_j38 S l1 l2 l3 l4 l5 s0)
noncomputable def x11_line_j21 (S : ST) (l1 : Int32) (l2 : Int32) (l3 : Int32) (l4 : Int32) (l5 : Int32) : Option (Int32 × ST) :=
  x11_line_j22 S l1 l2 l3 l4 l5 0
noncomputable def x11_line_j9 (S : ST) (l1 : Int32) (l2 : Int32) (l3 : Int32) (l4 : Int32) (l5 : Int32) : Option (Int32 × ST) :=
  cal0 (x11_isWord l5) fun r11 =>
  if r11 = 0 then (x11_line_j21 S l1 l2 l3 l4 l5) else (x11_line_j22 S l1 l2 l3 l4 l5 1)
noncomputable def x11_line (S : ST) (l1 : Int32) (l2 : Int32) (l3 : Int32) (l4 : Int32) (l5 : Int32) : Option (Int32 × ST) :=
  if l3 = 0 then (x11_line_j9 S l1 l2 l3 l4 l5) else (if l3 = 2 then (x11_line_j9 S l1 l2 l3 l4 l5) else (x11_line_j21 S l1 l2 l3 l4 l5))
noncomputable def x11_moved (S : ST) (l1 : Int32) (l2 : Int32) : Option (Int32 × ST) :=
  cal0 (x11_isBelow l1 4) fun r2 =>
  if r2 = 0 then (some ((-1), S)) else (cal (x11_isKnown S l2) fun r10 S10 =>
  if r10 = 0 then (some ((-1), S10)) else (cal (x0_lastTurnOfDivision S10 l1 l2) fun r24 S24 =>
  some (r24, S24)))
noncomputable def x11_reads (S : ST) (l1 : Int32) (l2 : Int32) (l3 : Int32) (l4 : Int32) (l5 : Int32) (l6 : Int32) : Option (Int32 × ST) :=
  cal0 (x11_isWord l4) fun r2 =>
  if r2 = 0 then (some ((-1), S)) else (cal0 (x11_isBelow l5 4) fun r11 =>
  if r11 = 0 then (some ((-1), S)) else (cal0 (x11_isBelow l6 10) fun r21 =>
  if r21 = 0 then (some ((-1), S)) else (cal (x11_tellLine S l1 l2 1 l3 l4) fun r36 S36 =>
  if r36 = (-1) then (some (r36, S36)) else (calV (x0_setPaper S36 r36 l5 l6) fun S57 =>
  some (r36, S57)))))
noncomputable def x11_rule (S : ST) (l1 : Int32) (l2 : Int32) (l3 : Int32) : Option (Int32 × ST) :=
  cal0 (x11_isBelow l1 100) fun r3 =>
  if r3 = 0 then (some ((-1), S)) else (cal (x7_inForceAt S l1 l2) fun r17 S17 =>
  if r17 = (-1) then (some ((-1), S17)) else (if l3 = 0 then (G (inb r17 144) <|
  some ((S17.2.1 2 (Int32.toNatClampNeg r17)), S17)) else (if l3 = 1 then (G (inb r17 144) <|
  some ((S17.2.1 3 (Int32.toNatClampNeg r17)), S17)) else (if l3 = 2 then (G (inb r17 144) <|
  some ((S17.2.1 4 (Int32.toNatClampNeg r17)), S17)) else (some ((-1), S17))))))
noncomputable def x11_rules (S : ST) (l1 : Int32) : Option (Int32 × ST) :=
  cal0 (x11_isBelow l1 100) fun r3 =>
  if r3 = 0 then (some ((-1), S)) else (cal (x7_howManyInForce S l1) fun r14 S14 =>
  some (r14, S14))
noncomputable def x11_sum (S : ST) (l1 : Int32) (l2 : Int32) (l3 : Int32) : Option (Int32 × ST) :=
  cal0 (x11_isBelow l1 4) fun r2 =>
  if r2 = 0 then (some ((-1), S)) else (cal0 (x11_isBelow l2 2) fun r10 =>
  if r10 = 0 then (some ((-1), S)) else (cal (x11_isKnown S l3) fun r18 S18 =>
  if r18 = 0 then (some ((-1), S18)) else (cal (x0_voters S18 l1 l2 l3) fun r33 S33 =>
  cal (x0_voters S33 l1 ((1 - l2)) l3) fun r47 S47 =>
  cal0 (j6_bitCount_0f7a4 ((r33 &&& (r47 ^^^ (-1))))) fun r59 =>
  some (r59, S47))))
noncomputable def x11_take_j10 (S : ST) (l1 : Int32) (l2 : Int32) (s0 : Int32) : Option (Int32 × ST) :=
  cal0 (x11_isBelow l1 3) fun r13 =>
  if r13 = 0 then (some ((-1), S)) else (if l2 < s0 then (some ((-1), S)) else (if l2 < 1000 then (cal (x8_append S l1 l2) fun r39 S39 =>
  some (r39, S39)) else (some ((-1), S))))
noncomputable def x11_take (S : ST) (l1 : Int32) (l2 : Int32) : Option (Int32 × ST) :=
  if l1 = 2 then (x11_take_j10 S l1 l2 0) else (x11_take_j10 S l1 l2 1)
noncomputable def x11_who (S : ST) (l1 : Int32) (l2 : Int32) (l3 : Int32) : Option (Int32 × ST) :=
  cal0 (x11_isBelow l1 10) fun r3 =>
  if r3 = 0 then (some ((-1), S)) else (cal0 (x11_isBelow l2 100) fun r12 =>
  if r12 = 0 then (some ((-1), S)) else (cal (x11_isKnown S l3) fun r20 S20 =>
  if r20 = 0 then (some ((-1), S20)) else (cal (x0_sitter S20 l1 l2 l3) fun r35 S35 =>
  some (r35, S35))))
noncomputable def x2_parseClosings_h2 : Nat → ST → Int32 → Option (Int32 × ST)
  | 0, _, _ => none
  | n + 1, S, l2 =>
    if l2 ≤ 0 then (some (l2, S)) else (if (S.1 7) = 36 then (cal (x2_accept S 36) fun r18 S18 =>
    if r18 = 0 then (some (l2, S18)) else (calV (x2_emitWaiting S18 27) fun S27 =>
    let S37 := sI S27 5 ((S27.1 5) - 1)
    let v40 := l2 + (-1)
    (x2_parseClosings_h2 n) S37 v40)) else (some (l2, S)))
noncomputable def x2_parseClosings (S : ST) (l1 : Int32) : Option (Int32 × ST) :=
  x2_parseClosings_h2 FU S l1
noncomputable def x2_parseNots_h2 : Nat → ST → Int32 → Option (Int32 × ST)
  | 0, _, _ => none
  | n + 1, S, l1 =>
    if 400 < l1 then (some (l1, S)) else (if (S.1 7) = 5 then (cal (x2_accept S 5) fun r19 S19 =>
    if r19 = 0 then (some (l1, S19)) else (let v25 := l1 + 1
    (x2_parseNots_h2 n) S19 v25)) else (some (l1, S)))
noncomputable def x2_parseNots (S : ST) : Option (Int32 × ST) :=
  x2_parseNots_h2 FU S 0
noncomputable def x2_parseOpenings_j38 (S : ST) (l2 : Int32) : Option (Int32 × ST) :=
  if (S.1 7) = 35 then (calV (x2_refuse S 2) fun S49 =>
  some (l2, S49)) else (some (l2, S))
noncomputable def x2_parseOpenings_h2 (K38 : ST → Int32 → Option (Int32 × ST)) : Nat → ST → Int32 → Option (Int32 × ST)
  | 0, _, _ => none
  | n + 1, S, l2 =>
    if 6 ≤ l2 then (K38 S l2) else (if (S.1 7) = 35 then (cal (x2_accept S 35) fun r20 S20 =>
    if r20 = 0 then (K38 S20 l2) else (calV (x2_hold S20 35) fun S29 =>
    let v32 := l2 + 1
    (x2_parseOpenings_h2 K38 n) S29 v32)) else (K38 S l2))
noncomputable def x2_parseOpenings (S : ST) (l1 : Int32) : Option (Int32 × ST) :=
  x2_parseOpenings_h2 (x2_parseOpenings_j38) FU S l1
noncomputable def x2_parseOperand_j62 (S : ST) (l2 : Int32) (s0 : Int32) : Option ST :=
  cal (x2_accept S s0) fun r62 S62 =>
  if r62 = 0 then (some S62) else (calV (x7_emit S62 l2) fun S73 =>
  some S73)
noncomputable def x2_parseOperand_j47 (S : ST) (l1 : Int32) (s0 : Int32) : Option ST :=
  if l1 = 0 then (x2_parseOperand_j62 S s0 25) else (x2_parseOperand_j62 S s0 ((S.1 7)))
noncomputable def x2_parseOperand_j23 (S : ST) (s0 : Int32) : Option ST :=
  if s0 = 0 then (x2_parseOperand_j47 S s0 ((Int64.toInt32 (S.2.2 1 0)))) else (x2_parseOperand_j47 S s0 (((10000 + (S.1 7)) - 12)))
noncomputable def x2_parseOperand_j22 (S : ST) : Option ST :=
  x2_parseOperand_j23 S 0
noncomputable def x2_parseOperand (S : ST) : Option ST :=
  if (S.1 7) < 12 then (x2_parseOperand_j22 S) else (if 24 ≤ (S.1 7) then (x2_parseOperand_j22 S) else (x2_parseOperand_j23 S 1))
noncomputable def x4_work_j162 (Kb : ST → Int32 → Int32 → Int32 → Option (Int32 × ST)) (S : ST) (l3 : Int32) (l5 : Int32) (l6 : Int32) : Option (Int32 × ST) :=
  let v162 := l6 + 1
  Kb S l3 l5 v162
noncomputable def x4_work_j147 (Kb : ST → Int32 → Int32 → Int32 → Option (Int32 × ST)) (S : ST) (l3 : Int32) (l6 : Int32) (s0 : Int32) : Option (Int32 × ST) :=
  x4_work_j162 Kb S l3 s0 l6
noncomputable def x4_work_j146 (Kb : ST → Int32 → Int32 → Int32 → Option (Int32 × ST)) (S : ST) (l3 : Int32) (l6 : Int32) : Option (Int32 × ST) :=
  x4_work_j147 Kb S l3 l6 0
noncomputable def x4_work_j90 (Kb : ST → Int32 → Int32 → Int32 → Option (Int32 × ST)) (S : ST) (l3 : Int32) (l5 : Int32) (l6 : Int32) (s0 : Int32) : Option (Int32 × ST) :=
  calV (x4_push S s0) fun S90 =>
  x4_work_j162 Kb S90 l3 l5 l6
noncomputable def x4_work_h20 : Nat → ST → Int32 → Int32 → Int32 → Option (Int32 × ST)
  | 0, _, _, _, _ => none
  | n + 1, S, l3, l5, l6 =>
    if l3 ≤ l6 then (G (isB l5) <|
    some (l5, S)) else (if 2400 ≤ l6 then (G (isB l5) <|
    some (l5, S)) else (G (inb l6 2400) <|
    let v37 := (S.2.1 1 (Int32.toNatClampNeg l6))
    if 10000 ≤ v37 then (if 20000 ≤ v37 then (if 30000 ≤ v37 then (if 40000 ≤ v37 then (if l5 = 0 then (x4_work_j162 (x4_work_h20 n) S l3 1 l6) else (some (1, S))) else (cal (x4_compare S ((v37 - 30000))) fun r131 S131 =>
    if r131 = 0 then (x4_work_j146 (x4_work_h20 n) S131 l3 l6) else (if l5 = 0 then (x4_work_j146 (x4_work_h20 n) S131 l3 l6) else (x4_work_j147 (x4_work_h20 n) S131 l3 l6 1)))) else (calV (x4_calculate S ((v37 - 20000))) fun S111 =>
    x4_work_j162 (x4_work_h20 n) S111 l3 l5 l6)) else (if 12 ≤ (v37 - 10000) then (x4_work_j90 (x4_work_h20 n) S l3 l5 l6 0) else (G (inb (v37 - 10000) 12) <|
    x4_work_j90 (x4_work_h20 n) S l3 l5 l6 ((S.2.1 23 (Int32.toNatClampNeg (v37 - 10000))))))) else (calV (x4_push S v37) fun S50 =>
    x4_work_j162 (x4_work_h20 n) S50 l3 l5 l6)))
noncomputable def x4_work (S : ST) (l2 : Int32) (l3 : Int32) : Option (Int32 × ST) :=
  let S5 := sI S 25 0
  G (isB 0) <|
  let S10 := sI S5 26 0
  let v18 := (if 0 < l2 then l2 else 0)
  x4_work_h20 FU S10 l3 1 v18
noncomputable def x5_joinOnce_j101 (Kb : ST → Int32 → Int32 → Int32 → Int32 → Option (Int32 × ST)) (S : ST) (l1 : Int32) (l2 : Int32) (l3 : Int32) (l4 : Int32) : Option (Int32 × ST) :=
  let v101 := l4 + 1
  Kb S l1 l2 l3 v101
noncomputable def x5_joinOnce_h5 : Nat → ST → Int32 → Int32 → Int32 → Int32 → Option (Int32 × ST)
  | 0, _, _, _, _, _ => none
  | n + 1, S, l1, l2, l3, l4 =>
    if l2 ≤ l4 then (G (isB l3) <|
    some (l3, S)) else (G (inb l4 180) <|
    if (S.2.1 13 (Int32.toNatClampNeg l4)) = 8 then (G (inb l4 180) <|
    if l1 < (S.2.1 14 (Int32.toNatClampNeg l4)) then (x5_joinOnce_j101 (x5_joinOnce_h5 n) S l1 l2 l3 l4) else (G (inb l4 180) <|
    cal (x5_gathered S ((S.2.1 17 (Int32.toNatClampNeg l4)))) fun r51 S51 =>
    G (inb l4 180) <|
    cal (x5_gathered S51 ((S51.2.1 22 (Int32.toNatClampNeg l4)))) fun r65 S65 =>
    if r51 = r65 then (x5_joinOnce_j101 (x5_joinOnce_h5 n) S65 l1 l2 l3 l4) else (G (inb l4 180) <|
    calV (x5_mark S65 ((S65.2.1 17 (Int32.toNatClampNeg l4)))) fun S82 =>
    G (inb l4 180) <|
    calV (x5_mark S82 ((S82.2.1 22 (Int32.toNatClampNeg l4)))) fun S96 =>
    x5_joinOnce_j101 (x5_joinOnce_h5 n) S96 l1 l2 1 l4))) else (x5_joinOnce_j101 (x5_joinOnce_h5 n) S l1 l2 l3 l4))
noncomputable def x5_joinOnce (S : ST) (l1 : Int32) (l2 : Int32) : Option (Int32 × ST) :=
  x5_joinOnce_h5 FU S l1 l2 0 0
noncomputable def x7_enforceAll_j51 (Kb : ST → Int32 → Int32 → Option ST) (S : ST) (l1 : Int32) (l2 : Int32) : Option ST :=
  let v51 := l2 + 1
  Kb S l1 v51
noncomputable def x7_enforceAll_j45 (Kb : ST → Int32 → Int32 → Int32 → Option ST) (K51 : ST → Int32 → Int32 → Option ST) (S : ST) (l1 : Int32) (l2 : Int32) (l3 : Int32) : Option ST :=
  let v45 := l3 + 1
  Kb S l1 l2 v45
noncomputable def x7_enforceAll_h12 (K51 : ST → Int32 → Int32 → Option ST) : Nat → ST → Int32 → Int32 → Int32 → Option ST
  | 0, _, _, _, _ => none
  | n + 1, S, l1, l2, l3 =>
    if (S.1 4) ≤ l3 then (K51 S l1 l2) else (if 6 ≤ l1 then (K51 S l1 l2) else (G (inb l3 6) <|
    if (S.2.1 8 (Int32.toNatClampNeg l3)) = l2 then (calV (x7_enforceText S l3 l1) fun S39 =>
    let v42 := l1 + 1
    x7_enforceAll_j45 (x7_enforceAll_h12 K51 n) K51 S39 v42 l2 l3) else (x7_enforceAll_j45 (x7_enforceAll_h12 K51 n) K51 S l1 l2 l3)))
noncomputable def x7_enforceAll_h4 : Nat → ST → Int32 → Int32 → Option ST
  | 0, _, _, _ => none
  | n + 1, S, l1, l2 =>
    if 100 ≤ l2 then (some S) else (x7_enforceAll_h12 (x7_enforceAll_j51 (x7_enforceAll_h4 n)) FU S l1 l2 0)
noncomputable def x7_enforceAll (S : ST) : Option ST :=
  x7_enforceAll_h4 FU S 0 0
noncomputable def x8_differences_j42 (Kb : ST → Int32 → Int32 → Int32 → Int32 → Option (Int32 × ST)) (S : ST) (l1 : Int32) (l2 : Int32) (l3 : Int32) (l4 : Int32) : Option (Int32 × ST) :=
  let v42 := l4 + 1
  Kb S l1 l2 l3 v42
noncomputable def x8_differences_h14 : Nat → ST → Int32 → Int32 → Int32 → Int32 → Option (Int32 × ST)
  | 0, _, _, _, _, _ => none
  | n + 1, S, l1, l2, l3, l4 =>
    if l1 ≤ l4 then (some (l2, S)) else (cal (x8_wordAt S 0 ((l3 + l4))) fun r26 S26 =>
    cal (x8_wordAt S26 1 l4) fun r33 S33 =>
    if r26 = r33 then (x8_differences_j42 (x8_differences_h14 n) S33 l1 l2 l3 l4) else (let v39 := l2 + 1
    x8_differences_j42 (x8_differences_h14 n) S33 l1 v39 l3 l4))
noncomputable def x8_differences (S : ST) (l1 : Int32) : Option (Int32 × ST) :=
  G (inb 0 3) <|
  let v10 := ((S.2.1 27 (Int32.toNatClampNeg 0)) - l1)
  x8_differences_h14 FU S l1 0 v10 0
noncomputable def x8_distance_j146 (S : ST) (l2 : Int32) : Option (Int32 × ST) :=
  cal (x8_lengthOf S l2) fun r148 S148 =>
  if r148 < 0 then (some ((-1), S148)) else (if 12 < r148 then (some ((-1), S148)) else (G (inb r148 13) <|
  some ((S148.2.1 28 (Int32.toNatClampNeg r148)), S148)))
noncomputable def x8_distance_j140 (Kb : ST → Int32 → Int32 → Int32 → Option (Int32 × ST)) (K146 : ST → Int32 → Option (Int32 × ST)) (S : ST) (l1 : Int32) (l2 : Int32) (l3 : Int32) : Option (Int32 × ST) :=
  let v140 := l3 + 1
  Kb S l1 l2 v140
noncomputable def x8_distance_j92 (Kb : ST → Int32 → Int32 → Int32 → Int32 → Int32 → Option (Int32 × ST)) (K140 : ST → Int32 → Int32 → Int32 → Option (Int32 × ST)) (S : ST) (l1 : Int32) (l2 : Int32) (l3 : Int32) (l5 : Int32) (s0 : Int32) (s1 : Int32) : Option (Int32 × ST) :=
  let v93 := (s1 + s0)
  G (inb (l5 + 1) 13) <|
  let v104 := (S.2.1 28 (Int32.toNatClampNeg (l5 + 1)))
  G (inb l5 13) <|
  G (inb (l5 + 1) 13) <|
  let S133 := sA S 28 (upd (S.2.1 28) (Int32.toNatClampNeg (l5 + 1)) (if (1 + (if (S.2.1 28 (Int32.toNatClampNeg l5)) < v104 then (S.2.1 28 (Int32.toNatClampNeg l5)) else v104)) < v93 then (1 + (if (S.2.1 28 (Int32.toNatClampNeg l5)) < v104 then (S.2.1 28 (Int32.toNatClampNeg l5)) else v104)) else v93))
  let v134 := l5 + 1
  Kb S133 l1 l2 l3 v104 v134
noncomputable def x8_distance_h52 (K140 : ST → Int32 → Int32 → Int32 → Option (Int32 × ST)) : Nat → ST → Int32 → Int32 → Int32 → Int32 → Int32 → Option (Int32 × ST)
  | 0, _, _, _, _, _, _ => none
  | n + 1, S, l1, l2, l3, l4, l5 =>
    cal (x8_lengthOf S l2) fun r56 S56 =>
    if r56 ≤ l5 then (K140 S56 l1 l2 l3) else (if 12 ≤ l5 then (K140 S56 l1 l2 l3) else (cal (x8_wordAt S56 l1 l3) fun r74 S74 =>
    cal (x8_wordAt S74 l2 l5) fun r81 S81 =>
    if r74 = r81 then (x8_distance_j92 (x8_distance_h52 K140 n) K140 S81 l1 l2 l3 l5 0 l4) else (x8_distance_j92 (x8_distance_h52 K140 n) K140 S81 l1 l2 l3 l5 1 l4)))
noncomputable def x8_distance_h23 (K146 : ST → Int32 → Option (Int32 × ST)) : Nat → ST → Int32 → Int32 → Int32 → Option (Int32 × ST)
  | 0, _, _, _, _ => none
  | n + 1, S, l1, l2, l3 =>
    cal (x8_lengthOf S l1) fun r26 S26 =>
    if r26 ≤ l3 then (K146 S26 l2) else (G (inb 0 13) <|
    let v38 := (S26.2.1 28 (Int32.toNatClampNeg 0))
    G (inb 0 13) <|
    let S48 := sA S26 28 (upd (S26.2.1 28) (Int32.toNatClampNeg 0) (l3 + 1))
    x8_distance_h52 (x8_distance_j140 (x8_distance_h23 K146 n) K146) FU S48 l1 l2 l3 v38 0)
noncomputable def x8_distance_j21 (S : ST) (l1 : Int32) (l2 : Int32) : Option (Int32 × ST) :=
  x8_distance_h23 (x8_distance_j146) FU S l1 l2 0
noncomputable def x8_distance_h2 (K21 : ST → Int32 → Int32 → Option (Int32 × ST)) : Nat → ST → Int32 → Int32 → Int32 → Option (Int32 × ST)
  | 0, _, _, _, _ => none
  | n + 1, S, l1, l2, l3 =>
    if 12 < l3 then (K21 S l1 l2) else (G (inb l3 13) <|
    let S14 := sA S 28 (upd (S.2.1 28) (Int32.toNatClampNeg l3) l3)
    let v15 := l3 + 1
    (x8_distance_h2 K21 n) S14 l1 l2 v15)
noncomputable def x8_distance (S : ST) (l1 : Int32) (l2 : Int32) : Option (Int32 × ST) :=
  x8_distance_h2 (x8_distance_j21) FU S l1 l2 0
noncomputable def x8_timesOnTape_j27 (Kb : ST → Int32 → Int32 → Int32 → Option (Int32 × ST)) (S : ST) (l1 : Int32) (l2 : Int32) (l3 : Int32) : Option (Int32 × ST) :=
  let v27 := l3 + 1
  Kb S l1 l2 v27
noncomputable def x8_timesOnTape_h4 : Nat → ST → Int32 → Int32 → Int32 → Option (Int32 × ST)
  | 0, _, _, _, _ => none
  | n + 1, S, l1, l2, l3 =>
    G (inb 2 3) <|
    if (S.2.1 27 (Int32.toNatClampNeg 2)) ≤ l3 then (some (l2, S)) else (cal (x8_wordAt S 2 l3) fun r17 S17 =>
    if r17 = l1 then (let v24 := l2 + 1
    x8_timesOnTape_j27 (x8_timesOnTape_h4 n) S17 l1 v24 l3) else (x8_timesOnTape_j27 (x8_timesOnTape_h4 n) S17 l1 l2 l3))
noncomputable def x8_timesOnTape (S : ST) (l1 : Int32) : Option (Int32 × ST) :=
  x8_timesOnTape_h4 FU S l1 0 0
noncomputable def x11_apart (S : ST) (l1 : Int32) (l2 : Int32) : Option (Int32 × ST) :=
  cal0 (x11_isBelow l1 3) fun r2 =>
  if r2 = 0 then (some ((-1), S)) else (cal0 (x11_isBelow l2 3) fun r10 =>
  if r10 = 0 then (some ((-1), S)) else (cal (x8_distance S l1 l2) fun r24 S24 =>
  some (r24, S24)))
noncomputable def x2_parseExpression_j109 (S : ST) (l1 : Int32) : Option ST :=
  if l1 ≤ 0 then (some S) else (calV (x2_refuse S 1) fun S115 =>
  some S115)
noncomputable def x2_parseExpression_j103 (Kb : ST → Int32 → Int32 → Int32 → Option ST) (K109 : ST → Int32 → Option ST) (S : ST) (l1 : Int32) (l2 : Int32) (l3 : Int32) : Option ST :=
  let v103 := l3 + 1
  Kb S l1 l2 v103
noncomputable def x2_parseExpression_j83 (Kb : ST → Int32 → Int32 → Int32 → Option ST) (K109 : ST → Int32 → Option ST) (S : ST) (l1 : Int32) (l2 : Int32) (l3 : Int32) (l4 : Int32) (s0 : Int32) : Option ST :=
  calV (x2_emitWaiting S s0) fun S83 =>
  if l2 = 0 then (x2_parseExpression_j103 Kb K109 S83 l1 l2 l3) else (calV (x2_hold S83 l4) fun S93 =>
  cal (x2_accept S93 l4) fun r99 S99 =>
  x2_parseExpression_j103 Kb K109 S99 l1 l2 l3)
noncomputable def x2_parseExpression_j70 (Kb : ST → Int32 → Int32 → Int32 → Option ST) (K109 : ST → Int32 → Option ST) (S : ST) (l1 : Int32) (l3 : Int32) (l4 : Int32) (s0 : Int32) : Option ST :=
  if s0 = 0 then (x2_parseExpression_j83 Kb K109 S l1 s0 l3 l4 27) else (x2_parseExpression_j83 Kb K109 S l1 s0 l3 l4 l4)
noncomputable def x2_parseExpression_j69 (Kb : ST → Int32 → Int32 → Int32 → Option ST) (K109 : ST → Int32 → Option ST) (S : ST) (l1 : Int32) (l3 : Int32) (l4 : Int32) : Option ST :=
  x2_parseExpression_j70 Kb K109 S l1 l3 l4 0
noncomputable def x2_parseExpression_h11 (K109 : ST → Int32 → Option ST) : Nat → ST → Int32 → Int32 → Int32 → Option ST
  | 0, _, _, _, _ => none
  | n + 1, S, l1, l2, l3 =>
    if l2 = 0 then (K109 S l1) else (if (S.1 9) = 0 then (if 400 < l3 then (K109 S l1) else (cal (x2_parseOpenings S l1) fun r31 S31 =>
    calV (x2_parseOperand S31) fun S36 =>
    cal (x2_parseClosings S36 r31) fun r41 S41 =>
    let v49 := (S41.1 7)
    if v49 < 27 then (x2_parseExpression_j69 (x2_parseExpression_h11 K109 n) K109 S41 r41 l3 v49) else (if 30 < v49 then (x2_parseExpression_j69 (x2_parseExpression_h11 K109 n) K109 S41 r41 l3 v49) else (x2_parseExpression_j70 (x2_parseExpression_h11 K109 n) K109 S41 r41 l3 v49 1)))) else (K109 S l1))
noncomputable def x2_parseExpression (S : ST) : Option ST :=
  let S6 := sI S 5 0
  x2_parseExpression_h11 (x2_parseExpression_j109) FU S6 0 1 0
noncomputable def x5_gather_h41 : Nat → ST → Int32 → Int32 → Int32 → Int32 → Option ST
  | 0, _, _, _, _, _ => none
  | n + 1, S, l2, l3, l4, l5 =>
    if l4 = 0 then (some S) else (if l3 < l5 then (some S) else (cal (x5_joinOnce S l2 l3) fun r55 S55 =>
    let v60 := l5 + 1
    (x5_gather_h41 n) S55 l2 l3 r55 v60))
noncomputable def x5_gather_j35 (S : ST) (l2 : Int32) (l3 : Int32) : Option ST :=
  x5_gather_h41 FU S l2 l3 1 0
noncomputable def x5_gather_j28 (Kb : ST → Int32 → Int32 → Int32 → Int32 → Option ST) (K35 : ST → Int32 → Int32 → Option ST) (S : ST) (l1 : Int32) (l2 : Int32) (l3 : Int32) (l4 : Int32) (s0 : Int32) (s1 : Int32) : Option ST :=
  G (inb s1 1000) <|
  let S28 := sA S 25 (upd (S.2.1 25) (Int32.toNatClampNeg s1) (vp_nar .boolean s0))
  let v29 := l4 + 1
  Kb S28 l1 l2 l3 v29
noncomputable def x5_gather_h3 (K35 : ST → Int32 → Int32 → Option ST) : Nat → ST → Int32 → Int32 → Int32 → Int32 → Option ST
  | 0, _, _, _, _, _ => none
  | n + 1, S, l1, l2, l3, l4 =>
    if 1000 ≤ l4 then (K35 S l2 l3) else (if l4 = l1 then (x5_gather_j28 (x5_gather_h3 K35 n) K35 S l1 l2 l3 l4 1 l4) else (x5_gather_j28 (x5_gather_h3 K35 n) K35 S l1 l2 l3 l4 0 l4))
noncomputable def x5_gather (S : ST) (l1 : Int32) (l2 : Int32) (l3 : Int32) : Option ST :=
  x5_gather_h3 (x5_gather_j35) FU S l1 l2 l3 0
noncomputable def x7_closeText (S : ST) (l1 : Int32) : Option ST :=
  if (S.1 4) < 0 then (some S) else (if (S.1 4) < 6 then (G (inb (S.1 4) 6) <|
  let S26 := sA S 8 (upd (S.2.1 8) (Int32.toNatClampNeg (S.1 4)) l1)
  G (inb (S26.1 4) 6) <|
  let S39 := sA S26 9 (upd (S26.2.1 9) (Int32.toNatClampNeg (S26.1 4)) (S26.1 3))
  let S47 := sI S39 4 ((S39.1 4) + 1)
  calV (x7_enforceAll S47) fun S51 =>
  some S51) else (some S))
noncomputable def x7_firstThatHolds_j81 (Kb : ST → Int32 → Int32 → Int32 → Option (Int32 × ST)) (S : ST) (l1 : Int32) (l4 : Int32) (l5 : Int32) : Option (Int32 × ST) :=
  let v81 := l5 + 1
  Kb S l1 l4 v81
noncomputable def x7_firstThatHolds_h10 : Nat → ST → Int32 → Int32 → Int32 → Option (Int32 × ST)
  | 0, _, _, _, _ => none
  | n + 1, S, l1, l4, l5 =>
    G (inb l4 7) <|
    if (S.2.1 11 (Int32.toNatClampNeg l4)) ≤ l5 then (some ((-2), S)) else (G (inb ((l4 * 144) + l5) 1008) <|
    let v36 := (S.2.1 10 (Int32.toNatClampNeg ((l4 * 144) + l5)))
    G (inb v36 144) <|
    if (S.2.1 2 (Int32.toNatClampNeg v36)) = l1 then (G (inb v36 144) <|
    G (inb v36 144) <|
    cal (x4_work S ((S.2.1 6 (Int32.toNatClampNeg v36))) ((S.2.1 7 (Int32.toNatClampNeg v36)))) fun r72 S72 =>
    if r72 = 0 then (x7_firstThatHolds_j81 (x7_firstThatHolds_h10 n) S72 l1 l4 l5) else (some (l5, S72))) else (x7_firstThatHolds_j81 (x7_firstThatHolds_h10 n) S l1 l4 l5))
noncomputable def x7_firstThatHolds (S : ST) (l1 : Int32) (l2 : Int32) : Option (Int32 × ST) :=
  cal (x7_levelOn S l2) fun r2 S2 =>
  x7_firstThatHolds_h10 FU S2 l1 r2 0
noncomputable def x7_valueOf (S : ST) (l1 : Int32) (l2 : Int32) : Option (Int32 × ST) :=
  cal (x7_inForceAt S l1 l2) fun r3 S3 =>
  if r3 = (-1) then (some (0, S3)) else (G (inb r3 144) <|
  G (inb r3 144) <|
  cal (x4_work S3 ((S3.2.1 5 (Int32.toNatClampNeg r3))) ((S3.2.1 6 (Int32.toNatClampNeg r3)))) fun r39 S39 =>
  cal (x4_result S39) fun r47 S47 =>
  some (r47, S47))
noncomputable def x8_moreHeard (S : ST) (l1 : Int32) (l2 : Int32) : Option (Int32 × ST) :=
  cal (x8_timesOnTape S l2) fun r2 S2 =>
  cal (x8_timesOnTape S2 l1) fun r7 S7 =>
  if r2 ≤ r7 then (some (l1, S7)) else (some (l2, S7))
noncomputable def x8_overlap_h16 : Nat → ST → Int32 → Option (Int32 × ST)
  | 0, _, _ => none
  | n + 1, S, l1 =>
    if l1 ≤ 0 then (some (0, S)) else (cal (x8_differences S l1) fun r22 S22 =>
    if (l1 / 3) < r22 then (let v33 := l1 + (-1)
    (x8_overlap_h16 n) S22 v33) else (some (l1, S22)))
noncomputable def x8_overlap (S : ST) : Option (Int32 × ST) :=
  G (inb 0 3) <|
  G (inb 1 3) <|
  let v15 := (if (S.2.1 27 (Int32.toNatClampNeg 1)) < (S.2.1 27 (Int32.toNatClampNeg 0)) then (S.2.1 27 (Int32.toNatClampNeg 1)) else (S.2.1 27 (Int32.toNatClampNeg 0)))
  x8_overlap_h16 FU S v15
noncomputable def x11_join (S : ST) : Option (Int32 × ST) :=
  cal (x8_overlap S) fun r4 S4 =>
  some (r4, S4)
noncomputable def x11_same (S : ST) (l1 : Int32) (l2 : Int32) (l3 : Int32) (l4 : Int32) : Option (Int32 × ST) :=
  cal0 (x11_isWord l1) fun r1 =>
  if r1 = 0 then (some ((-1), S)) else (cal0 (x11_isWord l2) fun r8 =>
  if r8 = 0 then (some ((-1), S)) else (cal0 (x11_isBelow l3 100) fun r17 =>
  if r17 = 0 then (some ((-1), S)) else (cal (x11_isKnown S l4) fun r26 S26 =>
  if r26 = 0 then (some ((-1), S26)) else (calV (x5_gather S26 l1 l3 l4) fun S42 =>
  cal (x5_gathered S42 l2) fun r50 S50 =>
  if r50 = 0 then (some (0, S50)) else (some (1, S50))))))
noncomputable def x2_parseCondition_j135 (Kb : ST → Int32 → Int32 → Option ST) (S : ST) (l2 : Int32) (s0 : Int32) : Option ST :=
  let v136 := l2 + 1
  Kb S s0 v136
noncomputable def x2_parseCondition_j134 (Kb : ST → Int32 → Int32 → Option ST) (S : ST) (l2 : Int32) : Option ST :=
  x2_parseCondition_j135 Kb S l2 0
noncomputable def x2_parseCondition_j119 (Kb : ST → Int32 → Int32 → Option ST) (S : ST) (l2 : Int32) : Option ST :=
  cal (x2_accept S ((S.1 7))) fun r124 S124 =>
  if r124 = 0 then (x2_parseCondition_j134 Kb S124 l2) else (x2_parseCondition_j135 Kb S124 l2 1)
noncomputable def x2_parseCondition_j103 (Kb : ST → Int32 → Int32 → Option ST) (S : ST) (l2 : Int32) : Option ST :=
  if (S.1 7) = 4 then (x2_parseCondition_j119 Kb S l2) else (if (S.1 7) = 3 then (x2_parseCondition_j119 Kb S l2) else (x2_parseCondition_j134 Kb S l2))
noncomputable def x2_parseCondition_j58 (Kb : ST → Int32 → Int32 → Option ST) (S : ST) (l2 : Int32) (l3 : Int32) (l4 : Int32) : Option ST :=
  cal (x2_accept S l4) fun r61 S61 =>
  calV (x2_parseExpression S61) fun S66 =>
  calV (x7_emit S66 (((30000 + (2 * l4)) + l3))) fun S83 =>
  if (S83.1 7) = 3 then (calV (x7_emit S83 40000) fun S100 =>
  x2_parseCondition_j103 Kb S100 l2) else (x2_parseCondition_j103 Kb S83 l2)
noncomputable def x2_parseCondition_j53 (Kb : ST → Int32 → Int32 → Option ST) (S : ST) (l2 : Int32) (l3 : Int32) (l4 : Int32) : Option ST :=
  calV (x2_refuse S 1) fun S55 =>
  x2_parseCondition_j58 Kb S55 l2 l3 l4
noncomputable def x2_parseCondition_h4 : Nat → ST → Int32 → Int32 → Option ST
  | 0, _, _, _ => none
  | n + 1, S, l1, l2 =>
    if l1 = 0 then (some S) else (if (S.1 9) = 0 then (if 400 < l2 then (some S) else (cal (x2_parseNots S) fun r23 S23 =>
    let v28 := (r23 - r23 / 2 * 2)
    calV (x2_parseExpression S23) fun S30 =>
    let v37 := (S30.1 7)
    if v37 < 31 then (x2_parseCondition_j53 (x2_parseCondition_h4 n) S30 l2 v28 v37) else (if v37 ≤ 34 then (x2_parseCondition_j58 (x2_parseCondition_h4 n) S30 l2 v28 v37) else (x2_parseCondition_j53 (x2_parseCondition_h4 n) S30 l2 v28 v37)))) else (some S))
noncomputable def x2_parseCondition (S : ST) : Option ST :=
  x2_parseCondition_h4 FU S 1 0
noncomputable def x3_fate (S : ST) (l1 : Int32) (l2 : Int32) : Option (Int32 × ST) :=
  G (inb l1 180) <|
  let v9 := (S.2.1 21 (Int32.toNatClampNeg l1))
  G (inb l1 180) <|
  let v19 := (S.2.1 14 (Int32.toNatClampNeg l1))
  G (inb v9 180) <|
  if (S.2.1 14 (Int32.toNatClampNeg v9)) ≤ v19 then (cal (x0_isStruckBy S v9 v19 l2) fun r45 S45 =>
  if r45 = 0 then (G (inb v9 180) <|
  G (inb l1 180) <|
  calV (x3_setVariables S45 ((v19 - (S45.2.1 14 (Int32.toNatClampNeg v9)))) ((S45.2.1 17 (Int32.toNatClampNeg l1)))) fun S75 =>
  cal (x7_firstThatHolds S75 1 v19) fun r89 S89 =>
  if r89 = (-2) then (some (3, S89)) else (cal (x7_firstThatHolds S89 2 v19) fun r111 S111 =>
  let S114 := sI S111 17 r111
  if (S114.1 17) = (-2) then (some (0, S114)) else (some (4, S114)))) else (some (2, S45))) else (some (1, S))
noncomputable def x3_keptFromCourt (S : ST) (l1 : Int32) : Option (Int32 × ST) :=
  cal (x7_firstThatHolds S 4 l1) fun r10 S10 =>
  some (r10, S10)
noncomputable def x3_putRight_j161 (S : ST) (l1 : Int32) (l2 : Int32) (l3 : Int32) (s0 : Int32) (s1 : Int32) : Option ST :=
  G (inb s1 12) <|
  let S161 := sA S 23 (upd (S.2.1 23) (Int32.toNatClampNeg s1) s0)
  cal (x0_heardWord S161 l1 l2) fun r174 S174 =>
  G (inb 9 12) <|
  let S177 := sA S174 23 (upd (S174.2.1 23) (Int32.toNatClampNeg 9) r174)
  cal (x0_linesBeside S177 l1 l2) fun r190 S190 =>
  G (inb 11 12) <|
  let S193 := sA S190 23 (upd (S190.2.1 23) (Int32.toNatClampNeg 11) r190)
  calV (x3_setVariables S193 0 0) fun S197 =>
  cal (x7_firstThatHolds S197 0 l3) fun r211 S211 =>
  let S214 := sI S211 13 r211
  if (S214.1 13) = (-2) then (some S214) else (cal (x7_valueOf S214 l3 ((S214.1 13))) fun r239 S239 =>
  let S257 := sI S239 12 (if 0 < (if r239 < 999 then r239 else 999) then (if r239 < 999 then r239 else 999) else 0)
  some S257)
noncomputable def x3_putRight_j129 (S : ST) (l1 : Int32) (l2 : Int32) (l3 : Int32) (s0 : Int32) (s1 : Int32) : Option ST :=
  G (inb s1 12) <|
  let S129 := sA S 23 (upd (S.2.1 23) (Int32.toNatClampNeg s1) s0)
  if (S129.1 18) = (-2) then (x3_putRight_j161 S129 l1 l2 l3 0 6) else (cal (x0_officeOf S129 ((S129.1 18)) l2) fun r158 S158 =>
  x3_putRight_j161 S158 l1 l2 l3 r158 6)
noncomputable def x3_putRight (S : ST) (l1 : Int32) (l2 : Int32) : Option ST :=
  G (inb l1 180) <|
  let v9 := (S.2.1 14 (Int32.toNatClampNeg l1))
  G (inb l1 180) <|
  cal (x0_sitter S ((S.2.1 16 (Int32.toNatClampNeg l1))) v9 l2) fun r26 S26 =>
  let S29 := sI S26 18 r26
  G (inb l1 180) <|
  let S42 := sI S29 12 (S29.2.1 17 (Int32.toNatClampNeg l1))
  let S47 := sI S42 14 0
  G (inb 1 12) <|
  let S59 := sA S47 23 (upd (S47.2.1 23) (Int32.toNatClampNeg 1) (S47.1 12))
  cal (x0_paperWord S59 l1 l2) fun r71 S71 =>
  G (inb 2 12) <|
  let S74 := sA S71 23 (upd (S71.2.1 23) (Int32.toNatClampNeg 2) r71)
  G (inb l1 180) <|
  G (inb 3 12) <|
  let S89 := sA S74 23 (upd (S74.2.1 23) (Int32.toNatClampNeg 3) (S74.2.1 22 (Int32.toNatClampNeg l1)))
  G (inb l1 180) <|
  G (inb 4 12) <|
  let S104 := sA S89 23 (upd (S89.2.1 23) (Int32.toNatClampNeg 4) (S89.2.1 15 (Int32.toNatClampNeg l1)))
  if (S104.1 18) = (-2) then (x3_putRight_j129 S104 l1 l2 v9 0 5) else (x3_putRight_j129 S104 l1 l2 v9 (((S104.1 18) + 1)) 5)
noncomputable def x8_joinWord (S : ST) (l1 : Int32) : Option (Int32 × ST) :=
  G (inb 0 3) <|
  cal (x8_overlap S) fun r7 S7 =>
  let v11 := ((S.2.1 27 (Int32.toNatClampNeg 0)) - r7)
  if l1 < 0 then (some ((-1), S7)) else (G (inb 1 3) <|
  if l1 < (v11 + (S7.2.1 27 (Int32.toNatClampNeg 1))) then (if v11 ≤ l1 then (G (inb 0 3) <|
  if l1 < (S7.2.1 27 (Int32.toNatClampNeg 0)) then (cal (x8_wordAt S7 0 l1) fun r65 S65 =>
  cal (x8_wordAt S65 1 ((l1 - v11))) fun r73 S73 =>
  cal (x8_moreHeard S73 r65 r73) fun r76 S76 =>
  some (r76, S76)) else (cal (x8_wordAt S7 1 ((l1 - v11))) fun r57 S57 =>
  some (r57, S57))) else (cal (x8_wordAt S7 0 l1) fun r38 S38 =>
  some (r38, S38))) else (some ((-1), S7)))
noncomputable def x11_joined (S : ST) (l1 : Int32) : Option (Int32 × ST) :=
  cal (x8_joinWord S l1) fun r5 S5 =>
  some (r5, S5)
noncomputable def x2_parseRule_j112 (S : ST) : Option ST :=
  cal (x2_accept S 26) fun r115 S115 =>
  if r115 = 0 then (some S115) else (calV (x7_closeRule S115) fun S125 =>
  some S125)
noncomputable def x2_parseRule_j102 (S : ST) : Option ST :=
  cal (x2_accept S 2) fun r104 S104 =>
  calV (x2_parseCondition S104) fun S109 =>
  x2_parseRule_j112 S109
noncomputable def x2_parseRule_j85 (S : ST) (l2 : Int32) : Option ST :=
  if l2 = 5 then (x2_parseRule_j112 S) else (if l2 = 0 then (if (S.1 7) = 2 then (x2_parseRule_j102 S) else (x2_parseRule_j112 S)) else (x2_parseRule_j102 S))
noncomputable def x2_parseRule (S : ST) (l1 : Int32) : Option ST :=
  let v7 := ((S.1 7) - 6)
  if v7 < 0 then (calV (x2_refuse S 1) fun S19 =>
  some S19) else (if v7 ≤ 5 then (if l1 < 24 then (cal (x2_accept S ((S.1 7))) fun r40 S40 =>
  calV (x7_openRule S40 v7 ((S40.2.2 1 0)) l1) fun S54 =>
  cal (x2_accept S54 24) fun r60 S60 =>
  if v7 = 0 then (cal (x2_accept S60 1) fun r70 S70 =>
  calV (x2_parseExpression S70) fun S75 =>
  calV (x7_beginCondition S75) fun S82 =>
  x2_parseRule_j85 S82 v7) else (x2_parseRule_j85 S60 v7)) else (calV (x2_refuse S 2) fun S31 =>
  some S31)) else (calV (x2_refuse S 1) fun S19 =>
  some S19))
noncomputable def x3_mendAll_j66 (Kb : ST → Int32 → Int32 → Int32 → Int32 → Int32 → Option ST) (S : ST) (l1 : Int32) (l2 : Int32) (l3 : Int32) (l4 : Int32) (l5 : Int32) : Option ST :=
  let v66 := l5 + 1
  Kb S l1 l2 l3 l4 v66
noncomputable def x3_mendAll_h11 : Nat → ST → Int32 → Int32 → Int32 → Int32 → Int32 → Option ST
  | 0, _, _, _, _, _, _ => none
  | n + 1, S, l1, l2, l3, l4, l5 =>
    if l4 ≤ l5 then (some S) else (cal (x0_isMendBy S l5 l1 l2) fun r26 S26 =>
    if r26 = 0 then (x3_mendAll_j66 (x3_mendAll_h11 n) S26 l1 l2 l3 l4 l5) else (cal (x3_fate S26 l5 l3) fun r36 S36 =>
    if r36 = 0 then (G (inb l5 180) <|
    let S53 := sI S36 12 (S36.2.1 17 (Int32.toNatClampNeg l5))
    let S63 := sI S53 14 ((S53.1 14) + 1)
    x3_mendAll_j66 (x3_mendAll_h11 n) S63 l1 l2 l3 l4 l5) else (x3_mendAll_j66 (x3_mendAll_h11 n) S36 l1 l2 l3 l4 l5)))
noncomputable def x3_mendAll (S : ST) (l1 : Int32) (l2 : Int32) (l3 : Int32) (l4 : Int32) : Option ST :=
  calV (x3_putRight S l1 l3) fun S3 =>
  let v9 := (l1 + 1)
  x3_mendAll_h11 FU S3 l1 l2 l3 l4 v9
noncomputable def x3_fateOnItsDay (S : ST) (l1 : Int32) (l2 : Int32) : Option (Int32 × ST) :=
  G (inb l1 180) <|
  G (inb l1 180) <|
  calV (x3_mendAll S ((S.2.1 21 (Int32.toNatClampNeg l1))) ((S.2.1 14 (Int32.toNatClampNeg l1))) l2 l1) fun S21 =>
  cal (x3_fate S21 l1 l2) fun r27 S27 =>
  some (r27, S27)
noncomputable def x3_print (S : ST) (l1 : Int32) (l2 : Int32) (l3 : Int32) : Option ST :=
  calV (x3_mendAll S l1 l2 l3 l3) fun S5 =>
  cal (x0_isStruckBy S5 l1 l2 l3) fun r16 S16 =>
  G (isB r16) <|
  let S19 := sI S16 15 r16
  G (inb l1 180) <|
  calV (x3_setVariables S19 ((l2 - (S19.2.1 14 (Int32.toNatClampNeg l1)))) 0) fun S35 =>
  cal (x7_firstThatHolds S35 3 l2) fun r49 S49 =>
  let S52 := sI S49 16 r49
  some S52
noncomputable def x11_bar (S : ST) (l1 : Int32) (l2 : Int32) : Option (Int32 × ST) :=
  cal (x11_isKnown S l2) fun r2 S2 =>
  if r2 = 0 then (some ((-1), S2)) else (cal (x0_isOfKind S2 l1 0 l2) fun r15 S15 =>
  if r15 = 0 then (some ((-1), S15)) else (cal (x3_fateOnItsDay S15 l1 l2) fun r29 S29 =>
  if r29 = 4 then (some ((S29.1 17), S29)) else (some ((-1), S29))))
noncomputable def x11_court_j63 (S : ST) (l1 : Int32) (l3 : Int32) (s0 : Int32) (s1 : Int32) (s2 : Int32) : Option (Int32 × ST) :=
  calV (x3_print S s2 s1 s0) fun S63 =>
  if l3 = 1 then (G (inb l1 180) <|
  cal (x3_keptFromCourt S63 ((S63.2.1 14 (Int32.toNatClampNeg l1)))) fun r84 S84 =>
  some (r84, S84)) else (if (S63.1 15) = 0 then (some ((S63.1 12), S63)) else (some (0, S63)))
noncomputable def x11_court (S : ST) (l1 : Int32) (l2 : Int32) (l3 : Int32) : Option (Int32 × ST) :=
  cal (x11_isKnown S l2) fun r2 S2 =>
  if r2 = 0 then (some ((-1), S2)) else (cal (x0_isOfKind S2 l1 3 l2) fun r15 S15 =>
  if r15 = 0 then (some ((-1), S15)) else (cal0 (x11_isBelow l3 3) fun r23 =>
  if r23 = 0 then (some ((-1), S15)) else (G (inb l1 180) <|
  G (inb l1 180) <|
  if l3 = 2 then (x11_court_j63 S15 l1 l3 l2 ((S15.2.1 14 (Int32.toNatClampNeg l1))) ((S15.2.1 21 (Int32.toNatClampNeg l1)))) else (x11_court_j63 S15 l1 l3 l1 ((S15.2.1 14 (Int32.toNatClampNeg l1))) ((S15.2.1 21 (Int32.toNatClampNeg l1)))))))
noncomputable def x11_mended (S : ST) (l1 : Int32) (l2 : Int32) : Option (Int32 × ST) :=
  cal (x11_isKnown S l2) fun r2 S2 =>
  if r2 = 0 then (some ((-1), S2)) else (cal (x0_isOfKind S2 l1 0 l2) fun r15 S15 =>
  if r15 = 0 then (some ((-1), S15)) else (cal (x3_fateOnItsDay S15 l1 l2) fun r29 S29 =>
  some (r29, S29)))
noncomputable def x11_printed (S : ST) (l1 : Int32) (l2 : Int32) (l3 : Int32) (l4 : Int32) : Option (Int32 × ST) :=
  cal (x11_isKnown S l3) fun r2 S2 =>
  if r2 = 0 then (some ((-1), S2)) else (cal (x0_isOfKind S2 l1 4 l3) fun r15 S15 =>
  if r15 = 0 then (some ((-1), S15)) else (cal0 (x11_isBelow l2 100) fun r24 =>
  if r24 = 0 then (some ((-1), S15)) else (G (inb l1 180) <|
  if l2 < (S15.2.1 14 (Int32.toNatClampNeg l1)) then (some ((-1), S15)) else (cal0 (x11_isBelow l4 6) fun r47 =>
  if r47 = 0 then (some ((-1), S15)) else (calV (x3_print S15 l1 l2 l3) fun S62 =>
  if l4 = 0 then (some ((S62.1 12), S62)) else (if l4 = 1 then (if (S62.1 15) = 0 then (some (0, S62)) else (some (1, S62))) else (if l4 = 2 then (some ((S62.1 16), S62)) else (if l4 = 3 then (some ((S62.1 13), S62)) else (if l4 = 4 then (some ((S62.1 14), S62)) else (some ((S62.1 18), S62)))))))))))
noncomputable def x1_listNaming_j108 (Kb : ST → Int32 → Int32 → Int32 → Option ST) (S : ST) (l2 : Int32) (l3 : Int32) (l4 : Int32) : Option ST :=
  let v108 := l4 + 1
  Kb S l2 l3 v108
noncomputable def x1_listNaming_h18 : Nat → ST → Int32 → Int32 → Int32 → Option ST
  | 0, _, _, _, _ => none
  | n + 1, S, l2, l3, l4 =>
    if l3 ≤ l4 then (some S) else (G (inb l4 180) <|
    if (S.2.1 13 (Int32.toNatClampNeg l4)) = 4 then (G (inb l4 180) <|
    if l2 < (S.2.1 14 (Int32.toNatClampNeg l4)) then (x1_listNaming_j108 (x1_listNaming_h18 n) S l2 l3 l4) else (calV (x3_print S l4 l2 l3) fun S60 =>
    if (S60.1 16) = (-2) then (if (S60.1 15) = 0 then (cal (x5_gathered S60 ((S60.1 12))) fun r96 S96 =>
    if r96 = 0 then (x1_listNaming_j108 (x1_listNaming_h18 n) S96 l2 l3 l4) else (calV (x1_insert S96 l4) fun S105 =>
    x1_listNaming_j108 (x1_listNaming_h18 n) S105 l2 l3 l4)) else (x1_listNaming_j108 (x1_listNaming_h18 n) S60 l2 l3 l4)) else (x1_listNaming_j108 (x1_listNaming_h18 n) S60 l2 l3 l4))) else (x1_listNaming_j108 (x1_listNaming_h18 n) S l2 l3 l4))
noncomputable def x1_listNaming (S : ST) (l1 : Int32) (l2 : Int32) (l3 : Int32) : Option ST :=
  calV (x5_gather S l1 l2 l3) fun S7 =>
  let S12 := sI S7 19 0
  x1_listNaming_h18 FU S12 l2 l3 0
noncomputable def x1_listPrint_j71 (Kb : ST → Int32 → Int32 → Int32 → Int32 → Option ST) (S : ST) (l1 : Int32) (l2 : Int32) (l3 : Int32) (l4 : Int32) : Option ST :=
  let v71 := l4 + 1
  Kb S l1 l2 l3 v71
noncomputable def x1_listPrint_h8 : Nat → ST → Int32 → Int32 → Int32 → Int32 → Option ST
  | 0, _, _, _, _, _ => none
  | n + 1, S, l1, l2, l3, l4 =>
    if l3 ≤ l4 then (some S) else (G (inb l4 180) <|
    if (S.2.1 13 (Int32.toNatClampNeg l4)) = 4 then (G (inb l4 180) <|
    if (S.2.1 14 (Int32.toNatClampNeg l4)) = l1 then (calV (x3_print S l4 l2 l3) fun S50 =>
    if (S50.1 16) = (-2) then (calV (x1_insert S50 l4) fun S68 =>
    x1_listPrint_j71 (x1_listPrint_h8 n) S68 l1 l2 l3 l4) else (x1_listPrint_j71 (x1_listPrint_h8 n) S50 l1 l2 l3 l4)) else (x1_listPrint_j71 (x1_listPrint_h8 n) S l1 l2 l3 l4)) else (x1_listPrint_j71 (x1_listPrint_h8 n) S l1 l2 l3 l4))
noncomputable def x1_listPrint (S : ST) (l1 : Int32) (l2 : Int32) (l3 : Int32) : Option ST :=
  let S2 := sI S 19 0
  x1_listPrint_h8 FU S2 l1 l2 l3 0
noncomputable def x11_at (S : ST) (l1 : Int32) (l2 : Int32) (l3 : Int32) (l4 : Int32) : Option (Int32 × ST) :=
  cal (x11_isPrint S l1 l2 l3) fun r4 S4 =>
  if r4 = 0 then (some ((-1), S4)) else (calV (x1_listPrint S4 l1 l2 l3) fun S19 =>
  cal (x1_entry S19 l4) fun r28 S28 =>
  some (r28, S28))
noncomputable def x11_found (S : ST) (l1 : Int32) (l2 : Int32) (l3 : Int32) (l4 : Int32) : Option (Int32 × ST) :=
  cal0 (x11_isWord l1) fun r1 =>
  if r1 = 0 then (some ((-1), S)) else (cal0 (x11_isBelow l2 100) fun r10 =>
  if r10 = 0 then (some ((-1), S)) else (cal (x11_isKnown S l3) fun r18 S18 =>
  if r18 = 0 then (some ((-1), S18)) else (calV (x1_listNaming S18 l1 l2 l3) fun S33 =>
  cal (x1_entry S33 l4) fun r42 S42 =>
  some (r42, S42))))
noncomputable def x11_lines (S : ST) (l1 : Int32) (l2 : Int32) (l3 : Int32) : Option (Int32 × ST) :=
  cal (x11_isPrint S l1 l2 l3) fun r4 S4 =>
  if r4 = 0 then (some ((-1), S4)) else (calV (x1_listPrint S4 l1 l2 l3) fun S19 =>
  some ((S19.1 19), S19))
noncomputable def x11_names (S : ST) (l1 : Int32) (l2 : Int32) (l3 : Int32) : Option (Int32 × ST) :=
  cal0 (x11_isWord l1) fun r1 =>
  if r1 = 0 then (some ((-1), S)) else (cal0 (x11_isBelow l2 100) fun r10 =>
  if r10 = 0 then (some ((-1), S)) else (cal (x11_isKnown S l3) fun r18 S18 =>
  if r18 = 0 then (some ((-1), S18)) else (calV (x1_listNaming S18 l1 l2 l3) fun S33 =>
  some ((S33.1 19), S33))))
noncomputable def x6_search_j155 (rec : ST → Int32 → Int32 → Option ST) (Kb : ST → Int32 → Int32 → Int32 → Option ST) (S : ST) (l1 : Int32) (l2 : Int32) (l3 : Int32) : Option ST :=
  let v155 := l3 + 1
  Kb S l1 l2 v155
noncomputable def x6_search_h53 (rec : ST → Int32 → Int32 → Option ST) : Nat → ST → Int32 → Int32 → Int32 → Option ST
  | 0, _, _, _, _ => none
  | n + 1, S, l1, l2, l3 =>
    if (S.1 21) ≤ l3 then (some S) else (G (inb l3 4) <|
    let v73 := (if l2 < (l1 + (S.2.1 29 (Int32.toNatClampNeg l3))) then (l1 + (S.2.1 29 (Int32.toNatClampNeg l3))) else l2)
    G (inb l3 4) <|
    if l1 < (S.2.1 31 (Int32.toNatClampNeg l3)) then (x6_search_j155 rec (x6_search_h53 rec n) S l1 l2 l3) else (G (inb l3 4) <|
    if (((S.2.1 30 (Int32.toNatClampNeg l3)) >>> (l1 &&& 31)) &&& 1) = 0 then (if (S.1 22) ≤ v73 then (x6_search_j155 rec (x6_search_h53 rec n) S l1 l2 l3) else (G (inb l3 4) <|
    let v113 := (S.2.1 31 (Int32.toNatClampNeg l3))
    G (inb l3 4) <|
    G (inb l3 4) <|
    let S130 := sA S 31 (upd (S.2.1 31) (Int32.toNatClampNeg l3) ((l1 + (S.2.1 29 (Int32.toNatClampNeg l3))) + 1))
    G (inb l1 8) <|
    let S137 := sA S130 32 (upd (S130.2.1 32) (Int32.toNatClampNeg l1) l3)
    calV (rec S137 ((l1 + 1)) v73) fun S144 =>
    G (inb l3 4) <|
    let S154 := sA S144 31 (upd (S144.2.1 31) (Int32.toNatClampNeg l3) v113)
    x6_search_j155 rec (x6_search_h53 rec n) S154 l1 l2 l3)) else (x6_search_j155 rec (x6_search_h53 rec n) S l1 l2 l3)))
noncomputable def x6_search_j30 (rec : ST → Int32 → Int32 → Option ST) (S : ST) (l2 : Int32) : Option ST :=
  let S32 := sI S 22 l2
  G (cpyOK 0 0 8 8 8) <|
  let S47 := sA S32 33 (va_cpy (S32.2.1 32) (S32.2.1 33) (Int32.toNatClampNeg 0) (Int32.toNatClampNeg 0) (Int32.toNatClampNeg 8))
  some S47
noncomputable def x6_search (rec : ST → Int32 → Int32 → Option ST) (S : ST) (l1 : Int32) (l2 : Int32) : Option ST :=
  let S9 := sI S 23 (if (S.1 23) < l1 then l1 else (S.1 23))
  if l1 < 0 then (x6_search_j30 rec S9 l2) else (if (S9.1 20) ≤ l1 then (x6_search_j30 rec S9 l2) else (if l1 < 8 then (x6_search_h53 rec FU S9 l1 l2 0) else (x6_search_j30 rec S9 l2)))
noncomputable def x6_searchN : Nat → ST → Int32 → Int32 → Option ST
  | 0, _, _, _ => none
  | n + 1, S, a, b => x6_search (x6_searchN n) S a b
noncomputable def x6_arrange_j74 (S : ST) (s0 : Int32) : Option (Int32 × ST) :=
  let S74 := sI S 24 s0
  if (S74.1 22) = 100 then (some (((-1) - (S74.1 23)), S74)) else (some ((S74.1 22), S74))
noncomputable def x6_arrange_j50 (S : ST) : Option (Int32 × ST) :=
  calV (x6_searchN 20 S 0 0) fun S53 =>
  if (S53.1 22) = 100 then (x6_arrange_j74 S53 0) else (x6_arrange_j74 S53 ((S53.1 20)))
noncomputable def x6_arrange_h32 (K50 : ST → Option (Int32 × ST)) : Nat → ST → Int32 → Option (Int32 × ST)
  | 0, _, _ => none
  | n + 1, S, l3 =>
    if 4 ≤ l3 then (K50 S) else (G (inb l3 4) <|
    let S43 := sA S 31 (upd (S.2.1 31) (Int32.toNatClampNeg l3) 0)
    let v44 := l3 + 1
    (x6_arrange_h32 K50 n) S43 v44)
noncomputable def x6_arrange (S : ST) (l1 : Int32) (l2 : Int32) : Option (Int32 × ST) :=
  let S7 := sI S 20 (if 8 < l1 then 8 else l1)
  let S16 := sI S7 21 (if 4 < l2 then 4 else l2)
  let S22 := sI S16 22 100
  let S27 := sI S22 23 0
  x6_arrange_h32 (x6_arrange_j50) FU S27 0
noncomputable def x11_roster (S : ST) (l1 : Int32) (l2 : Int32) : Option (Int32 × ST) :=
  if l1 < 1 then (some ((-100), S)) else (if 8 < l1 then (some ((-100), S)) else (if l2 < 1 then (some ((-100), S)) else (if l2 ≤ 4 then (cal (x6_arrange S l1 l2) fun r30 S30 =>
  some (r30, S30)) else (some ((-100), S)))))
