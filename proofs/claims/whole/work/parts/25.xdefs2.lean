noncomputable def x10_cutLetters_j52 (S : ST) (l2 : Int32) (l3 : Int64) (l5 : Int32) : Option (Int32 × ST) :=
  if (l5 - l2) ≤ 8 then (G (inb (S.1 27) 401) <|
  let S79 := sL S 2 (vp_updL (S.2.2 2) (Int32.toNatClampNeg (S.1 27)) l3)
  cal0 (x10_wordToken l3) fun r82 =>
  cal (x10_keep S79 r82 l5) fun r87 S87 =>
  some (r87, S87)) else (cal (x10_keep S 38 l5) fun r66 S66 =>
  some (r66, S66))
noncomputable def x10_cutLetters_j46 (Kb : ST → Int32 → Int64 → Int32 → Option (Int32 × ST)) (K52 : ST → Int32 → Int64 → Int32 → Option (Int32 × ST)) (S : ST) (l2 : Int32) (l3 : Int64) (l5 : Int32) : Option (Int32 × ST) :=
  let v46 := l5 + 1
  Kb S l2 l3 v46
noncomputable def x10_cutLetters_h5 (K52 : ST → Int32 → Int64 → Int32 → Option (Int32 × ST)) : Nat → ST → Int32 → Int64 → Int32 → Option (Int32 × ST)
  | 0, _, _, _, _ => none
  | n + 1, S, l2, l3, l5 =>
    if (S.1 1) ≤ l5 then (K52 S l2 l3 l5) else (cal (x9_byteAt S l5) fun r17 S17 =>
    cal0 (x10_isLetter r17) fun r20 =>
    if r20 = 0 then (K52 S17 l2 l3 l5) else (if 8 ≤ (l5 - l2) then (x10_cutLetters_j46 (x10_cutLetters_h5 K52 n) K52 S17 l2 l3 l5) else (cal (x9_byteAt S17 l5) fun r39 S39 =>
    cal0 (x10_packLetter l3 r39) fun r42 =>
    x10_cutLetters_j46 (x10_cutLetters_h5 K52 n) K52 S39 l2 r42 l5)))
noncomputable def x10_cutLetters (S : ST) (l2 : Int32) : Option (Int32 × ST) :=
  x10_cutLetters_h5 (x10_cutLetters_j52) FU S l2 0 l2
noncomputable def x10_cutOne (S : ST) (l2 : Int32) : Option (Int32 × ST) :=
  cal (x9_byteAt S l2) fun r2 S2 =>
  if r2 = (-1) then (cal (x10_keep S2 37 l2) fun r15 S15 =>
  some (r15, S15)) else (cal0 (x10_isLetter r2) fun r20 =>
  if r20 = 0 then (cal0 (x10_isDigit r2) fun r34 =>
  if r34 = 0 then (cal (x9_byteAt S2 ((l2 + 1))) fun r53 S53 =>
  if r53 = 61 then (cal (x10_cutSign S53 r2 1 l2) fun r67 S67 =>
  some (r67, S67)) else (cal (x10_cutSign S53 r2 0 l2) fun r67 S67 =>
  some (r67, S67))) else (cal (x10_cutDigits S2 l2) fun r43 S43 =>
  some (r43, S43))) else (cal (x10_cutLetters S2 l2) fun r29 S29 =>
  some (r29, S29)))
noncomputable def x10_cut_j91 (Kb : ST → Int32 → Int32 → Option ST) (S : ST) (l2 : Int32) (s0 : Int32) : Option ST :=
  let S99 := sI S 27 ((S.1 27) + 1)
  Kb S99 l2 s0
noncomputable def x10_cut_j90 (Kb : ST → Int32 → Int32 → Option ST) (S : ST) (l2 : Int32) : Option ST :=
  x10_cut_j91 Kb S l2 0
noncomputable def x10_cut_h9 : Nat → ST → Int32 → Int32 → Option ST
  | 0, _, _, _ => none
  | n + 1, S, l2, l3 =>
    if l3 = 0 then (some S) else (if 401 ≤ (S.1 27) then (some S) else (cal (x9_behindBlanks S l2) fun r27 S27 =>
    G (inb (S27.1 27) 401) <|
    let S40 := sA S27 36 (upd (S27.2.1 36) (Int32.toNatClampNeg (S27.1 27)) r27)
    G (inb (S40.1 27) 401) <|
    let S50 := sL S40 2 (vp_updL (S40.2.2 2) (Int32.toNatClampNeg (S40.1 27)) 0)
    cal (x10_cutOne S50 r27) fun r54 S54 =>
    G (inb (S54.1 27) 401) <|
    if (S54.2.1 35 (Int32.toNatClampNeg (S54.1 27))) = 37 then (x10_cut_j90 (x10_cut_h9 n) S54 r54) else (G (inb (S54.1 27) 401) <|
    if (S54.2.1 35 (Int32.toNatClampNeg (S54.1 27))) = 38 then (x10_cut_j90 (x10_cut_h9 n) S54 r54) else (x10_cut_j91 (x10_cut_h9 n) S54 r54 1))))
noncomputable def x10_cut (S : ST) : Option ST :=
  let S6 := sI S 27 0
  x10_cut_h9 FU S6 0 1
noncomputable def x2_parse_j135 (S : ST) (l2 : Int32) : Option (Int32 × ST) :=
  if (S.1 9) = 0 then (calV (x7_closeText S l2) fun S147 =>
  some ((S147.1 9), S147)) else (some ((S.1 9), S))
noncomputable def x2_parse_j112 (S : ST) (l2 : Int32) (l3 : Int32) : Option (Int32 × ST) :=
  if (S.1 9) = 0 then (if l2 < 100 then (x2_parse_j135 S l2) else (let S127 := sI S 9 5
  let S132 := sI S127 10 l3
  x2_parse_j135 S132 l2)) else (x2_parse_j135 S l2)
noncomputable def x2_parse_h77 (K112 : ST → Int32 → Int32 → Option (Int32 × ST)) : Nat → ST → Int32 → Int32 → Int32 → Option (Int32 × ST)
  | 0, _, _, _, _ => none
  | n + 1, S, l2, l3, l4 =>
    if 24 < l4 then (K112 S l2 l3) else (if (S.1 9) = 0 then (if (S.1 7) = 37 then (K112 S l2 l3) else (calV (x2_parseRule S l4) fun S103 =>
    let v106 := l4 + 1
    (x2_parse_h77 K112 n) S103 l2 l3 v106)) else (K112 S l2 l3))
noncomputable def x2_parse_j74 (S : ST) (l2 : Int32) (l3 : Int32) : Option (Int32 × ST) :=
  x2_parse_h77 (x2_parse_j112) FU S l2 l3 0
noncomputable def x2_parse (S : ST) : Option (Int32 × ST) :=
  calV (x10_cut S) fun S9 =>
  calV (x7_openText S9) fun S16 =>
  let S21 := sI S16 9 0
  let S26 := sI S21 10 (-1)
  calV (x2_moveTo S26 0) fun S31 =>
  if (S31.1 7) = 0 then (cal (x2_accept S31 0) fun r43 S43 =>
  if r43 = 0 then (x2_parse_j74 S43 0 ((-1))) else (let v54 := (Int64.toInt32 (S43.2.2 1 0))
  let v59 := (S43.1 8)
  cal (x2_accept S43 25) fun r63 S63 =>
  cal (x2_accept S63 26) fun r70 S70 =>
  x2_parse_j74 S70 v54 v59)) else (x2_parse_j74 S31 0 ((-1)))
noncomputable def x11_read (S : ST) : Option (Int32 × ST) :=
  if (S.1 4) < 6 then (cal (x2_parse S) fun r23 S23 =>
  let S35 := sI S23 0 (S23.1 10)
  let S43 := sI S35 1 0
  some (r23, S43)) else (some ((-2), S))
