noncomputable def m_back (S : ST) (l1 : Int32) : Option (Int32 × ST) :=
  if l1 < 0 then (some ((-1), S)) else (if l1 ≤ (S.1 1) then (let S21 := sI S 1 ((S.1 1) - l1)
  some ((S21.1 1), S21)) else (some ((-1), S)))
noncomputable def m_byteAt (S : ST) (l1 : Int32) : Option (Int32 × ST) :=
  if (S.1 2) ≤ l1 then (some (0, S)) else (G (inb l1 2000) <|
  some (((S.2.1 1 (Int32.toNatClampNeg l1)) &&& 255), S))
noncomputable def m_changed (S : ST) : Option ST :=
  let S2 := sI S 16 (-1)
  some S2
noncomputable def m_clear_h2 : Nat → ST → Int32 → Option ST
  | 0, _, _ => none
  | n + 1, S, l1 =>
    if 3 ≤ l1 then (some S) else (G (inb l1 3) <|
    let S13 := sA S 34 (upd (S.2.1 34) (Int32.toNatClampNeg l1) 0)
    let v14 := l1 + 1
    (m_clear_h2 n) S13 v14)
noncomputable def m_clear (S : ST) : Option ST :=
  m_clear_h2 FU S 0
noncomputable def m_comes_h69 : Nat → ST → Int32 → Option ST
  | 0, _, _ => none
  | n + 1, S, l3 =>
    if (S.1 17) ≤ l3 then (some S) else (G (inb (l3 + 1) 144) <|
    G (inb l3 144) <|
    let S90 := sA S 23 (upd (S.2.1 23) (Int32.toNatClampNeg l3) (S.2.1 23 (Int32.toNatClampNeg (l3 + 1))))
    let v91 := l3 + 1
    (m_comes_h69 n) S90 v91)
noncomputable def m_comes_j41 (S : ST) (l1 : Int32) (l2 : Int32) : Option ST :=
  G (inb l1 168) <|
  if (S.2.1 7 (Int32.toNatClampNeg l1)) = 5 then (if l2 = (-1) then (some S) else (let S64 := sI S 17 ((S.1 17) - 1)
  m_comes_h69 FU S64 l2)) else (if l2 = (-1) then (let v107 := (S.1 17)
  let S115 := sI S 17 ((S.1 17) + 1)
  G (inb v107 144) <|
  let S124 := sA S115 23 (upd (S115.2.1 23) (Int32.toNatClampNeg v107) l1)
  some S124) else (G (inb l2 144) <|
  let S124 := sA S 23 (upd (S.2.1 23) (Int32.toNatClampNeg l2) l1)
  some S124))
noncomputable def m_comes_j35 (Kb : ST → Int32 → Int32 → Int32 → Option ST) (K41 : ST → Int32 → Int32 → Option ST) (S : ST) (l1 : Int32) (l2 : Int32) (l3 : Int32) : Option ST :=
  let v35 := l3 + 1
  Kb S l1 l2 v35
noncomputable def m_comes_h4 (K41 : ST → Int32 → Int32 → Option ST) : Nat → ST → Int32 → Int32 → Int32 → Option ST
  | 0, _, _, _, _ => none
  | n + 1, S, l1, l2, l3 =>
    if (S.1 17) ≤ l3 then (K41 S l1 l2) else (G (inb l3 144) <|
    G (inb (S.2.1 23 (Int32.toNatClampNeg l3)) 168) <|
    G (inb l1 168) <|
    if (lg_cmp (S.2.2 2 (Int32.toNatClampNeg (S.2.1 23 (Int32.toNatClampNeg l3)))) (S.2.2 2 (Int32.toNatClampNeg l1))) = 0 then (m_comes_j35 (m_comes_h4 K41 n) K41 S l1 l3 l3) else (m_comes_j35 (m_comes_h4 K41 n) K41 S l1 l2 l3))
noncomputable def m_comes (S : ST) (l1 : Int32) : Option ST :=
  m_comes_h4 (m_comes_j41) FU S l1 (-1) 0
noncomputable def m_count (S : ST) (l1 : Int32) : Option (Int32 × ST) :=
  if l1 = 0 then (some ((S.1 18), S)) else (if l1 = 1 then (some ((S.1 11), S)) else (if l1 = 2 then (some ((S.1 1), S)) else (if l1 = 3 then (G (inb 0 3) <|
  some ((S.2.1 34 (Int32.toNatClampNeg 0)), S)) else (if l1 = 4 then (G (inb 1 3) <|
  some ((S.2.1 34 (Int32.toNatClampNeg 1)), S)) else (if l1 = 5 then (G (inb 2 3) <|
  some ((S.2.1 34 (Int32.toNatClampNeg 2)), S)) else (some ((-1), S)))))))
noncomputable def m_emit (S : ST) (l1 : Int32) (l2 : Int32) : Option ST :=
  G (inb (S.1 13) 2800) <|
  let S9 := sA S 18 (upd (S.2.1 18) (Int32.toNatClampNeg (S.1 13)) l1)
  G (inb (S9.1 13) 2800) <|
  let S19 := sA S9 19 (upd (S9.2.1 19) (Int32.toNatClampNeg (S9.1 13)) l2)
  let S27 := sI S19 13 ((S19.1 13) + 1)
  some S27
noncomputable def m_fail (S : ST) (l1 : Int32) : Option ST :=
  if (S.1 6) ≤ 0 then (let S10 := sI S 6 l1
  G (inb (S10.1 4) 403) <|
  let S23 := sI S10 7 (S10.2.1 3 (Int32.toNatClampNeg (S10.1 4)))
  some S23) else (some S)
noncomputable def m_has_j57 (Kb : ST → Int32 → Int32 → Int32 → Int32 → Int32 → Option (Int32 × ST)) (S : ST) (l1 : Int32) (l2 : Int32) (l3 : Int32) (l4 : Int32) (l5 : Int32) : Option (Int32 × ST) :=
  let v57 := l5 + 1
  Kb S l1 l2 l3 l4 v57
noncomputable def m_has_h3 : Nat → ST → Int32 → Int32 → Int32 → Int32 → Int32 → Option (Int32 × ST)
  | 0, _, _, _, _, _, _ => none
  | n + 1, S, l1, l2, l3, l4, l5 =>
    if l4 ≤ l5 then (some (0, S)) else (G (inb l5 180) <|
    if (S.2.1 24 (Int32.toNatClampNeg l5)) = 9 then (G (inb l5 180) <|
    if (S.2.1 26 (Int32.toNatClampNeg l5)) = l1 then (G (inb l5 180) <|
    if (S.2.1 27 (Int32.toNatClampNeg l5)) = l2 then (G (inb l5 180) <|
    if (S.2.1 28 (Int32.toNatClampNeg l5)) = l3 then (some (1, S)) else (m_has_j57 (m_has_h3 n) S l1 l2 l3 l4 l5)) else (m_has_j57 (m_has_h3 n) S l1 l2 l3 l4 l5)) else (m_has_j57 (m_has_h3 n) S l1 l2 l3 l4 l5)) else (m_has_j57 (m_has_h3 n) S l1 l2 l3 l4 l5))
noncomputable def m_has (S : ST) (l1 : Int32) (l2 : Int32) (l3 : Int32) (l4 : Int32) : Option (Int32 × ST) :=
  m_has_h3 FU S l1 l2 l3 l4 0
noncomputable def m_in (l0 : Int32) (l1 : Int32) (l2 : Int32) : Option Int32 :=
  if l0 < l1 then (some 0) else (if l2 < l0 then (some 0) else (some 1))
noncomputable def m_is (S : ST) (l1 : Int32) : Option (Int32 × ST) :=
  if (S.1 6) = 0 then (G (inb (S.1 4) 403) <|
  if (S.2.1 2 (Int32.toNatClampNeg (S.1 4))) = l1 then (some (1, S)) else (some (0, S))) else (some (0, S))
noncomputable def m_isDigit (l0 : Int32) : Option Int32 :=
  if l0 < 48 then (some 0) else (if 57 < l0 then (some 0) else (some 1))
noncomputable def m_isKnown (S : ST) (l1 : Int32) : Option (Int32 × ST) :=
  if l1 < 0 then (some (0, S)) else (if (S.1 18) < l1 then (some (0, S)) else (some (1, S)))
noncomputable def m_isLetter (l0 : Int32) : Option Int32 :=
  if l0 < 97 then (some 0) else (if 122 < l0 then (some 0) else (some 1))
noncomputable def m_isLine (S : ST) (l1 : Int32) (l2 : Int32) : Option (Int32 × ST) :=
  if l1 < 0 then (some (0, S)) else (if l2 ≤ l1 then (some (0, S)) else (G (inb l1 180) <|
  if (S.2.1 24 (Int32.toNatClampNeg l1)) = 0 then (some (1, S)) else (some (0, S))))
noncomputable def m_isStruckBy_j47 (Kb : ST → Int32 → Int32 → Int32 → Int32 → Option (Int32 × ST)) (S : ST) (l1 : Int32) (l2 : Int32) (l3 : Int32) (l4 : Int32) : Option (Int32 × ST) :=
  let v47 := l4 + 1
  Kb S l1 l2 l3 v47
noncomputable def m_isStruckBy_h5 : Nat → ST → Int32 → Int32 → Int32 → Int32 → Option (Int32 × ST)
  | 0, _, _, _, _, _ => none
  | n + 1, S, l1, l2, l3, l4 =>
    if l3 ≤ l4 then (some (0, S)) else (G (inb l4 180) <|
    if (S.2.1 24 (Int32.toNatClampNeg l4)) = 6 then (G (inb l4 180) <|
    if (S.2.1 26 (Int32.toNatClampNeg l4)) = l1 then (G (inb l4 180) <|
    if l2 < (S.2.1 25 (Int32.toNatClampNeg l4)) then (m_isStruckBy_j47 (m_isStruckBy_h5 n) S l1 l2 l3 l4) else (some (1, S))) else (m_isStruckBy_j47 (m_isStruckBy_h5 n) S l1 l2 l3 l4)) else (m_isStruckBy_j47 (m_isStruckBy_h5 n) S l1 l2 l3 l4))
noncomputable def m_isStruckBy (S : ST) (l1 : Int32) (l2 : Int32) (l3 : Int32) : Option (Int32 × ST) :=
  let v3 := (l1 + 1)
  m_isStruckBy_h5 FU S l1 l2 l3 v3
noncomputable def m_joins_j45 (S : ST) (l1 : Int32) (l2 : Int32) : Option (Int32 × ST) :=
  if (l1 / 3) < l2 then (some (0, S)) else (some (1, S))
noncomputable def m_joins_j39 (Kb : ST → Int32 → Int32 → Int32 → Option (Int32 × ST)) (K45 : ST → Int32 → Int32 → Option (Int32 × ST)) (S : ST) (l1 : Int32) (l2 : Int32) (l3 : Int32) : Option (Int32 × ST) :=
  let v39 := l3 + 1
  Kb S l1 l2 v39
noncomputable def m_joins_h4 (K45 : ST → Int32 → Int32 → Option (Int32 × ST)) : Nat → ST → Int32 → Int32 → Int32 → Option (Int32 × ST)
  | 0, _, _, _, _ => none
  | n + 1, S, l1, l2, l3 =>
    if l1 ≤ l3 then (K45 S l1 l2) else (G (inb 0 3) <|
    G (inb (((S.2.1 34 (Int32.toNatClampNeg 0)) - l1) + l3) 36) <|
    G (inb (12 + l3) 36) <|
    if (S.2.1 33 (Int32.toNatClampNeg (((S.2.1 34 (Int32.toNatClampNeg 0)) - l1) + l3))) = (S.2.1 33 (Int32.toNatClampNeg (12 + l3))) then (m_joins_j39 (m_joins_h4 K45 n) K45 S l1 l2 l3) else (let v36 := l2 + 1
    m_joins_j39 (m_joins_h4 K45 n) K45 S l1 v36 l3))
noncomputable def m_joins (S : ST) (l1 : Int32) : Option (Int32 × ST) :=
  m_joins_h4 (m_joins_j45) FU S l1 0 0
noncomputable def m_latest_j90 (Kb : ST → Int32 → Int32 → Int32 → Int32 → Int32 → Int32 → Option (Int32 × ST)) (S : ST) (l1 : Int32) (l2 : Int32) (l3 : Int32) (l4 : Int32) (l5 : Int32) (l6 : Int32) : Option (Int32 × ST) :=
  let v90 := l6 + 1
  Kb S l1 l2 l3 l4 l5 v90
noncomputable def m_latest_j86 (Kb : ST → Int32 → Int32 → Int32 → Int32 → Int32 → Int32 → Option (Int32 × ST)) (S : ST) (l1 : Int32) (l2 : Int32) (l3 : Int32) (l4 : Int32) (l6 : Int32) : Option (Int32 × ST) :=
  m_latest_j90 Kb S l1 l2 l3 l4 l6 l6
noncomputable def m_latest_j56 (Kb : ST → Int32 → Int32 → Int32 → Int32 → Int32 → Int32 → Option (Int32 × ST)) (S : ST) (l1 : Int32) (l2 : Int32) (l3 : Int32) (l4 : Int32) (l5 : Int32) (l6 : Int32) (s0 : Int32) : Option (Int32 × ST) :=
  if s0 = l2 then (if l5 = (-1) then (m_latest_j86 Kb S l1 l2 l3 l4 l6) else (G (inb l6 180) <|
  G (inb l5 180) <|
  if (S.2.1 25 (Int32.toNatClampNeg l6)) < (S.2.1 25 (Int32.toNatClampNeg l5)) then (m_latest_j90 Kb S l1 l2 l3 l4 l5 l6) else (m_latest_j86 Kb S l1 l2 l3 l4 l6))) else (m_latest_j90 Kb S l1 l2 l3 l4 l5 l6)
noncomputable def m_latest_h6 : Nat → ST → Int32 → Int32 → Int32 → Int32 → Int32 → Int32 → Option (Int32 × ST)
  | 0, _, _, _, _, _, _, _ => none
  | n + 1, S, l1, l2, l3, l4, l5, l6 =>
    if l4 ≤ l6 then (some (l5, S)) else (G (inb l6 180) <|
    if (S.2.1 24 (Int32.toNatClampNeg l6)) = 1 then (G (inb l6 180) <|
    if l3 < (S.2.1 25 (Int32.toNatClampNeg l6)) then (m_latest_j90 (m_latest_h6 n) S l1 l2 l3 l4 l5 l6) else (if l1 = 0 then (G (inb l6 180) <|
    m_latest_j56 (m_latest_h6 n) S l1 l2 l3 l4 l5 l6 ((S.2.1 26 (Int32.toNatClampNeg l6)))) else (G (inb l6 180) <|
    m_latest_j56 (m_latest_h6 n) S l1 l2 l3 l4 l5 l6 ((S.2.1 27 (Int32.toNatClampNeg l6)))))) else (m_latest_j90 (m_latest_h6 n) S l1 l2 l3 l4 l5 l6))
noncomputable def m_latest (S : ST) (l1 : Int32) (l2 : Int32) (l3 : Int32) (l4 : Int32) : Option (Int32 × ST) :=
  m_latest_h6 FU S l1 l2 l3 l4 (-1) 0
noncomputable def m_mayTake_j47 (Kb : ST → Int32 → Int32 → Int32 → Option (Int32 × ST)) (S : ST) (l1 : Int32) (l2 : Int32) (l3 : Int32) : Option (Int32 × ST) :=
  let v47 := l3 + 1
  Kb S l1 l2 v47
noncomputable def m_mayTake_h18 : Nat → ST → Int32 → Int32 → Int32 → Option (Int32 × ST)
  | 0, _, _, _, _ => none
  | n + 1, S, l1, l2, l3 =>
    if l1 ≤ l3 then (some (1, S)) else (G (inb l3 8) <|
    if (S.2.1 38 (Int32.toNatClampNeg l3)) = l2 then (G (inb l2 4) <|
    if (l3 + (S.2.1 36 (Int32.toNatClampNeg l2))) < l1 then (m_mayTake_j47 (m_mayTake_h18 n) S l1 l2 l3) else (some (0, S))) else (m_mayTake_j47 (m_mayTake_h18 n) S l1 l2 l3))
noncomputable def m_mayTake (S : ST) (l1 : Int32) (l2 : Int32) : Option (Int32 × ST) :=
  G (inb l2 4) <|
  if (((S.2.1 37 (Int32.toNatClampNeg l2)) >>> (l1 &&& 31)) &&& 1) = 1 then (some (0, S)) else (m_mayTake_h18 FU S l1 l2 0)
noncomputable def m_more (l0 : Int64) (l2 : Int32) : Option Int64 :=
  if l2 = 0 then (some l0) else (some ((27 * l0) + (Int32.toInt64 ((l2 - 97) + 1))))
noncomputable def m_onTape_j30 (Kb : ST → Int32 → Int32 → Int32 → Option (Int32 × ST)) (S : ST) (l1 : Int32) (l2 : Int32) (l3 : Int32) : Option (Int32 × ST) :=
  let v30 := l3 + 1
  Kb S l1 l2 v30
noncomputable def m_onTape_h4 : Nat → ST → Int32 → Int32 → Int32 → Option (Int32 × ST)
  | 0, _, _, _, _ => none
  | n + 1, S, l1, l2, l3 =>
    G (inb 2 3) <|
    if (S.2.1 34 (Int32.toNatClampNeg 2)) ≤ l3 then (some (l2, S)) else (G (inb (24 + l3) 36) <|
    if (S.2.1 33 (Int32.toNatClampNeg (24 + l3))) = l1 then (let v27 := l2 + 1
    m_onTape_j30 (m_onTape_h4 n) S l1 v27 l3) else (m_onTape_j30 (m_onTape_h4 n) S l1 l2 l3))
noncomputable def m_onTape (S : ST) (l1 : Int32) : Option (Int32 × ST) :=
  m_onTape_h4 FU S l1 0 0
noncomputable def m_place (S : ST) : Option (Int32 × ST) :=
  some ((S.1 10), S)
noncomputable def m_put_h3 : Nat → ST → Int32 → Int32 → Option ST
  | 0, _, _, _ => none
  | n + 1, S, l1, l2 =>
    if l2 < 0 then (some S) else (G (inb (S.1 1) 2000) <|
    let S19 := sA S 0 (upd (S.2.1 0) (Int32.toNatClampNeg (S.1 1)) (vp_nar .byte (Int8.toInt32 (Int32.toInt8 (l1 >>> (l2 &&& 31))))))
    let S27 := sI S19 1 ((S19.1 1) + 1)
    let v30 := l2 + (-8)
    (m_put_h3 n) S27 l1 v30)
noncomputable def m_put (S : ST) (l1 : Int32) : Option ST :=
  m_put_h3 FU S l1 24
noncomputable def m_sames_j143 (Kb : ST → Int32 → Int32 → Int32 → Option ST) (S : ST) (l2 : Int32) (l3 : Int32) (l4 : Int32) : Option ST :=
  Kb S l2 l3 l4
noncomputable def m_sames_j137 (Kb : ST → Int32 → Int32 → Int32 → Int32 → Option ST) (K143 : ST → Int32 → Int32 → Int32 → Option ST) (S : ST) (l2 : Int32) (l3 : Int32) (l4 : Int32) (l5 : Int32) : Option ST :=
  let v137 := l5 + 1
  Kb S l2 l3 l4 v137
noncomputable def m_sames_h49 (K143 : ST → Int32 → Int32 → Int32 → Option ST) : Nat → ST → Int32 → Int32 → Int32 → Int32 → Option ST
  | 0, _, _, _, _, _ => none
  | n + 1, S, l2, l3, l4, l5 =>
    if l3 ≤ l5 then (K143 S l2 l3 l4) else (G (inb l5 180) <|
    if (S.2.1 24 (Int32.toNatClampNeg l5)) = 8 then (G (inb l5 180) <|
    if l2 < (S.2.1 25 (Int32.toNatClampNeg l5)) then (m_sames_j137 (m_sames_h49 K143 n) K143 S l2 l3 l4 l5) else (G (inb l5 180) <|
    G (inb (S.2.1 26 (Int32.toNatClampNeg l5)) 1000) <|
    G (inb l5 180) <|
    G (inb (S.2.1 27 (Int32.toNatClampNeg l5)) 1000) <|
    if (S.2.1 40 (Int32.toNatClampNeg (S.2.1 26 (Int32.toNatClampNeg l5)))) = (S.2.1 40 (Int32.toNatClampNeg (S.2.1 27 (Int32.toNatClampNeg l5)))) then (m_sames_j137 (m_sames_h49 K143 n) K143 S l2 l3 l4 l5) else (G (inb l5 180) <|
    G (inb (S.2.1 26 (Int32.toNatClampNeg l5)) 1000) <|
    let S120 := sA S 40 (upd (S.2.1 40) (Int32.toNatClampNeg (S.2.1 26 (Int32.toNatClampNeg l5))) (vp_nar .boolean 1))
    G (inb l5 180) <|
    G (inb (S120.2.1 27 (Int32.toNatClampNeg l5)) 1000) <|
    let S133 := sA S120 40 (upd (S120.2.1 40) (Int32.toNatClampNeg (S120.2.1 27 (Int32.toNatClampNeg l5))) (vp_nar .boolean 1))
    m_sames_j137 (m_sames_h49 K143 n) K143 S133 l2 l3 1 l5))) else (m_sames_j137 (m_sames_h49 K143 n) K143 S l2 l3 l4 l5))
noncomputable def m_sames_h38 : Nat → ST → Int32 → Int32 → Int32 → Option ST
  | 0, _, _, _, _ => none
  | n + 1, S, l2, l3, l4 =>
    if l4 = 0 then (some S) else (m_sames_h49 (m_sames_j143 (m_sames_h38 n)) FU S l2 l3 0 0)
noncomputable def m_sames_j35 (S : ST) (l2 : Int32) (l3 : Int32) : Option ST :=
  m_sames_h38 FU S l2 l3 1
noncomputable def m_sames_j28 (Kb : ST → Int32 → Int32 → Int32 → Int32 → Option ST) (K35 : ST → Int32 → Int32 → Option ST) (S : ST) (l1 : Int32) (l2 : Int32) (l3 : Int32) (l4 : Int32) (s0 : Int32) (s1 : Int32) : Option ST :=
  G (inb s1 1000) <|
  let S28 := sA S 40 (upd (S.2.1 40) (Int32.toNatClampNeg s1) (vp_nar .boolean s0))
  let v29 := l4 + 1
  Kb S28 l1 l2 l3 v29
noncomputable def m_sames_h3 (K35 : ST → Int32 → Int32 → Option ST) : Nat → ST → Int32 → Int32 → Int32 → Int32 → Option ST
  | 0, _, _, _, _, _ => none
  | n + 1, S, l1, l2, l3, l4 =>
    if 1000 ≤ l4 then (K35 S l2 l3) else (if l4 = l1 then (m_sames_j28 (m_sames_h3 K35 n) K35 S l1 l2 l3 l4 1 l4) else (m_sames_j28 (m_sames_h3 K35 n) K35 S l1 l2 l3 l4 0 l4))
noncomputable def m_sames (S : ST) (l1 : Int32) (l2 : Int32) (l3 : Int32) : Option ST :=
  m_sames_h3 (m_sames_j35) FU S l1 l2 l3 0
noncomputable def m_stands_j108 (Kb : ST → Int32 → Int32 → Int32 → Option ST) (S : ST) (l1 : Int32) (l2 : Int32) (l3 : Int32) : Option ST :=
  let v108 := l3 + 1
  Kb S l1 l2 v108
noncomputable def m_stands_j90 (Kb : ST → Int32 → Int32 → Int32 → Option ST) (S : ST) (l1 : Int32) (l2 : Int32) (l3 : Int32) (l4 : Int32) : Option ST :=
  G (inb l4 180) <|
  let S97 := sA S 32 (upd (S.2.1 32) (Int32.toNatClampNeg l4) l3)
  let S105 := sI S97 24 ((S97.1 24) + 1)
  m_stands_j108 Kb S105 l1 l2 l3
noncomputable def m_stands_h40 (K90 : ST → Int32 → Int32 → Int32 → Int32 → Option ST) : Nat → ST → Int32 → Int32 → Int32 → Int32 → Option ST
  | 0, _, _, _, _, _ => none
  | n + 1, S, l1, l2, l3, l4 =>
    if l4 ≤ 0 then (K90 S l1 l2 l3 l4) else (G (inb (l4 - 1) 180) <|
    G (inb (S.2.1 32 (Int32.toNatClampNeg (l4 - 1))) 180) <|
    G (inb l3 180) <|
    if (S.2.1 26 (Int32.toNatClampNeg (S.2.1 32 (Int32.toNatClampNeg (l4 - 1))))) ≤ (S.2.1 26 (Int32.toNatClampNeg l3)) then (K90 S l1 l2 l3 l4) else (G (inb (l4 - 1) 180) <|
    G (inb l4 180) <|
    let S83 := sA S 32 (upd (S.2.1 32) (Int32.toNatClampNeg l4) (S.2.1 32 (Int32.toNatClampNeg (l4 - 1))))
    let v84 := l4 + (-1)
    (m_stands_h40 K90 n) S83 l1 l2 l3 v84))
noncomputable def m_stands_h7 : Nat → ST → Int32 → Int32 → Int32 → Option ST
  | 0, _, _, _, _ => none
  | n + 1, S, l1, l2, l3 =>
    if l2 ≤ l3 then (some S) else (G (inb l3 180) <|
    if (S.2.1 24 (Int32.toNatClampNeg l3)) = 0 then (G (inb l3 180) <|
    if (S.2.1 25 (Int32.toNatClampNeg l3)) = l1 then (let v38 := (S.1 24)
    m_stands_h40 (m_stands_j90 (m_stands_h7 n)) FU S l1 l2 l3 v38) else (m_stands_j108 (m_stands_h7 n) S l1 l2 l3)) else (m_stands_j108 (m_stands_h7 n) S l1 l2 l3))
noncomputable def m_stands (S : ST) (l1 : Int32) (l2 : Int32) : Option ST :=
  let S2 := sI S 24 0
  m_stands_h7 FU S2 l1 l2 0
noncomputable def m_tells (S : ST) (l1 : Int32) (l2 : Int32) (l3 : Int32) (l4 : Int32) (l5 : Int32) (l6 : Int32) (l7 : Int32) (l8 : Int32) : Option (Int32 × ST) :=
  G (inb (S.1 18) 180) <|
  let S9 := sA S 24 (upd (S.2.1 24) (Int32.toNatClampNeg (S.1 18)) l1)
  G (inb (S9.1 18) 180) <|
  let S19 := sA S9 25 (upd (S9.2.1 25) (Int32.toNatClampNeg (S9.1 18)) l2)
  G (inb (S19.1 18) 180) <|
  let S29 := sA S19 26 (upd (S19.2.1 26) (Int32.toNatClampNeg (S19.1 18)) l3)
  G (inb (S29.1 18) 180) <|
  let S40 := sA S29 27 (upd (S29.2.1 27) (Int32.toNatClampNeg (S29.1 18)) l4)
  G (inb (S40.1 18) 180) <|
  let S51 := sA S40 28 (upd (S40.2.1 28) (Int32.toNatClampNeg (S40.1 18)) l5)
  G (inb (S51.1 18) 180) <|
  let S62 := sA S51 29 (upd (S51.2.1 29) (Int32.toNatClampNeg (S51.1 18)) l6)
  G (inb (S62.1 18) 180) <|
  let S73 := sA S62 30 (upd (S62.2.1 30) (Int32.toNatClampNeg (S62.1 18)) l7)
  G (inb (S73.1 18) 180) <|
  let S84 := sA S73 31 (upd (S73.2.1 31) (Int32.toNatClampNeg (S73.1 18)) l8)
  let S92 := sI S84 18 ((S84.1 18) + 1)
  some (((S92.1 18) - 1), S92)
noncomputable def m_termOf_j164 (Kb : ST → Int32 → Int32 → Int32 → Option (Int32 × ST)) (S : ST) (l2 : Int32) (l3 : Int32) (l4 : Int32) : Option (Int32 × ST) :=
  let v164 := l4 + 1
  Kb S l2 l3 v164
noncomputable def m_termOf_j163 (Kb : ST → Int32 → Int32 → Int32 → Option (Int32 × ST)) (S : ST) (l2 : Int32) (l3 : Int32) (l4 : Int32) (s0 : Int32) (s1 : Int32) : Option (Int32 × ST) :=
  G (inb s1 400) <|
  let S163 := sA S 22 (upd (S.2.1 22) (Int32.toNatClampNeg s1) s0)
  m_termOf_j164 Kb S163 l2 l3 l4
noncomputable def m_termOf_j109 (Kb : ST → Int32 → Int32 → Int32 → Option (Int32 × ST)) (S : ST) (l2 : Int32) (l3 : Int32) (l4 : Int32) (l5 : Int32) (l6 : Int32) (l7 : Int32) : Option (Int32 × ST) :=
  if l5 = 2 then (m_termOf_j163 Kb S l2 l3 l4 ((l6 + l7)) ((l3 - 1))) else (if l5 = 3 then (m_termOf_j163 Kb S l2 l3 l4 ((l6 - l7)) ((l3 - 1))) else (if l5 = 4 then (m_termOf_j163 Kb S l2 l3 l4 ((l6 * l7)) ((l3 - 1))) else (G (decide (¬ l7 = 0)) <|
  m_termOf_j163 Kb S l2 l3 l4 ((l6 / l7)) ((l3 - 1)))))
noncomputable def m_termOf_j63 (Kb : ST → Int32 → Int32 → Int32 → Option (Int32 × ST)) (S : ST) (l2 : Int32) (l3 : Int32) (l4 : Int32) (s0 : Int32) (s1 : Int32) : Option (Int32 × ST) :=
  G (inb s1 400) <|
  let S63 := sA S 22 (upd (S.2.1 22) (Int32.toNatClampNeg s1) s0)
  let v64 := l3 + 1
  m_termOf_j164 Kb S63 l2 v64 l4
noncomputable def m_termOf_h10 : Nat → ST → Int32 → Int32 → Int32 → Option (Int32 × ST)
  | 0, _, _, _, _ => none
  | n + 1, S, l2, l3, l4 =>
    if l2 ≤ l4 then (G (inb 0 400) <|
    some ((S.2.1 22 (Int32.toNatClampNeg 0)), S)) else (G (inb l4 2800) <|
    let v23 := (S.2.1 18 (Int32.toNatClampNeg l4))
    if 2 ≤ v23 then (let v70 := l3 + (-1)
    G (inb (v70 - 1) 400) <|
    let v81 := (S.2.1 22 (Int32.toNatClampNeg (v70 - 1)))
    G (inb v70 400) <|
    let v89 := (S.2.1 22 (Int32.toNatClampNeg v70))
    if v23 = 5 then (if v89 = 0 then (G (isB 1) <|
    let S104 := sI S 15 1
    some (0, S104)) else (m_termOf_j109 (m_termOf_h10 n) S l2 v70 l4 v23 v81 v89)) else (m_termOf_j109 (m_termOf_h10 n) S l2 v70 l4 v23 v81 v89)) else (if v23 = 0 then (G (inb l4 2800) <|
    m_termOf_j63 (m_termOf_h10 n) S l2 l3 l4 ((S.2.1 19 (Int32.toNatClampNeg l4))) l3) else (G (inb l4 2800) <|
    G (inb (S.2.1 19 (Int32.toNatClampNeg l4)) 12) <|
    m_termOf_j63 (m_termOf_h10 n) S l2 l3 l4 ((S.2.1 21 (Int32.toNatClampNeg (S.2.1 19 (Int32.toNatClampNeg l4))))) l3)))
noncomputable def m_termOf (S : ST) (l1 : Int32) (l2 : Int32) : Option (Int32 × ST) :=
  G (isB 0) <|
  let S4 := sI S 15 0
  m_termOf_h10 FU S4 l2 0 l1
noncomputable def m_token (S : ST) (l1 : Int32) (l2 : Int32) (l3 : Int32) (l4 : Int64) : Option ST :=
  G (inb (S.1 3) 403) <|
  let S9 := sA S 2 (upd (S.2.1 2) (Int32.toNatClampNeg (S.1 3)) l1)
  G (inb (S9.1 3) 403) <|
  let S19 := sA S9 3 (upd (S9.2.1 3) (Int32.toNatClampNeg (S9.1 3)) l2)
  G (inb (S19.1 3) 403) <|
  let S29 := sA S19 4 (upd (S19.2.1 4) (Int32.toNatClampNeg (S19.1 3)) l3)
  G (inb (S29.1 3) 403) <|
  let S40 := sL S29 0 (vp_updL (S29.2.2 0) (Int32.toNatClampNeg (S29.1 3)) l4)
  let S48 := sI S40 3 ((S40.1 3) + 1)
  some S48
noncomputable def m_wrong (S : ST) (l1 : Int32) (l2 : Int32) : Option ST :=
  G (inb l2 403) <|
  let v6 := (S.2.1 3 (Int32.toNatClampNeg l2))
  if 0 < (S.1 6) then (some S) else (if (S.1 8) = 0 then (let S48 := sI S 8 l1
  let S53 := sI S48 9 v6
  some S53) else (if (S.1 9) < v6 then (some S) else (if v6 = (S.1 9) then (if l1 < (S.1 8) then (let S48 := sI S 8 l1
  let S53 := sI S48 9 v6
  some S53) else (some S)) else (let S48 := sI S 8 l1
  let S53 := sI S48 9 v6
  some S53))))
noncomputable def m_apart_j240 (S : ST) (l1 : Int32) (l2 : Int32) : Option (Int32 × ST) :=
  G (inb l1 3) <|
  G (inb l2 3) <|
  G (inb ((13 * (S.2.1 34 (Int32.toNatClampNeg l1))) + (S.2.1 34 (Int32.toNatClampNeg l2))) 169) <|
  some ((S.2.1 35 (Int32.toNatClampNeg ((13 * (S.2.1 34 (Int32.toNatClampNeg l1))) + (S.2.1 34 (Int32.toNatClampNeg l2))))), S)
noncomputable def m_apart_j234 (Kb : ST → Int32 → Int32 → Int32 → Option (Int32 × ST)) (K240 : ST → Int32 → Int32 → Option (Int32 × ST)) (S : ST) (l1 : Int32) (l2 : Int32) (l3 : Int32) : Option (Int32 × ST) :=
  let v234 := l3 + 1
  Kb S l1 l2 v234
noncomputable def m_apart_j214 (Kb : ST → Int32 → Int32 → Int32 → Int32 → Option (Int32 × ST)) (K234 : ST → Int32 → Int32 → Int32 → Option (Int32 × ST)) (S : ST) (l1 : Int32) (l2 : Int32) (l3 : Int32) (l4 : Int32) (l5 : Int32) : Option (Int32 × ST) :=
  G (inb ((13 * l3) + l4) 169) <|
  let S227 := sA S 35 (upd (S.2.1 35) (Int32.toNatClampNeg ((13 * l3) + l4)) l5)
  let v228 := l4 + 1
  Kb S227 l1 l2 l3 v228
noncomputable def m_apart_j166 (Kb : ST → Int32 → Int32 → Int32 → Int32 → Option (Int32 × ST)) (K234 : ST → Int32 → Int32 → Int32 → Option (Int32 × ST)) (S : ST) (l1 : Int32) (l2 : Int32) (l3 : Int32) (l4 : Int32) (l5 : Int32) : Option (Int32 × ST) :=
  if l3 ≤ 0 then (m_apart_j214 Kb K234 S l1 l2 l3 l4 l5) else (if l4 ≤ 0 then (m_apart_j214 Kb K234 S l1 l2 l3 l4 l5) else (G (inb (((13 * l3) + l4) - 1) 169) <|
  if l5 ≤ ((S.2.1 35 (Int32.toNatClampNeg (((13 * l3) + l4) - 1))) + 1) then (m_apart_j214 Kb K234 S l1 l2 l3 l4 l5) else (G (inb (((13 * l3) + l4) - 1) 169) <|
  let v212 := ((S.2.1 35 (Int32.toNatClampNeg (((13 * l3) + l4) - 1))) + 1)
  m_apart_j214 Kb K234 S l1 l2 l3 l4 v212)))
noncomputable def m_apart_j116 (Kb : ST → Int32 → Int32 → Int32 → Int32 → Option (Int32 × ST)) (K234 : ST → Int32 → Int32 → Int32 → Option (Int32 × ST)) (S : ST) (l1 : Int32) (l2 : Int32) (l3 : Int32) (l4 : Int32) (s0 : Int32) : Option (Int32 × ST) :=
  if l3 ≤ 0 then (m_apart_j166 Kb K234 S l1 l2 l3 l4 s0) else (if l4 ≤ 0 then (m_apart_j166 Kb K234 S l1 l2 l3 l4 s0) else (G (inb ((13 * (l3 - 1)) + l4) 169) <|
  if s0 ≤ ((S.2.1 35 (Int32.toNatClampNeg ((13 * (l3 - 1)) + l4))) + 1) then (m_apart_j166 Kb K234 S l1 l2 l3 l4 s0) else (G (inb ((13 * (l3 - 1)) + l4) 169) <|
  let v164 := ((S.2.1 35 (Int32.toNatClampNeg ((13 * (l3 - 1)) + l4))) + 1)
  m_apart_j166 Kb K234 S l1 l2 l3 l4 v164)))
noncomputable def m_apart_j115 (Kb : ST → Int32 → Int32 → Int32 → Int32 → Option (Int32 × ST)) (K234 : ST → Int32 → Int32 → Int32 → Option (Int32 × ST)) (S : ST) (l1 : Int32) (l2 : Int32) (l3 : Int32) (l4 : Int32) (s0 : Int32) (s1 : Int32) : Option (Int32 × ST) :=
  m_apart_j116 Kb K234 S l1 l2 l3 l4 ((s1 + s0))
noncomputable def m_apart_h35 (K234 : ST → Int32 → Int32 → Int32 → Option (Int32 × ST)) : Nat → ST → Int32 → Int32 → Int32 → Int32 → Option (Int32 × ST)
  | 0, _, _, _, _, _ => none
  | n + 1, S, l1, l2, l3, l4 =>
    G (inb l2 3) <|
    if (S.2.1 34 (Int32.toNatClampNeg l2)) < l4 then (K234 S l1 l2 l3) else (if l3 = 0 then (m_apart_j116 (m_apart_h35 K234 n) K234 S l1 l2 l3 l4 l4) else (if l4 = 0 then (m_apart_j116 (m_apart_h35 K234 n) K234 S l1 l2 l3 l4 l3) else (G (inb (((13 * (l3 - 1)) + l4) - 1) 169) <|
    G (inb (((12 * l1) + l3) - 1) 36) <|
    G (inb (((12 * l2) + l4) - 1) 36) <|
    if (S.2.1 33 (Int32.toNatClampNeg (((12 * l1) + l3) - 1))) = (S.2.1 33 (Int32.toNatClampNeg (((12 * l2) + l4) - 1))) then (m_apart_j115 (m_apart_h35 K234 n) K234 S l1 l2 l3 l4 0 ((S.2.1 35 (Int32.toNatClampNeg (((13 * (l3 - 1)) + l4) - 1))))) else (m_apart_j115 (m_apart_h35 K234 n) K234 S l1 l2 l3 l4 1 ((S.2.1 35 (Int32.toNatClampNeg (((13 * (l3 - 1)) + l4) - 1))))))))
noncomputable def m_apart_h22 (K240 : ST → Int32 → Int32 → Option (Int32 × ST)) : Nat → ST → Int32 → Int32 → Int32 → Option (Int32 × ST)
  | 0, _, _, _, _ => none
  | n + 1, S, l1, l2, l3 =>
    G (inb l1 3) <|
    if (S.2.1 34 (Int32.toNatClampNeg l1)) < l3 then (K240 S l1 l2) else (m_apart_h35 (m_apart_j234 (m_apart_h22 K240 n) K240) FU S l1 l2 l3 0)
noncomputable def m_apart (S : ST) (l1 : Int32) (l2 : Int32) : Option (Int32 × ST) :=
  cal0 (m_in l1 0 2) fun r3 =>
  if r3 = 0 then (some ((-1), S)) else (cal0 (m_in l2 0 2) fun r12 =>
  if r12 = 0 then (some ((-1), S)) else (m_apart_h22 (m_apart_j240) FU S l1 l2 0))
noncomputable def m_comesOut_j84 (Kb : ST → Int32 → Option ST) (S : ST) (l1 : Int32) (s0 : Int32) : Option ST :=
  calV (m_emit S s0 0) fun S85 =>
  Kb S85 l1
noncomputable def m_comesOut_j42 (Kb : ST → Int32 → Option ST) (S : ST) (l1 : Int32) (l2 : Int32) : Option ST :=
  let S49 := sI S 14 ((S.1 14) - 1)
  if l2 = 8 then (m_comesOut_j84 Kb S49 l1 2) else (if l2 = 9 then (m_comesOut_j84 Kb S49 l1 3) else (if l2 = 10 then (m_comesOut_j84 Kb S49 l1 4) else (m_comesOut_j84 Kb S49 l1 5)))
noncomputable def m_comesOut_h0 : Nat → ST → Int32 → Option ST
  | 0, _, _ => none
  | n + 1, S, l1 =>
    if (S.1 14) ≤ 0 then (some S) else (G (inb ((S.1 14) - 1) 64) <|
    let v18 := (S.2.1 20 (Int32.toNatClampNeg ((S.1 14) - 1)))
    if v18 = 6 then (some S) else (if l1 = 0 then (m_comesOut_j42 (m_comesOut_h0 n) S l1 v18) else (if v18 = 8 then (some S) else (if v18 = 9 then (some S) else (m_comesOut_j42 (m_comesOut_h0 n) S l1 v18)))))
noncomputable def m_comesOut (S : ST) (l1 : Int32) : Option ST :=
  m_comesOut_h0 FU S l1
noncomputable def m_doubles_j62 (Kb : ST → Int32 → Int32 → Int32 → Int32 → Option (Int32 × ST)) (S : ST) (l1 : Int32) (l2 : Int32) (l3 : Int32) (l4 : Int32) : Option (Int32 × ST) :=
  let v62 := l4 + 1
  Kb S l1 l2 l3 v62
noncomputable def m_doubles_h24 : Nat → ST → Int32 → Int32 → Int32 → Int32 → Option (Int32 × ST)
  | 0, _, _, _, _, _ => none
  | n + 1, S, l1, l2, l3, l4 =>
    if 8 ≤ l4 then (some (l3, S)) else (cal (m_has S l1 l4 0 l2) fun r37 S37 =>
    if r37 = 0 then (m_doubles_j62 (m_doubles_h24 n) S37 l1 l2 l3 l4) else (cal (m_has S37 l1 l4 1 l2) fun r49 S49 =>
    if r49 = 0 then (m_doubles_j62 (m_doubles_h24 n) S49 l1 l2 l3 l4) else (let v61 := (l3 ||| (1 <<< (l4 &&& 31)))
    m_doubles_j62 (m_doubles_h24 n) S49 l1 l2 v61 l4)))
noncomputable def m_doubles (S : ST) (l1 : Int32) (l2 : Int32) : Option (Int32 × ST) :=
  cal0 (m_in l1 0 3) fun r3 =>
  if r3 = 0 then (some ((-1), S)) else (cal (m_isKnown S l2) fun r11 S11 =>
  if r11 = 0 then (some ((-1), S11)) else (m_doubles_h24 FU S11 l1 l2 0 0))
noncomputable def m_feed (S : ST) (l1 : Int32) (l2 : Int32) (l3 : Int32) (l4 : Int32) (l5 : Int32) : Option (Int32 × ST) :=
  if ((S.1 1) + 20) ≤ 2000 then (calV (m_put S l1) fun S17 =>
  calV (m_put S17 l2) fun S22 =>
  calV (m_put S22 l3) fun S27 =>
  calV (m_put S27 l4) fun S33 =>
  calV (m_put S33 l5) fun S39 =>
  some ((S39.1 1), S39)) else (some ((-1), S))
noncomputable def m_forces_j89 (Kb : ST → Int32 → Int32 → Option ST) (S : ST) (l1 : Int32) (l2 : Int32) : Option ST :=
  let v89 := l2 + 1
  Kb S l1 v89
noncomputable def m_forces_j83 (Kb : ST → Int32 → Int32 → Int32 → Option ST) (K89 : ST → Int32 → Int32 → Option ST) (S : ST) (l1 : Int32) (l2 : Int32) (l3 : Int32) : Option ST :=
  let v83 := l3 + 1
  Kb S l1 l2 v83
noncomputable def m_forces_h55 (K83 : ST → Int32 → Int32 → Int32 → Option ST) : Nat → ST → Int32 → Int32 → Int32 → Int32 → Option ST
  | 0, _, _, _, _, _ => none
  | n + 1, S, l1, l2, l3, l4 =>
    G (inb l3 7) <|
    if ((24 * l3) + (S.2.1 6 (Int32.toNatClampNeg l3))) ≤ l4 then (K83 S l1 l2 l3) else (calV (m_comes S l4) fun S74 =>
    let v77 := l4 + 1
    (m_forces_h55 K83 n) S74 l1 l2 l3 v77)
noncomputable def m_forces_h28 (K89 : ST → Int32 → Int32 → Option ST) : Nat → ST → Int32 → Int32 → Int32 → Option ST
  | 0, _, _, _, _ => none
  | n + 1, S, l1, l2, l3 =>
    if (S.1 11) ≤ l3 then (K89 S l1 l2) else (G (inb l3 7) <|
    if (S.2.1 5 (Int32.toNatClampNeg l3)) = l2 then (let v53 := (24 * l3)
    m_forces_h55 (m_forces_j83 (m_forces_h28 K89 n) K89) FU S l1 l2 l3 v53) else (m_forces_j83 (m_forces_h28 K89 n) K89 S l1 l2 l3))
noncomputable def m_forces_h21 : Nat → ST → Int32 → Int32 → Option ST
  | 0, _, _, _ => none
  | n + 1, S, l1, l2 =>
    if l1 < l2 then (some S) else (m_forces_h28 (m_forces_j89 (m_forces_h21 n)) FU S l1 l2 0)
noncomputable def m_forces (S : ST) (l1 : Int32) : Option ST :=
  if (S.1 16) = l1 then (some S) else (let S11 := sI S 16 l1
  let S16 := sI S11 17 0
  m_forces_h21 FU S16 l1 0)
noncomputable def m_isDay (l0 : Int32) : Option Int32 :=
  cal0 (m_in l0 0 99) fun r4 =>
  G (isB r4) <|
  some r4
noncomputable def m_isMember (l0 : Int32) : Option Int32 :=
  cal0 (m_in l0 0 7) fun r4 =>
  G (isB r4) <|
  some r4
noncomputable def m_isMend (S : ST) (l1 : Int32) (l2 : Int32) : Option (Int32 × ST) :=
  cal (m_isKnown S l2) fun r2 S2 =>
  if r2 = 0 then (some (0, S2)) else (if l1 < 0 then (some (0, S2)) else (if l2 ≤ l1 then (some (0, S2)) else (G (inb l1 180) <|
  if (S2.2.1 24 (Int32.toNatClampNeg l1)) = 4 then (some (1, S2)) else (some (0, S2)))))
noncomputable def m_isMinute (l0 : Int32) : Option Int32 :=
  cal0 (m_in l0 0 239) fun r5 =>
  G (isB r5) <|
  some r5
noncomputable def m_isSeat (l0 : Int32) : Option Int32 :=
  cal0 (m_in l0 0 9) fun r4 =>
  G (isB r4) <|
  some r4
noncomputable def m_isTrue_j155 (S : ST) (l1 : Int32) (s0 : Int32) : Option (Int32 × ST) :=
  G (inb l1 980) <|
  if s0 = (S.2.1 13 (Int32.toNatClampNeg l1)) then (some (0, S)) else (some (1, S))
noncomputable def m_isTrue_j154 (S : ST) (l1 : Int32) : Option (Int32 × ST) :=
  m_isTrue_j155 S l1 0
noncomputable def m_isTrue_j139 (S : ST) (l1 : Int32) (l3 : Int32) (s0 : Int32) : Option (Int32 × ST) :=
  if s0 = 0 then (m_isTrue_j154 S l1) else (if l3 = 0 then (m_isTrue_j155 S l1 1) else (m_isTrue_j154 S l1))
noncomputable def m_isTrue_j56 (S : ST) (l1 : Int32) (l2 : Int32) (l4 : Int32) (s0 : Int32) : Option (Int32 × ST) :=
  G (inb l1 980) <|
  if (S.2.1 12 (Int32.toNatClampNeg l1)) = 0 then (if l2 = l4 then (m_isTrue_j139 S l1 s0 1) else (m_isTrue_j139 S l1 s0 0)) else (G (inb l1 980) <|
  if (S.2.1 12 (Int32.toNatClampNeg l1)) = 1 then (if l2 = l4 then (m_isTrue_j139 S l1 s0 0) else (m_isTrue_j139 S l1 s0 1)) else (G (inb l1 980) <|
  if (S.2.1 12 (Int32.toNatClampNeg l1)) = 2 then (if l4 ≤ l2 then (m_isTrue_j139 S l1 s0 0) else (m_isTrue_j139 S l1 s0 1)) else (if l4 < l2 then (m_isTrue_j139 S l1 s0 0) else (m_isTrue_j139 S l1 s0 1))))
noncomputable def m_isTrue_j51 (S : ST) (l1 : Int32) (l2 : Int32) (l4 : Int32) : Option (Int32 × ST) :=
  m_isTrue_j56 S l1 l2 l4 1
noncomputable def m_isTrue (S : ST) (l1 : Int32) : Option (Int32 × ST) :=
  G (inb l1 980) <|
  G (inb l1 980) <|
  cal (m_termOf S ((S.2.1 15 (Int32.toNatClampNeg l1))) ((S.2.1 16 (Int32.toNatClampNeg l1)))) fun r13 S13 =>
  let v21 := (S13.1 15)
  G (inb l1 980) <|
  G (inb l1 980) <|
  cal (m_termOf S13 ((S13.2.1 16 (Int32.toNatClampNeg l1))) ((S13.2.1 17 (Int32.toNatClampNeg l1)))) fun r35 S35 =>
  if v21 = 0 then (if (S35.1 15) = 0 then (m_isTrue_j56 S35 l1 r13 r35 0) else (m_isTrue_j51 S35 l1 r13 r35)) else (m_isTrue_j51 S35 l1 r13 r35)
noncomputable def m_isWord (l0 : Int32) : Option Int32 :=
  cal0 (m_in l0 1 999) fun r5 =>
  G (isB r5) <|
  some r5
noncomputable def m_join_j34 (Kb : ST → Int32 → Int32 → Option (Int32 × ST)) (S : ST) (l1 : Int32) (l2 : Int32) : Option (Int32 × ST) :=
  let v34 := l2 + 1
  Kb S l1 v34
noncomputable def m_join_h4 : Nat → ST → Int32 → Int32 → Option (Int32 × ST)
  | 0, _, _, _ => none
  | n + 1, S, l1, l2 =>
    G (inb 0 3) <|
    if (S.2.1 34 (Int32.toNatClampNeg 0)) < l2 then (some (l1, S)) else (G (inb 1 3) <|
    if (S.2.1 34 (Int32.toNatClampNeg 1)) < l2 then (some (l1, S)) else (cal (m_joins S l2) fun r26 S26 =>
    if r26 = 0 then (m_join_j34 (m_join_h4 n) S26 l1 l2) else (m_join_j34 (m_join_h4 n) S26 l2 l2)))
noncomputable def m_join (S : ST) : Option (Int32 × ST) :=
  m_join_h4 FU S 0 1
noncomputable def m_next (S : ST) : Option ST :=
  if (S.1 4) = 400 then (calV (m_fail S 2) fun S12 =>
  some S12) else (let S25 := sI S 4 ((S.1 4) + 1)
  some S25)
noncomputable def m_paper (S : ST) (l1 : Int32) (l2 : Int32) (l3 : Int32) : Option (Int32 × ST) :=
  if (S.1 18) = 180 then (some ((-1), S)) else (cal0 (m_in l1 0 3) fun r13 =>
  if r13 = 0 then (some ((-1), S)) else (cal0 (m_in l2 0 9) fun r23 =>
  if r23 = 0 then (some ((-1), S)) else (cal0 (m_in l3 0 999) fun r34 =>
  if r34 = 0 then (some ((-1), S)) else (cal (m_tells S 3 ((-1)) l1 l2 l3 0 0 0) fun r53 S53 =>
  some (r53, S53)))))
noncomputable def m_reporter (S : ST) (l1 : Int32) (l2 : Int32) (l3 : Int32) : Option (Int32 × ST) :=
  cal0 (m_in l1 0 3) fun r3 =>
  if r3 = 0 then (some (0, S)) else (cal0 (m_in l2 1 6) fun r13 =>
  if r13 = 0 then (some (0, S)) else (cal0 (m_in l3 0 255) fun r24 =>
  if r24 = 0 then (some (0, S)) else (G (inb l1 4) <|
  let S38 := sA S 36 (upd (S.2.1 36) (Int32.toNatClampNeg l1) l2)
  G (inb l1 4) <|
  let S45 := sA S38 37 (upd (S38.2.1 37) (Int32.toNatClampNeg l1) l3)
  some (1, S45))))
noncomputable def m_roster_j241 (S : ST) (l3 : Int32) (l4 : Int32) : Option (Int32 × ST) :=
  if l4 = (-1) then (some (((-1) - l3), S)) else (some (l4, S))
noncomputable def m_roster_j238 (Kb : ST → Int32 → Int32 → Int32 → Int32 → Int32 → Option (Int32 × ST)) (K241 : ST → Int32 → Int32 → Option (Int32 × ST)) (S : ST) (l1 : Int32) (l2 : Int32) (l3 : Int32) (l4 : Int32) (l5 : Int32) : Option (Int32 × ST) :=
  Kb S l1 l2 l3 l4 l5
noncomputable def m_roster_h212 (K238 : ST → Int32 → Int32 → Int32 → Int32 → Int32 → Option (Int32 × ST)) : Nat → ST → Int32 → Int32 → Int32 → Int32 → Int32 → Int32 → Option (Int32 × ST)
  | 0, _, _, _, _, _, _, _ => none
  | n + 1, S, l1, l2, l3, l4, l5, l7 =>
    if l1 ≤ l7 then (K238 S l1 l2 l3 l4 l5) else (G (inb l7 8) <|
    G (inb l7 8) <|
    let S231 := sA S 39 (upd (S.2.1 39) (Int32.toNatClampNeg l7) (S.2.1 38 (Int32.toNatClampNeg l7)))
    let v232 := l7 + 1
    (m_roster_h212 K238 n) S231 l1 l2 l3 l4 l5 v232)
noncomputable def m_roster_j200 (Kb : ST → Int32 → Int32 → Int32 → Int32 → Int32 → Option (Int32 × ST)) (K241 : ST → Int32 → Int32 → Option (Int32 × ST)) (S : ST) (l1 : Int32) (l2 : Int32) (l3 : Int32) (l5 : Int32) (l6 : Int32) : Option (Int32 × ST) :=
  let S206 := sI S 26 l1
  m_roster_h212 (m_roster_j238 Kb K241) FU S206 l1 l2 l3 l6 l5 0
noncomputable def m_roster_j184 (Kb : ST → Int32 → Int32 → Int32 → Int32 → Int32 → Option (Int32 × ST)) (K241 : ST → Int32 → Int32 → Option (Int32 × ST)) (S : ST) (l1 : Int32) (l2 : Int32) (l3 : Int32) (l4 : Int32) (l5 : Int32) (l6 : Int32) : Option (Int32 × ST) :=
  if l4 = (-1) then (m_roster_j200 Kb K241 S l1 l2 l3 l5 l6) else (if l6 < l4 then (m_roster_j200 Kb K241 S l1 l2 l3 l5 l6) else (Kb S l1 l2 l3 l4 l5))
noncomputable def m_roster_j178 (Kb : ST → Int32 → Int32 → Int32 → Int32 → Int32 → Int32 → Int32 → Option (Int32 × ST)) (K184 : ST → Int32 → Int32 → Int32 → Int32 → Int32 → Int32 → Option (Int32 × ST)) (S : ST) (l1 : Int32) (l2 : Int32) (l3 : Int32) (l4 : Int32) (l5 : Int32) (l6 : Int32) (l7 : Int32) : Option (Int32 × ST) :=
  let v178 := l7 + 1
  Kb S l1 l2 l3 l4 l5 l6 v178
noncomputable def m_roster_h135 (K184 : ST → Int32 → Int32 → Int32 → Int32 → Int32 → Int32 → Option (Int32 × ST)) : Nat → ST → Int32 → Int32 → Int32 → Int32 → Int32 → Int32 → Int32 → Option (Int32 × ST)
  | 0, _, _, _, _, _, _, _, _ => none
  | n + 1, S, l1, l2, l3, l4, l5, l6, l7 =>
    if l1 ≤ l7 then (K184 S l1 l2 l3 l4 l5 l6) else (G (inb l7 8) <|
    G (inb (S.2.1 38 (Int32.toNatClampNeg l7)) 4) <|
    if (l7 + (S.2.1 36 (Int32.toNatClampNeg (S.2.1 38 (Int32.toNatClampNeg l7))))) ≤ l6 then (m_roster_j178 (m_roster_h135 K184 n) K184 S l1 l2 l3 l4 l5 l6 l7) else (G (inb l7 8) <|
    G (inb (S.2.1 38 (Int32.toNatClampNeg l7)) 4) <|
    let v176 := (l7 + (S.2.1 36 (Int32.toNatClampNeg (S.2.1 38 (Int32.toNatClampNeg l7)))))
    m_roster_j178 (m_roster_h135 K184 n) K184 S l1 l2 l3 l4 l5 v176 l7))
noncomputable def m_roster_j107 (Kb : ST → Int32 → Int32 → Int32 → Int32 → Int32 → Option (Int32 × ST)) (K241 : ST → Int32 → Int32 → Option (Int32 × ST)) (S : ST) (l1 : Int32) (l2 : Int32) (l3 : Int32) (l4 : Int32) (l5 : Int32) : Option (Int32 × ST) :=
  if l1 ≤ (l5 + 1) then (m_roster_h135 (m_roster_j184 Kb K241) FU S l1 l2 l3 l4 l5 0 0) else (let v115 := l5 + 1
  G (inb v115 8) <|
  let S125 := sA S 38 (upd (S.2.1 38) (Int32.toNatClampNeg v115) (-1))
  Kb S125 l1 l2 l3 l4 v115)
noncomputable def m_roster_h42 (K241 : ST → Int32 → Int32 → Option (Int32 × ST)) : Nat → ST → Int32 → Int32 → Int32 → Int32 → Int32 → Option (Int32 × ST)
  | 0, _, _, _, _, _, _ => none
  | n + 1, S, l1, l2, l3, l4, l5 =>
    if l5 < 0 then (K241 S l3 l4) else (G (inb l5 8) <|
    G (inb l5 8) <|
    let S57 := sA S 38 (upd (S.2.1 38) (Int32.toNatClampNeg l5) ((S.2.1 38 (Int32.toNatClampNeg l5)) + 1))
    G (inb l5 8) <|
    if (S57.2.1 38 (Int32.toNatClampNeg l5)) = l2 then (let v69 := l5 + (-1)
    (m_roster_h42 K241 n) S57 l1 l2 l3 l4 v69) else (G (inb l5 8) <|
    cal (m_mayTake S57 l5 ((S57.2.1 38 (Int32.toNatClampNeg l5)))) fun r85 S85 =>
    if r85 = 0 then ((m_roster_h42 K241 n) S85 l1 l2 l3 l4 l5) else (if (l5 + 1) ≤ l3 then (m_roster_j107 (m_roster_h42 K241 n) K241 S85 l1 l2 l3 l4 l5) else (let v106 := (l5 + 1)
    m_roster_j107 (m_roster_h42 K241 n) K241 S85 l1 l2 v106 l4 l5))))
noncomputable def m_roster (S : ST) (l1 : Int32) (l2 : Int32) : Option (Int32 × ST) :=
  cal0 (m_in l1 1 8) fun r4 =>
  if r4 = 0 then (some ((-100), S)) else (cal0 (m_in l2 1 4) fun r13 =>
  if r13 = 0 then (some ((-100), S)) else (let S24 := sI S 26 0
  G (inb 0 8) <|
  let S41 := sA S24 38 (upd (S24.2.1 38) (Int32.toNatClampNeg 0) (-1))
  m_roster_h42 (m_roster_j241) FU S41 l1 l2 0 (-1) 0))
noncomputable def m_sign_j161 (S : ST) (l1 : Int32) (l4 : Int32) (l5 : Int32) : Option (Int32 × ST) :=
  calV (m_token S l5 l1 0 0) fun S167 =>
  if l4 ≤ 0 then (some (1, S167)) else (some (2, S167))
noncomputable def m_sign_j44 (S : ST) (l1 : Int32) (l2 : Int32) (s0 : Int32) : Option (Int32 × ST) :=
  if s0 ≤ 0 then (if l2 = 59 then (m_sign_j161 S l1 s0 4) else (if l2 = 40 then (m_sign_j161 S l1 s0 6) else (if l2 = 41 then (m_sign_j161 S l1 s0 7) else (if l2 = 43 then (m_sign_j161 S l1 s0 8) else (if l2 = 45 then (m_sign_j161 S l1 s0 9) else (if l2 = 42 then (m_sign_j161 S l1 s0 10) else (if l2 = 60 then (m_sign_j161 S l1 s0 13) else (if l2 = 47 then (m_sign_j161 S l1 s0 15) else (m_sign_j161 S l1 s0 3))))))))) else (m_sign_j161 S l1 s0 s0)
noncomputable def m_sign (S : ST) (l1 : Int32) (l2 : Int32) (l3 : Int32) : Option (Int32 × ST) :=
  if l3 = 61 then (if l2 = 61 then (m_sign_j44 S l1 l2 11) else (if l2 = 33 then (m_sign_j44 S l1 l2 12) else (if l2 = 60 then (m_sign_j44 S l1 l2 14) else (m_sign_j44 S l1 l2 0)))) else (m_sign_j44 S l1 l2 0)
noncomputable def m_sumOf_j42 (Kb : ST → Int32 → Int32 → Int32 → Int32 → Int32 → Option (Int32 × ST)) (S : ST) (l1 : Int32) (l2 : Int32) (l3 : Int32) (l4 : Int32) (l5 : Int32) : Option (Int32 × ST) :=
  let v42 := l5 + 1
  Kb S l1 l2 l3 l4 v42
noncomputable def m_sumOf_h6 : Nat → ST → Int32 → Int32 → Int32 → Int32 → Int32 → Option (Int32 × ST)
  | 0, _, _, _, _, _, _ => none
  | n + 1, S, l1, l2, l3, l4, l5 =>
    if 8 ≤ l5 then (some (l4, S)) else (cal (m_has S l1 l5 l2 l3) fun r19 S19 =>
    if r19 = 0 then (m_sumOf_j42 (m_sumOf_h6 n) S19 l1 l2 l3 l4 l5) else (cal (m_has S19 l1 l5 ((1 - l2)) l3) fun r33 S33 =>
    if r33 = 0 then (let v39 := l4 + 1
    m_sumOf_j42 (m_sumOf_h6 n) S33 l1 l2 l3 v39 l5) else (m_sumOf_j42 (m_sumOf_h6 n) S33 l1 l2 l3 l4 l5)))
noncomputable def m_sumOf (S : ST) (l1 : Int32) (l2 : Int32) (l3 : Int32) : Option (Int32 × ST) :=
  m_sumOf_h6 FU S l1 l2 l3 0 0
noncomputable def m_take_j31 (S : ST) (l1 : Int32) (l2 : Int32) (s0 : Int32) (s1 : Int32) : Option (Int32 × ST) :=
  cal0 (m_in s1 s0 999) fun r34 =>
  if r34 = 0 then (some ((-1), S)) else (G (inb l1 3) <|
  G (inb ((12 * l1) + (S.2.1 34 (Int32.toNatClampNeg l1))) 36) <|
  let S58 := sA S 33 (upd (S.2.1 33) (Int32.toNatClampNeg ((12 * l1) + (S.2.1 34 (Int32.toNatClampNeg l1)))) l2)
  G (inb l1 3) <|
  G (inb l1 3) <|
  let S68 := sA S58 34 (upd (S58.2.1 34) (Int32.toNatClampNeg l1) ((S58.2.1 34 (Int32.toNatClampNeg l1)) + 1))
  G (inb l1 3) <|
  some ((S68.2.1 34 (Int32.toNatClampNeg l1)), S68))
noncomputable def m_take (S : ST) (l1 : Int32) (l2 : Int32) : Option (Int32 × ST) :=
  cal0 (m_in l1 0 2) fun r3 =>
  if r3 = 0 then (some ((-1), S)) else (G (inb l1 3) <|
  if (S.2.1 34 (Int32.toNatClampNeg l1)) = 12 then (some ((-1), S)) else (if l1 = 2 then (m_take_j31 S l1 l2 0 l2) else (m_take_j31 S l1 l2 1 l2)))
noncomputable def m_turn (S : ST) (l1 : Int32) : Option (Int32 × ST) :=
  cal0 (m_in l1 0 (((S.1 26) - 1))) fun r8 =>
  if r8 = 0 then (some ((-1), S)) else (G (inb l1 8) <|
  some ((S.2.1 39 (Int32.toNatClampNeg l1)), S))
noncomputable def m_whoIn (S : ST) (l1 : Int32) (l2 : Int32) (l3 : Int32) : Option (Int32 × ST) :=
  cal (m_latest S 1 l1 l2 l3) fun r5 S5 =>
  if r5 = (-1) then (some ((-1), S5)) else (G (inb r5 180) <|
  cal (m_latest S5 0 ((S5.2.1 26 (Int32.toNatClampNeg r5))) l2 l3) fun r29 S29 =>
  G (inb r29 180) <|
  if (S29.2.1 27 (Int32.toNatClampNeg r29)) = l1 then (G (inb r5 180) <|
  some ((S29.2.1 26 (Int32.toNatClampNeg r5)), S29)) else (some ((-1), S29)))
noncomputable def m_word (l0 : Int32) (l1 : Int32) (l2 : Int32) (l3 : Int32) (l4 : Int32) (l5 : Int32) (l6 : Int32) : Option Int64 :=
  cal0 (m_more 0 l0) fun r2 =>
  cal0 (m_more r2 l1) fun r6 =>
  cal0 (m_more r6 l2) fun r10 =>
  cal0 (m_more r10 l3) fun r14 =>
  cal0 (m_more r14 l4) fun r19 =>
  cal0 (m_more r19 l5) fun r24 =>
  cal0 (m_more r24 l6) fun r29 =>
  some r29
noncomputable def m_cut_j291 (Kb : ST → Int32 → Option ST) (K31 : ST → Option ST) (S : ST) (l1 : Int32) : Option ST :=
  Kb S l1
noncomputable def m_cut_j261 (Kb : ST → Int32 → Option ST) (K31 : ST → Option ST) (S : ST) (l1 : Int32) (l3 : Int32) (l4 : Int32) (s0 : Int32) : Option ST :=
  calV (m_token S s0 l1 l4 0) fun S265 =>
  let v271 := (l1 + l3)
  m_cut_j291 Kb K31 S265 v271
noncomputable def m_cut_j250 (Kb : ST → Int32 → Option ST) (K31 : ST → Option ST) (S : ST) (l1 : Int32) (l3 : Int32) (l4 : Int32) : Option ST :=
  if l3 ≤ 4 then (m_cut_j261 Kb K31 S l1 l3 l4 2) else (m_cut_j261 Kb K31 S l1 l3 l4 3)
noncomputable def m_cut_j244 (Kb : ST → Int32 → Int32 → Int32 → Option ST) (K250 : ST → Int32 → Int32 → Int32 → Option ST) (S : ST) (l1 : Int32) (l3 : Int32) (l4 : Int32) : Option ST :=
  let v244 := l3 + 1
  Kb S l1 v244 l4
noncomputable def m_cut_h208 (K250 : ST → Int32 → Int32 → Int32 → Option ST) : Nat → ST → Int32 → Int32 → Int32 → Option ST
  | 0, _, _, _, _ => none
  | n + 1, S, l1, l3, l4 =>
    cal (m_byteAt S ((l1 + l3))) fun r212 S212 =>
    cal0 (m_isDigit r212) fun r215 =>
    if r215 = 0 then (K250 S212 l1 l3 l4) else (if 4 ≤ l3 then (m_cut_j244 (m_cut_h208 K250 n) K250 S212 l1 l3 l4) else (cal (m_byteAt S212 ((l1 + l3))) fun r235 S235 =>
    let v242 := (((10 * l4) + r235) - 48)
    m_cut_j244 (m_cut_h208 K250 n) K250 S235 l1 l3 v242))
noncomputable def m_cut_j179 (Kb : ST → Int32 → Option ST) (K31 : ST → Option ST) (S : ST) (l1 : Int32) (l3 : Int32) (l4 : Int64) (l6 : Int32) : Option ST :=
  calV (m_token S l6 l1 0 l4) fun S186 =>
  let v192 := (l1 + l3)
  m_cut_j291 Kb K31 S186 v192
noncomputable def m_cut_j173 (Kb : ST → Int32 → Int32 → Int64 → Int32 → Int32 → Option ST) (K179 : ST → Int32 → Int32 → Int64 → Int32 → Option ST) (S : ST) (l1 : Int32) (l3 : Int32) (l4 : Int64) (l6 : Int32) (l7 : Int32) : Option ST :=
  let v173 := l7 + 1
  Kb S l1 l3 l4 l6 v173
noncomputable def m_cut_h146 (K179 : ST → Int32 → Int32 → Int64 → Int32 → Option ST) : Nat → ST → Int32 → Int32 → Int64 → Int32 → Int32 → Option ST
  | 0, _, _, _, _, _, _ => none
  | n + 1, S, l1, l3, l4, l6, l7 =>
    if 24 ≤ l7 then (K179 S l1 l3 l4 l6) else (G (inb l7 24) <|
    if (lg_cmp (S.2.2 1 (Int32.toNatClampNeg l7)) l4) = 0 then (let v171 := (20 + l7)
    m_cut_j173 (m_cut_h146 K179 n) K179 S l1 l3 l4 v171 l7) else (m_cut_j173 (m_cut_h146 K179 n) K179 S l1 l3 l4 l6 l7))
noncomputable def m_cut_j135 (Kb : ST → Int32 → Option ST) (K31 : ST → Option ST) (S : ST) (l1 : Int32) (l3 : Int32) (l4 : Int64) (s0 : Int32) : Option ST :=
  if 7 < l3 then (m_cut_j179 Kb K31 S l1 l3 l4 s0) else (m_cut_h146 (m_cut_j179 Kb K31) FU S l1 l3 l4 s0 0)
noncomputable def m_cut_j124 (Kb : ST → Int32 → Option ST) (K31 : ST → Option ST) (S : ST) (l1 : Int32) (l3 : Int32) (l4 : Int64) : Option ST :=
  if l3 ≤ 8 then (m_cut_j135 Kb K31 S l1 l3 l4 1) else (m_cut_j135 Kb K31 S l1 l3 l4 3)
noncomputable def m_cut_j118 (Kb : ST → Int32 → Int32 → Int64 → Option ST) (K124 : ST → Int32 → Int32 → Int64 → Option ST) (S : ST) (l1 : Int32) (l3 : Int32) (l4 : Int64) : Option ST :=
  let v118 := l3 + 1
  Kb S l1 v118 l4
noncomputable def m_cut_h85 (K124 : ST → Int32 → Int32 → Int64 → Option ST) : Nat → ST → Int32 → Int32 → Int64 → Option ST
  | 0, _, _, _, _ => none
  | n + 1, S, l1, l3, l4 =>
    cal (m_byteAt S ((l1 + l3))) fun r89 S89 =>
    cal0 (m_isLetter r89) fun r92 =>
    if r92 = 0 then (K124 S89 l1 l3 l4) else (if 8 ≤ l3 then (m_cut_j118 (m_cut_h85 K124 n) K124 S89 l1 l3 l4) else (cal (m_byteAt S89 ((l1 + l3))) fun r110 S110 =>
    cal0 (m_more l4 r110) fun r113 =>
    m_cut_j118 (m_cut_h85 K124 n) K124 S110 l1 l3 r113))
noncomputable def m_cut_j67 (Kb : ST → Int32 → Option ST) (K31 : ST → Option ST) (S : ST) (l1 : Int32) : Option ST :=
  let v67 := l1 + 1
  m_cut_j291 Kb K31 S v67
noncomputable def m_cut_j31 (S : ST) : Option ST :=
  calV (m_token S 0 ((S.1 2)) 0 0) fun S39 =>
  some S39
noncomputable def m_cut_h7 (K31 : ST → Option ST) : Nat → ST → Int32 → Option ST
  | 0, _, _ => none
  | n + 1, S, l1 =>
    if 400 < (S.1 3) then (some S) else (cal (m_byteAt S l1) fun r19 S19 =>
    if l1 < (S19.1 2) then (if r19 = 9 then (m_cut_j67 (m_cut_h7 K31 n) K31 S19 l1) else (if r19 = 10 then (m_cut_j67 (m_cut_h7 K31 n) K31 S19 l1) else (if r19 = 13 then (m_cut_j67 (m_cut_h7 K31 n) K31 S19 l1) else (if r19 = 32 then (m_cut_j67 (m_cut_h7 K31 n) K31 S19 l1) else (cal0 (m_isLetter r19) fun r74 =>
    if r74 = 0 then (cal0 (m_isDigit r19) fun r197 =>
    if r197 = 0 then (cal (m_byteAt S19 ((l1 + 1))) fun r283 S283 =>
    cal (m_sign S283 l1 r19 r283) fun r286 S286 =>
    let v290 := (l1 + r286)
    m_cut_j291 (m_cut_h7 K31 n) K31 S286 v290) else (m_cut_h208 (m_cut_j250 (m_cut_h7 K31 n) K31) FU S19 l1 0 0)) else (m_cut_h85 (m_cut_j124 (m_cut_h7 K31 n) K31) FU S19 l1 0 0)))))) else (K31 S19))
noncomputable def m_cut (S : ST) : Option ST :=
  let S2 := sI S 3 0
  m_cut_h7 (m_cut_j31) FU S2 0
noncomputable def m_fact_j91 (S : ST) (l1 : Int32) (l2 : Int32) (l3 : Int32) (s0 : Int32) (s1 : Int32) : Option (Int32 × ST) :=
  if 2 ≤ l1 then (cal (m_tells S s1 s0 l2 0 0 0 0 0) fun r106 S106 =>
  some (r106, S106)) else (cal (m_tells S s1 s0 l2 l3 0 0 0 0) fun r106 S106 =>
  some (r106, S106))
noncomputable def m_fact_j76 (S : ST) (l1 : Int32) (l2 : Int32) (l3 : Int32) (l4 : Int32) : Option (Int32 × ST) :=
  if l1 = 1 then (m_fact_j91 S l1 l2 l3 ((-1)) ((4 + l1))) else (m_fact_j91 S l1 l2 l3 l4 ((4 + l1)))
noncomputable def m_fact_j58 (S : ST) (l1 : Int32) (l2 : Int32) (l3 : Int32) (l4 : Int32) : Option (Int32 × ST) :=
  if l1 = 3 then (G (inb l2 180) <|
  if (S.2.1 25 (Int32.toNatClampNeg l2)) ≤ l4 then (m_fact_j76 S l1 l2 l3 l4) else (some ((-1), S))) else (m_fact_j76 S l1 l2 l3 l4)
noncomputable def m_fact_j45 (S : ST) (l1 : Int32) (l2 : Int32) (l3 : Int32) (l4 : Int32) : Option (Int32 × ST) :=
  if l1 = 1 then (m_fact_j58 S l1 l2 l3 l4) else (cal0 (m_isDay l4) fun r52 =>
  if r52 = 0 then (some ((-1), S)) else (m_fact_j58 S l1 l2 l3 l4))
noncomputable def m_fact (S : ST) (l1 : Int32) (l2 : Int32) (l3 : Int32) (l4 : Int32) : Option (Int32 × ST) :=
  if (S.1 18) = 180 then (some ((-1), S)) else (cal0 (m_in l1 0 3) fun r13 =>
  if r13 = 0 then (some ((-1), S)) else (cal (m_isLine S l2 ((S.1 18))) fun r25 S25 =>
  if r25 = 0 then (some ((-1), S25)) else (if 2 ≤ l1 then (m_fact_j45 S25 l1 l2 l3 l4) else (cal0 (m_isWord l3) fun r39 =>
  if r39 = 0 then (some ((-1), S25)) else (m_fact_j45 S25 l1 l2 l3 l4)))))
noncomputable def m_fills_j288 (S : ST) (l5 : Int32) (l6 : Int32) (l8 : Int32) (s0 : Int32) (s1 : Int32) : Option ST :=
  G (inb s1 12) <|
  let S288 := sA S 21 (upd (S.2.1 21) (Int32.toNatClampNeg s1) s0)
  G (inb 6 12) <|
  let S297 := sA S288 21 (upd (S288.2.1 21) (Int32.toNatClampNeg 6) l5)
  G (inb 7 12) <|
  let S305 := sA S297 21 (upd (S297.2.1 21) (Int32.toNatClampNeg 7) 0)
  G (inb 8 12) <|
  let S313 := sA S305 21 (upd (S305.2.1 21) (Int32.toNatClampNeg 8) 0)
  G (inb 9 12) <|
  let S322 := sA S313 21 (upd (S313.2.1 21) (Int32.toNatClampNeg 9) l6)
  G (inb 10 12) <|
  let S330 := sA S322 21 (upd (S322.2.1 21) (Int32.toNatClampNeg 10) 0)
  G (inb 11 12) <|
  let S339 := sA S330 21 (upd (S330.2.1 21) (Int32.toNatClampNeg 11) l8)
  some S339
noncomputable def m_fills_j213 (S : ST) (l1 : Int32) (l4 : Int32) (l5 : Int32) (l6 : Int32) (l7 : Int32) (l8 : Int32) : Option ST :=
  G (inb l1 180) <|
  G (inb 0 12) <|
  let S224 := sA S 21 (upd (S.2.1 21) (Int32.toNatClampNeg 0) (S.2.1 29 (Int32.toNatClampNeg l1)))
  G (inb l1 180) <|
  G (inb 1 12) <|
  let S236 := sA S224 21 (upd (S224.2.1 21) (Int32.toNatClampNeg 1) (S224.2.1 29 (Int32.toNatClampNeg l1)))
  G (inb 2 12) <|
  let S244 := sA S236 21 (upd (S236.2.1 21) (Int32.toNatClampNeg 2) l7)
  G (inb l1 180) <|
  G (inb 3 12) <|
  let S256 := sA S244 21 (upd (S244.2.1 21) (Int32.toNatClampNeg 3) (S244.2.1 27 (Int32.toNatClampNeg l1)))
  G (inb l1 180) <|
  G (inb 4 12) <|
  let S268 := sA S256 21 (upd (S256.2.1 21) (Int32.toNatClampNeg 4) (S256.2.1 26 (Int32.toNatClampNeg l1)))
  if l4 = (-1) then (m_fills_j288 S268 l5 l6 l8 0 5) else (m_fills_j288 S268 l5 l6 l8 ((l4 + 1)) 5)
noncomputable def m_fills_j207 (Kb : ST → Int32 → Int32 → Int32 → Int32 → Int32 → Int32 → Int32 → Int32 → Int32 → Option ST) (K213 : ST → Int32 → Int32 → Int32 → Int32 → Int32 → Int32 → Option ST) (S : ST) (l1 : Int32) (l2 : Int32) (l3 : Int32) (l4 : Int32) (l5 : Int32) (l6 : Int32) (l7 : Int32) (l8 : Int32) (l9 : Int32) : Option ST :=
  let v207 := l9 + 1
  Kb S l1 l2 l3 l4 l5 l6 l7 l8 v207
noncomputable def m_fills_j167 (Kb : ST → Int32 → Int32 → Int32 → Int32 → Int32 → Int32 → Int32 → Int32 → Int32 → Option ST) (K213 : ST → Int32 → Int32 → Int32 → Int32 → Int32 → Int32 → Option ST) (S : ST) (l1 : Int32) (l2 : Int32) (l3 : Int32) (l4 : Int32) (l5 : Int32) (l6 : Int32) (l7 : Int32) (l8 : Int32) (l9 : Int32) : Option ST :=
  G (inb l9 180) <|
  if (S.2.1 24 (Int32.toNatClampNeg l9)) = 0 then (G (inb l9 180) <|
  if (S.2.1 25 (Int32.toNatClampNeg l9)) = l3 then (G (inb l9 180) <|
  G (inb l1 180) <|
  if (S.2.1 28 (Int32.toNatClampNeg l9)) = (S.2.1 28 (Int32.toNatClampNeg l1)) then (let v204 := l8 + 1
  m_fills_j207 Kb K213 S l1 l2 l3 l4 l5 l6 l7 v204 l9) else (m_fills_j207 Kb K213 S l1 l2 l3 l4 l5 l6 l7 l8 l9)) else (m_fills_j207 Kb K213 S l1 l2 l3 l4 l5 l6 l7 l8 l9)) else (m_fills_j207 Kb K213 S l1 l2 l3 l4 l5 l6 l7 l8 l9)
noncomputable def m_fills_j105 (Kb : ST → Int32 → Int32 → Int32 → Int32 → Int32 → Int32 → Int32 → Int32 → Int32 → Option ST) (K213 : ST → Int32 → Int32 → Int32 → Int32 → Int32 → Int32 → Option ST) (S : ST) (l1 : Int32) (l2 : Int32) (l3 : Int32) (l4 : Int32) (l5 : Int32) (l6 : Int32) (l7 : Int32) (l8 : Int32) (l9 : Int32) : Option ST :=
  G (inb l9 180) <|
  if (S.2.1 24 (Int32.toNatClampNeg l9)) = 3 then (G (inb l1 180) <|
  if (S.2.1 27 (Int32.toNatClampNeg l1)) = 1 then (G (inb l9 180) <|
  G (inb l1 180) <|
  if (S.2.1 26 (Int32.toNatClampNeg l9)) = (S.2.1 30 (Int32.toNatClampNeg l1)) then (G (inb l9 180) <|
  G (inb l1 180) <|
  if (S.2.1 27 (Int32.toNatClampNeg l9)) = (S.2.1 31 (Int32.toNatClampNeg l1)) then (G (inb l9 180) <|
  let v165 := (S.2.1 28 (Int32.toNatClampNeg l9))
  m_fills_j167 Kb K213 S l1 l2 l3 l4 l5 l6 v165 l8 l9) else (m_fills_j167 Kb K213 S l1 l2 l3 l4 l5 l6 l7 l8 l9)) else (m_fills_j167 Kb K213 S l1 l2 l3 l4 l5 l6 l7 l8 l9)) else (m_fills_j167 Kb K213 S l1 l2 l3 l4 l5 l6 l7 l8 l9)) else (m_fills_j167 Kb K213 S l1 l2 l3 l4 l5 l6 l7 l8 l9)
noncomputable def m_fills_j74 (Kb : ST → Int32 → Int32 → Int32 → Int32 → Int32 → Int32 → Int32 → Int32 → Int32 → Option ST) (K213 : ST → Int32 → Int32 → Int32 → Int32 → Int32 → Int32 → Option ST) (S : ST) (l1 : Int32) (l2 : Int32) (l3 : Int32) (l4 : Int32) (l5 : Int32) (l6 : Int32) (l7 : Int32) (l8 : Int32) (l9 : Int32) : Option ST :=
  G (inb l9 180) <|
  if (S.2.1 24 (Int32.toNatClampNeg l9)) = 5 then (G (inb l9 180) <|
  if (S.2.1 26 (Int32.toNatClampNeg l9)) = l1 then (G (inb l9 180) <|
  let v103 := (S.2.1 27 (Int32.toNatClampNeg l9))
  m_fills_j105 Kb K213 S l1 l2 l3 l4 l5 v103 l7 l8 l9) else (m_fills_j105 Kb K213 S l1 l2 l3 l4 l5 l6 l7 l8 l9)) else (m_fills_j105 Kb K213 S l1 l2 l3 l4 l5 l6 l7 l8 l9)
noncomputable def m_fills_h36 (K213 : ST → Int32 → Int32 → Int32 → Int32 → Int32 → Int32 → Option ST) : Nat → ST → Int32 → Int32 → Int32 → Int32 → Int32 → Int32 → Int32 → Int32 → Int32 → Option ST
  | 0, _, _, _, _, _, _, _, _, _, _ => none
  | n + 1, S, l1, l2, l3, l4, l5, l6, l7, l8, l9 =>
    if l2 ≤ l9 then (K213 S l1 l4 l5 l6 l7 l8) else (G (inb l9 180) <|
    if (S.2.1 24 (Int32.toNatClampNeg l9)) = 2 then (G (inb l9 180) <|
    if (S.2.1 26 (Int32.toNatClampNeg l9)) = l4 then (G (inb l9 180) <|
    let v72 := (S.2.1 27 (Int32.toNatClampNeg l9))
    m_fills_j74 (m_fills_h36 K213 n) K213 S l1 l2 l3 l4 v72 l6 l7 l8 l9) else (m_fills_j74 (m_fills_h36 K213 n) K213 S l1 l2 l3 l4 l5 l6 l7 l8 l9)) else (m_fills_j74 (m_fills_h36 K213 n) K213 S l1 l2 l3 l4 l5 l6 l7 l8 l9))
noncomputable def m_fills (S : ST) (l1 : Int32) (l2 : Int32) : Option ST :=
  G (inb l1 180) <|
  let v6 := (S.2.1 25 (Int32.toNatClampNeg l1))
  G (inb l1 180) <|
  cal (m_whoIn S ((S.2.1 28 (Int32.toNatClampNeg l1))) v6 l2) fun r16 S16 =>
  m_fills_h36 (m_fills_j213) FU S16 l1 l2 v6 r16 0 0 0 0 0
noncomputable def m_holds_j79 (Kb : ST → Int32 → Int32 → Int32 → Option (Int32 × ST)) (S : ST) (l1 : Int32) (l3 : Int32) (s0 : Int32) : Option (Int32 × ST) :=
  let v80 := l3 + 1
  Kb S l1 s0 v80
noncomputable def m_holds_j78 (Kb : ST → Int32 → Int32 → Int32 → Option (Int32 × ST)) (S : ST) (l1 : Int32) (l3 : Int32) : Option (Int32 × ST) :=
  m_holds_j79 Kb S l1 l3 0
noncomputable def m_holds_j62 (Kb : ST → Int32 → Int32 → Int32 → Option (Int32 × ST)) (S : ST) (l1 : Int32) (l2 : Int32) (l3 : Int32) : Option (Int32 × ST) :=
  if l2 = 0 then (m_holds_j78 Kb S l1 l3) else (cal (m_isTrue S l3) fun r68 S68 =>
  if r68 = 0 then (m_holds_j78 Kb S68 l1 l3) else (m_holds_j79 Kb S68 l1 l3 1))
noncomputable def m_holds_j51 (Kb : ST → Int32 → Int32 → Int32 → Option (Int32 × ST)) (S : ST) (l1 : Int32) (l2 : Int32) (l3 : Int32) : Option (Int32 × ST) :=
  G (inb l3 980) <|
  if (S.2.1 14 (Int32.toNatClampNeg l3)) = 0 then (m_holds_j62 Kb S l1 l2 l3) else (m_holds_j62 Kb S l1 1 l3)
noncomputable def m_holds_h26 : Nat → ST → Int32 → Int32 → Int32 → Option (Int32 × ST)
  | 0, _, _, _, _ => none
  | n + 1, S, l1, l2, l3 =>
    G (inb l1 168) <|
    if (S.2.1 11 (Int32.toNatClampNeg l1)) ≤ l3 then (G (isB l2) <|
    some (l2, S)) else (G (inb l3 980) <|
    if (S.2.1 14 (Int32.toNatClampNeg l3)) = 0 then (m_holds_j51 (m_holds_h26 n) S l1 l2 l3) else (if l2 = 0 then (m_holds_j51 (m_holds_h26 n) S l1 l2 l3) else (some (1, S))))
noncomputable def m_holds (S : ST) (l1 : Int32) : Option (Int32 × ST) :=
  G (inb l1 168) <|
  G (inb l1 168) <|
  if (S.2.1 10 (Int32.toNatClampNeg l1)) = (S.2.1 11 (Int32.toNatClampNeg l1)) then (some (1, S)) else (G (inb l1 168) <|
  let v25 := (S.2.1 10 (Int32.toNatClampNeg l1))
  m_holds_h26 FU S l1 0 v25)
noncomputable def m_isAsked (S : ST) (l1 : Int32) (l2 : Int32) (l3 : Int32) : Option (Int32 × ST) :=
  cal0 (m_isWord l1) fun r1 =>
  if r1 = 0 then (some (0, S)) else (cal0 (m_isDay l2) fun r8 =>
  if r8 = 0 then (some (0, S)) else (cal (m_isKnown S l3) fun r16 S16 =>
  if r16 = 0 then (some (0, S16)) else (some (1, S16))))
noncomputable def m_isPrint (S : ST) (l1 : Int32) (l2 : Int32) (l3 : Int32) : Option (Int32 × ST) :=
  cal0 (m_isDay l1) fun r1 =>
  if r1 = 0 then (some (0, S)) else (cal0 (m_isDay l2) fun r8 =>
  if r8 = 0 then (some (0, S)) else (if l2 < l1 then (some (0, S)) else (cal (m_isKnown S l3) fun r21 S21 =>
  if r21 = 0 then (some (0, S21)) else (some (1, S21)))))
noncomputable def m_joined (S : ST) (l1 : Int32) : Option (Int32 × ST) :=
  cal (m_join S) fun r1 S1 =>
  if l1 < 0 then (some ((-1), S1)) else (G (inb 0 3) <|
  G (inb 1 3) <|
  if l1 < (((S1.2.1 34 (Int32.toNatClampNeg 0)) + (S1.2.1 34 (Int32.toNatClampNeg 1))) - r1) then (G (inb 0 3) <|
  if ((S1.2.1 34 (Int32.toNatClampNeg 0)) - r1) ≤ l1 then (G (inb 0 3) <|
  G (inb (((12 + l1) - (S1.2.1 34 (Int32.toNatClampNeg 0))) + r1) 36) <|
  let v67 := (S1.2.1 33 (Int32.toNatClampNeg (((12 + l1) - (S1.2.1 34 (Int32.toNatClampNeg 0))) + r1)))
  G (inb 0 3) <|
  if l1 < (S1.2.1 34 (Int32.toNatClampNeg 0)) then (cal (m_onTape S1 v67) fun r82 S82 =>
  G (inb l1 36) <|
  cal (m_onTape S82 ((S82.2.1 33 (Int32.toNatClampNeg l1)))) fun r92 S92 =>
  if r82 ≤ r92 then (G (inb l1 36) <|
  some ((S92.2.1 33 (Int32.toNatClampNeg l1)), S92)) else (some (v67, S92))) else (some (v67, S1))) else (G (inb l1 36) <|
  some ((S1.2.1 33 (Int32.toNatClampNeg l1)), S1))) else (some ((-1), S1)))
noncomputable def m_later (S : ST) (l1 : Int32) (l2 : Int32) : Option ST :=
  G (inb 0 12) <|
  let S9 := sA S 21 (upd (S.2.1 21) (Int32.toNatClampNeg 0) (S.1 19))
  G (inb 8 12) <|
  let S20 := sA S9 21 (upd (S9.2.1 21) (Int32.toNatClampNeg 8) (S9.1 20))
  G (inb l1 180) <|
  G (inb 7 12) <|
  let S35 := sA S20 21 (upd (S20.2.1 21) (Int32.toNatClampNeg 7) (l2 - (S20.2.1 25 (Int32.toNatClampNeg l1))))
  G (inb 10 12) <|
  let S43 := sA S35 21 (upd (S35.2.1 21) (Int32.toNatClampNeg 10) 0)
  calV (m_forces S43 l2) fun S46 =>
  some S46
noncomputable def m_line_j71 (S : ST) (l1 : Int32) (l2 : Int32) (l3 : Int32) (l4 : Int32) (l5 : Int32) : Option (Int32 × ST) :=
  cal (m_tells S 0 l1 l2 l3 l4 l5 ((-1)) ((-1))) fun r82 S82 =>
  some (r82, S82)
noncomputable def m_line_j48 (S : ST) (l1 : Int32) (l2 : Int32) (l3 : Int32) (l4 : Int32) (l5 : Int32) : Option (Int32 × ST) :=
  if l3 = 3 then (if l5 = 0 then (m_line_j71 S l1 l2 l3 l4 l5) else (some ((-1), S))) else (cal0 (m_isWord l5) fun r63 =>
  if r63 = 0 then (some ((-1), S)) else (m_line_j71 S l1 l2 l3 l4 l5))
noncomputable def m_line (S : ST) (l1 : Int32) (l2 : Int32) (l3 : Int32) (l4 : Int32) (l5 : Int32) : Option (Int32 × ST) :=
  if (S.1 18) = 180 then (some ((-1), S)) else (cal0 (m_isDay l1) fun r11 =>
  if r11 = 0 then (some ((-1), S)) else (cal0 (m_isMinute l2) fun r18 =>
  if r18 = 0 then (some ((-1), S)) else (cal0 (m_isSeat l4) fun r26 =>
  if r26 = 0 then (some ((-1), S)) else (if l3 = 0 then (m_line_j48 S l1 l2 l3 l4 l5) else (if l3 = 2 then (m_line_j48 S l1 l2 l3 l4 l5) else (if l3 = 3 then (m_line_j48 S l1 l2 l3 l4 l5) else (some ((-1), S))))))))
noncomputable def m_moved_j112 (Kb : ST → Int32 → Int32 → Option (Int32 × ST)) (S : ST) (l1 : Int32) (l3 : Int32) : Option (Int32 × ST) :=
  let v112 := l3 + (-1)
  Kb S l1 v112
noncomputable def m_moved_j101 (Kb : ST → Int32 → Int32 → Option (Int32 × ST)) (S : ST) (l1 : Int32) (l3 : Int32) (l4 : Int32) (s0 : Int32) : Option (Int32 × ST) :=
  if l4 = s0 then (m_moved_j112 Kb S l1 l3) else (some (l3, S))
noncomputable def m_moved_j77 (Kb : ST → Int32 → Int32 → Option (Int32 × ST)) (S : ST) (l1 : Int32) (l3 : Int32) (s0 : Int32) : Option (Int32 × ST) :=
  cal (m_sumOf S l1 0 l3) fun r83 S83 =>
  cal (m_sumOf S83 l1 1 l3) fun r90 S90 =>
  if r83 ≤ r90 then (m_moved_j101 Kb S90 l1 l3 s0 0) else (m_moved_j101 Kb S90 l1 l3 s0 1)
noncomputable def m_moved_h23 : Nat → ST → Int32 → Int32 → Option (Int32 × ST)
  | 0, _, _, _ => none
  | n + 1, S, l1, l3 =>
    if l3 < 0 then (some ((-2), S)) else (G (inb l3 180) <|
    if (S.2.1 24 (Int32.toNatClampNeg l3)) = 9 then (G (inb l3 180) <|
    if (S.2.1 26 (Int32.toNatClampNeg l3)) = l1 then (cal (m_sumOf S l1 0 ((l3 + 1))) fun r57 S57 =>
    cal (m_sumOf S57 l1 1 ((l3 + 1))) fun r66 S66 =>
    if r57 ≤ r66 then (m_moved_j77 (m_moved_h23 n) S66 l1 l3 0) else (m_moved_j77 (m_moved_h23 n) S66 l1 l3 1)) else (m_moved_j112 (m_moved_h23 n) S l1 l3)) else (m_moved_j112 (m_moved_h23 n) S l1 l3))
noncomputable def m_moved (S : ST) (l1 : Int32) (l2 : Int32) : Option (Int32 × ST) :=
  cal0 (m_in l1 0 3) fun r3 =>
  if r3 = 0 then (some ((-1), S)) else (cal (m_isKnown S l2) fun r11 S11 =>
  if r11 = 0 then (some ((-1), S11)) else (let v22 := (l2 - 1)
  m_moved_h23 FU S11 l1 v22))
noncomputable def m_must (S : ST) (l1 : Int32) : Option ST :=
  cal (m_is S l1) fun r2 S2 =>
  if r2 = 0 then (calV (m_fail S2 1) fun S17 =>
  some S17) else (calV (m_next S2) fun S9 =>
  some S9)
noncomputable def m_office (S : ST) (l1 : Int32) (l2 : Int32) : Option (Int32 × ST) :=
  if (S.1 18) = 180 then (some ((-1), S)) else (cal0 (m_isMember l1) fun r11 =>
  if r11 = 0 then (some ((-1), S)) else (cal0 (m_in l2 0 9) fun r21 =>
  if r21 = 0 then (some ((-1), S)) else (cal (m_tells S 2 ((-1)) l1 l2 0 0 0 0) fun r40 S40 =>
  some (r40, S40))))
noncomputable def m_reads (S : ST) (l1 : Int32) (l2 : Int32) (l3 : Int32) (l4 : Int32) (l5 : Int32) (l6 : Int32) : Option (Int32 × ST) :=
  if (S.1 18) = 180 then (some ((-1), S)) else (cal0 (m_isDay l1) fun r11 =>
  if r11 = 0 then (some ((-1), S)) else (cal0 (m_isMinute l2) fun r18 =>
  if r18 = 0 then (some ((-1), S)) else (cal0 (m_isSeat l3) fun r25 =>
  if r25 = 0 then (some ((-1), S)) else (cal0 (m_isWord l4) fun r33 =>
  if r33 = 0 then (some ((-1), S)) else (cal0 (m_in l5 0 3) fun r43 =>
  if r43 = 0 then (some ((-1), S)) else (cal0 (m_in l6 0 9) fun r54 =>
  if r54 = 0 then (some ((-1), S)) else (cal (m_tells S 0 l1 l2 1 l3 l4 l5 l6) fun r74 S74 =>
  some (r74, S74))))))))
noncomputable def m_rename (S : ST) (l1 : Int32) (l2 : Int32) (l3 : Int32) : Option (Int32 × ST) :=
  if (S.1 18) = 180 then (some ((-1), S)) else (cal0 (m_isWord l1) fun r11 =>
  if r11 = 0 then (some ((-1), S)) else (cal0 (m_isWord l2) fun r18 =>
  if r18 = 0 then (some ((-1), S)) else (if l1 = l2 then (some ((-1), S)) else (cal0 (m_isDay l3) fun r30 =>
  if r30 = 0 then (some ((-1), S)) else (cal (m_tells S 8 l3 l1 l2 0 0 0 0) fun r50 S50 =>
  some (r50, S50))))))
noncomputable def m_rule (S : ST) (l1 : Int32) (l2 : Int32) (l3 : Int32) : Option (Int32 × ST) :=
  cal0 (m_isDay l1) fun r1 =>
  if r1 = 0 then (some ((-1), S)) else (calV (m_forces S l1) fun S11 =>
  if l2 < 0 then (some ((-1), S11)) else (if l2 < (S11.1 17) then (if l3 = 0 then (G (inb l2 144) <|
  G (inb (S11.2.1 23 (Int32.toNatClampNeg l2)) 168) <|
  some ((S11.2.1 7 (Int32.toNatClampNeg (S11.2.1 23 (Int32.toNatClampNeg l2)))), S11)) else (if l3 = 1 then (G (inb l2 144) <|
  some (((S11.2.1 23 (Int32.toNatClampNeg l2)) / 24), S11)) else (if l3 = 2 then (G (inb l2 144) <|
  some (((S11.2.1 23 (Int32.toNatClampNeg l2)) - (S11.2.1 23 (Int32.toNatClampNeg l2)) / 24 * 24), S11)) else (some ((-1), S11))))) else (some ((-1), S11))))
noncomputable def m_rules (S : ST) (l1 : Int32) : Option (Int32 × ST) :=
  cal0 (m_isDay l1) fun r1 =>
  if r1 = 0 then (some ((-1), S)) else (calV (m_forces S l1) fun S11 =>
  some ((S11.1 17), S11))
noncomputable def m_same (S : ST) (l1 : Int32) (l2 : Int32) (l3 : Int32) (l4 : Int32) : Option (Int32 × ST) :=
  cal0 (m_isWord l1) fun r1 =>
  if r1 = 0 then (some ((-1), S)) else (cal0 (m_isWord l2) fun r8 =>
  if r8 = 0 then (some ((-1), S)) else (cal0 (m_isDay l3) fun r15 =>
  if r15 = 0 then (some ((-1), S)) else (cal (m_isKnown S l4) fun r24 S24 =>
  if r24 = 0 then (some ((-1), S24)) else (calV (m_sames S24 l1 l3 l4) fun S37 =>
  G (inb l2 1000) <|
  if (S37.2.1 40 (Int32.toNatClampNeg l2)) = 0 then (some (0, S37)) else (some (1, S37))))))
noncomputable def m_sits (S : ST) (l1 : Int32) (l2 : Int32) (l3 : Int32) : Option (Int32 × ST) :=
  if (S.1 18) = 180 then (some ((-1), S)) else (cal0 (m_isMember l1) fun r11 =>
  if r11 = 0 then (some ((-1), S)) else (cal0 (m_isSeat l2) fun r18 =>
  if r18 = 0 then (some ((-1), S)) else (cal0 (m_isDay l3) fun r25 =>
  if r25 = 0 then (some ((-1), S)) else (cal (m_tells S 1 l3 l1 l2 0 0 0 0) fun r44 S44 =>
  some (r44, S44)))))
noncomputable def m_sum (S : ST) (l1 : Int32) (l2 : Int32) (l3 : Int32) : Option (Int32 × ST) :=
  cal0 (m_in l1 0 3) fun r3 =>
  if r3 = 0 then (some ((-1), S)) else (cal0 (m_in l2 0 1) fun r12 =>
  if r12 = 0 then (some ((-1), S)) else (cal (m_isKnown S l3) fun r20 S20 =>
  if r20 = 0 then (some ((-1), S20)) else (cal (m_sumOf S20 l1 l2 l3) fun r34 S34 =>
  some (r34, S34))))
noncomputable def m_unit (S : ST) : Option ST :=
  cal (m_is S 2) fun r2 S2 =>
  if r2 = 0 then (if (S2.1 6) = 0 then (G (inb (S2.1 4) 403) <|
  if (S2.2.1 2 (Int32.toNatClampNeg (S2.1 4))) < 32 then (calV (m_fail S2 1) fun S90 =>
  some S90) else (G (inb (S2.1 4) 403) <|
  if 43 < (S2.2.1 2 (Int32.toNatClampNeg (S2.1 4))) then (calV (m_fail S2 1) fun S90 =>
  some S90) else (G (inb (S2.1 4) 403) <|
  calV (m_emit S2 1 (((S2.2.1 2 (Int32.toNatClampNeg (S2.1 4))) - 32))) fun S78 =>
  calV (m_next S78) fun S82 =>
  some S82))) else (calV (m_fail S2 1) fun S90 =>
  some S90)) else (G (inb (S2.1 4) 403) <|
  calV (m_emit S2 0 ((S2.2.1 4 (Int32.toNatClampNeg (S2.1 4))))) fun S19 =>
  calV (m_next S19) fun S23 =>
  some S23)
noncomputable def m_vote (S : ST) (l1 : Int32) (l2 : Int32) (l3 : Int32) (l4 : Int32) : Option (Int32 × ST) :=
  if (S.1 18) = 180 then (some ((-1), S)) else (cal0 (m_in l1 0 3) fun r13 =>
  if r13 = 0 then (some ((-1), S)) else (cal0 (m_isMember l2) fun r20 =>
  if r20 = 0 then (some ((-1), S)) else (cal0 (m_in l3 0 1) fun r29 =>
  if r29 = 0 then (some ((-1), S)) else (cal0 (m_in l4 0 1) fun r39 =>
  if r39 = 0 then (some ((-1), S)) else (cal (m_tells S 9 ((-1)) l1 l2 l3 0 0 0) fun r59 S59 =>
  some (r59, S59))))))
noncomputable def m_who (S : ST) (l1 : Int32) (l2 : Int32) (l3 : Int32) : Option (Int32 × ST) :=
  cal0 (m_isSeat l1) fun r1 =>
  if r1 = 0 then (some ((-1), S)) else (cal0 (m_isDay l2) fun r8 =>
  if r8 = 0 then (some ((-1), S)) else (cal (m_isKnown S l3) fun r16 S16 =>
  if r16 = 0 then (some ((-1), S16)) else (cal (m_whoIn S16 l1 l2 l3) fun r28 S28 =>
  if r28 = (-1) then (some ((-2), S28)) else (some (r28, S28)))))
noncomputable def m_expression_j234 (Kb : ST → Int32 → Int32 → Option ST) (K191 : ST → Int32 → Option ST) (S : ST) (l1 : Int32) (l2 : Int32) (s0 : Int32) : Option ST :=
  calV (m_comesOut S s0) fun S234 =>
  G (inb (S234.1 4) 403) <|
  G (inb (S234.1 14) 64) <|
  let S254 := sA S234 20 (upd (S234.2.1 20) (Int32.toNatClampNeg (S234.1 14)) (S234.2.1 2 (Int32.toNatClampNeg (S234.1 4))))
  let S262 := sI S254 14 ((S254.1 14) + 1)
  calV (m_next S262) fun S266 =>
  Kb S266 l1 l2
noncomputable def m_expression_j229 (Kb : ST → Int32 → Int32 → Option ST) (K191 : ST → Int32 → Option ST) (S : ST) (l1 : Int32) (l2 : Int32) : Option ST :=
  m_expression_j234 Kb K191 S l1 l2 1
noncomputable def m_expression_j191 (S : ST) (l1 : Int32) : Option ST :=
  if (S.1 5) ≤ l1 then (calV (m_comesOut S 0) fun S206 =>
  some S206) else (calV (m_fail S 1) fun S201 =>
  calV (m_comesOut S201 0) fun S206 =>
  some S206)
noncomputable def m_expression_j186 (Kb : ST → Int32 → Int32 → Option ST) (K191 : ST → Int32 → Option ST) (S : ST) (l1 : Int32) (s0 : Int32) : Option ST :=
  if s0 = 0 then (K191 S l1) else (cal (m_is S 10) fun r214 S214 =>
  if r214 = 0 then (cal (m_is S214 15) fun r223 S223 =>
  if r223 = 0 then (m_expression_j234 Kb K191 S223 l1 s0 0) else (m_expression_j229 Kb K191 S223 l1 s0)) else (m_expression_j229 Kb K191 S214 l1 s0))
noncomputable def m_expression_j181 (Kb : ST → Int32 → Int32 → Option ST) (K191 : ST → Int32 → Option ST) (S : ST) (l1 : Int32) : Option ST :=
  m_expression_j186 Kb K191 S l1 1
noncomputable def m_expression_j145 (Kb : ST → Int32 → Int32 → Option ST) (K191 : ST → Int32 → Option ST) (S : ST) (l1 : Int32) : Option ST :=
  cal (m_is S 8) fun r148 S148 =>
  if r148 = 0 then (cal (m_is S148 9) fun r157 S157 =>
  if r157 = 0 then (cal (m_is S157 10) fun r166 S166 =>
  if r166 = 0 then (cal (m_is S166 15) fun r175 S175 =>
  if r175 = 0 then (m_expression_j186 Kb K191 S175 l1 0) else (m_expression_j181 Kb K191 S175 l1)) else (m_expression_j181 Kb K191 S166 l1)) else (m_expression_j181 Kb K191 S157 l1)) else (m_expression_j181 Kb K191 S148 l1)
noncomputable def m_expression_h96 (K145 : ST → Int32 → Option ST) : Nat → ST → Int32 → Option ST
  | 0, _, _ => none
  | n + 1, S, l1 =>
    cal (m_is S 7) fun r99 S99 =>
    if r99 = 0 then (K145 S99 l1) else (if (S99.1 5) ≤ l1 then (K145 S99 l1) else (calV (m_comesOut S99 0) fun S115 =>
    let S125 := sI S115 14 ((S115.1 14) - 1)
    let S135 := sI S125 5 ((S125.1 5) - 1)
    calV (m_next S135) fun S139 =>
    (m_expression_h96 K145 n) S139 l1))
noncomputable def m_expression_j84 (Kb : ST → Int32 → Int32 → Option ST) (K191 : ST → Int32 → Option ST) (S : ST) (l1 : Int32) : Option ST :=
  calV (m_unit S) fun S85 =>
  if (S85.1 6) ≤ 0 then (m_expression_h96 (m_expression_j145 Kb K191) FU S85 l1) else (some S85)
noncomputable def m_expression_j46 (Kb : ST → Int32 → Option ST) (K84 : ST → Int32 → Option ST) (S : ST) (l1 : Int32) : Option ST :=
  let S53 := sI S 5 ((S.1 5) + 1)
  calV (m_next S53) fun S57 =>
  G (inb (S57.1 14) 64) <|
  let S70 := sA S57 20 (upd (S57.2.1 20) (Int32.toNatClampNeg (S57.1 14)) 6)
  let S78 := sI S70 14 ((S70.1 14) + 1)
  Kb S78 l1
noncomputable def m_expression_h23 (K84 : ST → Int32 → Option ST) : Nat → ST → Int32 → Option ST
  | 0, _, _ => none
  | n + 1, S, l1 =>
    cal (m_is S 6) fun r26 S26 =>
    if r26 = 0 then (K84 S26 l1) else (if (S26.1 5) = 6 then (calV (m_fail S26 2) fun S43 =>
    m_expression_j46 (m_expression_h23 K84 n) K84 S43 l1) else (m_expression_j46 (m_expression_h23 K84 n) K84 S26 l1))
noncomputable def m_expression_h12 (K191 : ST → Int32 → Option ST) : Nat → ST → Int32 → Int32 → Option ST
  | 0, _, _, _ => none
  | n + 1, S, l1, l2 =>
    if l2 = 0 then (some S) else (if (S.1 6) = 0 then (m_expression_h23 (m_expression_j84 (m_expression_h12 K191 n) K191) FU S l1) else (some S))
noncomputable def m_expression (S : ST) : Option ST :=
  let S2 := sI S 14 0
  let v9 := (S2.1 5)
  m_expression_h12 (m_expression_j191) FU S2 v9 1
noncomputable def m_first_j40 (Kb : ST → Int32 → Int32 → Option (Int32 × ST)) (S : ST) (l1 : Int32) (l2 : Int32) : Option (Int32 × ST) :=
  let v40 := l2 + 1
  Kb S l1 v40
noncomputable def m_first_h2 : Nat → ST → Int32 → Int32 → Option (Int32 × ST)
  | 0, _, _, _ => none
  | n + 1, S, l1, l2 =>
    if (S.1 17) ≤ l2 then (some ((-1), S)) else (G (inb l2 144) <|
    G (inb (S.2.1 23 (Int32.toNatClampNeg l2)) 168) <|
    if (S.2.1 7 (Int32.toNatClampNeg (S.2.1 23 (Int32.toNatClampNeg l2)))) = l1 then (G (inb l2 144) <|
    cal (m_holds S ((S.2.1 23 (Int32.toNatClampNeg l2)))) fun r32 S32 =>
    if r32 = 0 then (m_first_j40 (m_first_h2 n) S32 l1 l2) else (some (l2, S32))) else (m_first_j40 (m_first_h2 n) S l1 l2))
noncomputable def m_first (S : ST) (l1 : Int32) : Option (Int32 × ST) :=
  m_first_h2 FU S l1 0
noncomputable def m_fateOf (S : ST) (l1 : Int32) (l2 : Int32) : Option (Int32 × ST) :=
  G (inb l1 180) <|
  let v6 := (S.2.1 26 (Int32.toNatClampNeg l1))
  G (inb l1 180) <|
  G (inb v6 180) <|
  if (S.2.1 25 (Int32.toNatClampNeg v6)) ≤ (S.2.1 25 (Int32.toNatClampNeg l1)) then (G (inb l1 180) <|
  cal (m_isStruckBy S v6 ((S.2.1 25 (Int32.toNatClampNeg l1))) l2) fun r33 S33 =>
  if r33 = 0 then (G (inb 0 12) <|
  let S50 := sA S33 21 (upd (S33.2.1 21) (Int32.toNatClampNeg 0) (S33.1 19))
  G (inb 8 12) <|
  let S61 := sA S50 21 (upd (S50.2.1 21) (Int32.toNatClampNeg 8) (S50.1 20))
  G (inb l1 180) <|
  G (inb v6 180) <|
  G (inb 7 12) <|
  let S81 := sA S61 21 (upd (S61.2.1 21) (Int32.toNatClampNeg 7) ((S61.2.1 25 (Int32.toNatClampNeg l1)) - (S61.2.1 25 (Int32.toNatClampNeg v6))))
  G (inb l1 180) <|
  G (inb 10 12) <|
  let S94 := sA S81 21 (upd (S81.2.1 21) (Int32.toNatClampNeg 10) (S81.2.1 27 (Int32.toNatClampNeg l1)))
  G (inb l1 180) <|
  calV (m_forces S94 ((S94.2.1 25 (Int32.toNatClampNeg l1)))) fun S102 =>
  cal (m_first S102 1) fun r107 S107 =>
  if r107 = (-1) then (some (3, S107)) else (cal (m_first S107 2) fun r118 S118 =>
  if r118 = (-1) then (some (0, S118)) else (some (4, S118)))) else (some (2, S33))) else (some (1, S))
noncomputable def m_literal_j85 (S : ST) (l1 : Int32) (l2 : Int32) (l3 : Int32) (l4 : Int32) : Option ST :=
  calV (m_next S) fun S86 =>
  let v93 := (S86.1 13)
  calV (m_expression S86) fun S96 =>
  if (S96.1 6) ≤ 0 then (G (inb (S96.1 12) 980) <|
  let S117 := sA S96 12 (upd (S96.2.1 12) (Int32.toNatClampNeg (S96.1 12)) l4)
  G (inb (S117.1 12) 980) <|
  let S127 := sA S117 13 (upd (S117.2.1 13) (Int32.toNatClampNeg (S117.1 12)) (vp_nar .boolean l2))
  G (inb (S127.1 12) 980) <|
  let S137 := sA S127 14 (upd (S127.2.1 14) (Int32.toNatClampNeg (S127.1 12)) (vp_nar .boolean l1))
  G (inb (S137.1 12) 980) <|
  let S147 := sA S137 15 (upd (S137.2.1 15) (Int32.toNatClampNeg (S137.1 12)) l3)
  G (inb (S147.1 12) 980) <|
  let S158 := sA S147 16 (upd (S147.2.1 16) (Int32.toNatClampNeg (S147.1 12)) v93)
  G (inb (S158.1 12) 980) <|
  let S171 := sA S158 17 (upd (S158.2.1 17) (Int32.toNatClampNeg (S158.1 12)) (S158.1 13))
  let S179 := sI S171 12 ((S171.1 12) + 1)
  some S179) else (some S96)
noncomputable def m_literal_j80 (S : ST) (l1 : Int32) (l2 : Int32) (l3 : Int32) (l4 : Int32) : Option ST :=
  calV (m_fail S 1) fun S82 =>
  m_literal_j85 S82 l1 l2 l3 l4
noncomputable def m_literal_j60 (S : ST) (l1 : Int32) (l2 : Int32) (l3 : Int32) (s0 : Int32) : Option ST :=
  if (S.1 6) = 0 then (if s0 < 0 then (m_literal_j80 S l1 l2 l3 s0) else (if s0 ≤ 3 then (m_literal_j85 S l1 l2 l3 s0) else (m_literal_j80 S l1 l2 l3 s0))) else (m_literal_j85 S l1 l2 l3 s0)
noncomputable def m_literal_j28 (S : ST) (l1 : Int32) (l2 : Int32) : Option ST :=
  let v32 := (S.1 13)
  calV (m_expression S) fun S34 =>
  if (S34.1 6) ≤ 0 then (G (inb (S34.1 4) 403) <|
  m_literal_j60 S34 l1 l2 v32 (((S34.2.1 2 (Int32.toNatClampNeg (S34.1 4))) - 11))) else (m_literal_j60 S34 l1 l2 v32 0)
noncomputable def m_literal_j20 (Kb : ST → Int32 → Int32 → Option ST) (K28 : ST → Int32 → Int32 → Option ST) (S : ST) (l1 : Int32) (s0 : Int32) : Option ST :=
  calV (m_next S) fun S22 =>
  Kb S22 l1 s0
noncomputable def m_literal_h2 (K28 : ST → Int32 → Int32 → Option ST) : Nat → ST → Int32 → Int32 → Option ST
  | 0, _, _, _ => none
  | n + 1, S, l1, l2 =>
    cal (m_is S 31) fun r5 S5 =>
    if r5 = 0 then (K28 S5 l1 l2) else (if l2 = 0 then (m_literal_j20 (m_literal_h2 K28 n) K28 S5 l1 1) else (m_literal_j20 (m_literal_h2 K28 n) K28 S5 l1 0))
noncomputable def m_literal (S : ST) (l1 : Int32) : Option ST :=
  m_literal_h2 (m_literal_j28) FU S l1 0
noncomputable def m_prints_j199 (S : ST) (l1 : Int32) (l2 : Int32) (l3 : Int32) : Option ST :=
  cal (m_isStruckBy S l1 l2 l3) fun r204 S204 =>
  G (isB r204) <|
  let S207 := sI S204 22 r204
  calV (m_later S207 l1 l2) fun S213 =>
  cal (m_first S213 3) fun r219 S219 =>
  let S222 := sI S219 23 r219
  some S222
noncomputable def m_prints_j193 (Kb : ST → Int32 → Int32 → Int32 → Int32 → Int32 → Option ST) (K199 : ST → Int32 → Int32 → Int32 → Option ST) (S : ST) (l1 : Int32) (l2 : Int32) (l3 : Int32) (l4 : Int32) (l5 : Int32) : Option ST :=
  let v193 := l5 + 1
  Kb S l1 l2 l3 l4 v193
noncomputable def m_prints_h113 (K199 : ST → Int32 → Int32 → Int32 → Option ST) : Nat → ST → Int32 → Int32 → Int32 → Int32 → Int32 → Option ST
  | 0, _, _, _, _, _, _ => none
  | n + 1, S, l1, l2, l3, l4, l5 =>
    if l3 ≤ l5 then (K199 S l1 l2 l3) else (if l4 ≤ l5 then (K199 S l1 l2 l3) else (G (inb l5 180) <|
    if (S.2.1 24 (Int32.toNatClampNeg l5)) = 4 then (G (inb l5 180) <|
    if (S.2.1 26 (Int32.toNatClampNeg l5)) = l1 then (G (inb l5 180) <|
    if l2 < (S.2.1 25 (Int32.toNatClampNeg l5)) then (m_prints_j193 (m_prints_h113 K199 n) K199 S l1 l2 l3 l4 l5) else (cal (m_fateOf S l5 l3) fun r163 S163 =>
    if r163 = 0 then (G (inb l5 180) <|
    let S180 := sI S163 19 (S163.2.1 27 (Int32.toNatClampNeg l5))
    let S190 := sI S180 20 ((S180.1 20) + 1)
    m_prints_j193 (m_prints_h113 K199 n) K199 S190 l1 l2 l3 l4 l5) else (m_prints_j193 (m_prints_h113 K199 n) K199 S163 l1 l2 l3 l4 l5))) else (m_prints_j193 (m_prints_h113 K199 n) K199 S l1 l2 l3 l4 l5)) else (m_prints_j193 (m_prints_h113 K199 n) K199 S l1 l2 l3 l4 l5)))
noncomputable def m_prints_j108 (S : ST) (l1 : Int32) (l2 : Int32) (l3 : Int32) (l4 : Int32) : Option ST :=
  let v111 := (l1 + 1)
  m_prints_h113 (m_prints_j199) FU S l1 l2 l3 l4 v111
noncomputable def m_prints_j105 (S : ST) (l1 : Int32) (l2 : Int32) (l3 : Int32) (l4 : Int32) (s0 : Int32) : Option ST :=
  let S105 := sI S 19 s0
  m_prints_j108 S105 l1 l2 l3 l4
noncomputable def m_prints (S : ST) (l1 : Int32) (l2 : Int32) (l3 : Int32) (l4 : Int32) : Option ST :=
  calV (m_fills S l1 l3) fun S3 =>
  G (inb l1 180) <|
  let S13 := sI S3 19 (S3.2.1 29 (Int32.toNatClampNeg l1))
  let S18 := sI S13 20 0
  G (inb l1 180) <|
  calV (m_forces S18 ((S18.2.1 25 (Int32.toNatClampNeg l1)))) fun S28 =>
  cal (m_first S28 0) fun r34 S34 =>
  let S37 := sI S34 21 r34
  if (S37.1 21) = (-1) then (m_prints_j108 S37 l1 l2 l3 l4) else (G (inb (S37.1 21) 144) <|
  let v57 := (S37.2.1 23 (Int32.toNatClampNeg (S37.1 21)))
  G (inb v57 168) <|
  G (inb v57 168) <|
  cal (m_termOf S37 ((S37.2.1 8 (Int32.toNatClampNeg v57))) ((S37.2.1 9 (Int32.toNatClampNeg v57)))) fun r74 S74 =>
  if 0 ≤ r74 then (if r74 ≤ 999 then (m_prints_j105 S74 l1 l2 l3 l4 r74) else (m_prints_j105 S74 l1 l2 l3 l4 999)) else (m_prints_j105 S74 l1 l2 l3 l4 0))
noncomputable def m_tellRule_j309 (S : ST) (l3 : Int32) : Option ST :=
  calV (m_must S 4) fun S311 =>
  G (inb l3 168) <|
  let S323 := sA S311 11 (upd (S311.2.1 11) (Int32.toNatClampNeg l3) (S311.1 12))
  if (S323.1 6) = 0 then (G (inb (S323.1 11) 7) <|
  G (inb (S323.1 11) 7) <|
  let S343 := sA S323 6 (upd (S323.2.1 6) (Int32.toNatClampNeg (S323.1 11)) ((S323.2.1 6 (Int32.toNatClampNeg (S323.1 11))) + 1))
  some S343) else (some S323)
noncomputable def m_tellRule_j295 (Kb : ST → Int32 → Int32 → Int32 → Option ST) (K309 : ST → Int32 → Option ST) (S : ST) (l3 : Int32) (l5 : Int32) (s0 : Int32) : Option ST :=
  if s0 = 0 then (Kb S l3 s0 l5) else (calV (m_next S) fun S303 =>
  Kb S303 l3 s0 l5)
noncomputable def m_tellRule_j290 (Kb : ST → Int32 → Int32 → Int32 → Option ST) (K309 : ST → Int32 → Option ST) (S : ST) (l3 : Int32) (l5 : Int32) : Option ST :=
  m_tellRule_j295 Kb K309 S l3 l5 1
noncomputable def m_tellRule_h250 (K309 : ST → Int32 → Option ST) : Nat → ST → Int32 → Int32 → Int32 → Option ST
  | 0, _, _, _, _ => none
  | n + 1, S, l3, l4, l5 =>
    if l4 = 0 then (K309 S l3) else (if (S.1 6) = 0 then (calV (m_literal S l5) fun S265 =>
    cal (m_is S265 29) fun r271 S271 =>
    if r271 = 0 then (cal (m_is S271 30) fun r284 S284 =>
    if r284 = 0 then (m_tellRule_j295 (m_tellRule_h250 K309 n) K309 S284 l3 r271 0) else (m_tellRule_j290 (m_tellRule_h250 K309 n) K309 S284 l3 r271)) else (m_tellRule_j290 (m_tellRule_h250 K309 n) K309 S271 l3 r271)) else (K309 S l3))
noncomputable def m_tellRule_j247 (S : ST) (l3 : Int32) (l4 : Int32) : Option ST :=
  m_tellRule_h250 (m_tellRule_j309) FU S l3 l4 1
noncomputable def m_tellRule_j238 (S : ST) (l3 : Int32) (l4 : Int32) : Option ST :=
  if l4 = 0 then (m_tellRule_j247 S l3 l4) else (calV (m_next S) fun S244 =>
  m_tellRule_j247 S244 l3 l4)
noncomputable def m_tellRule_j218 (S : ST) (l2 : Int32) (l3 : Int32) (s0 : Int32) : Option ST :=
  if l2 ≤ 0 then (m_tellRule_j238 S l3 s0) else (if 5 ≤ l2 then (m_tellRule_j238 S l3 s0) else (calV (m_must S 23) fun S232 =>
  m_tellRule_j247 S232 l3 s0))
noncomputable def m_tellRule_j217 (S : ST) (l2 : Int32) (l3 : Int32) : Option ST :=
  m_tellRule_j218 S l2 l3 0
noncomputable def m_tellRule_j179 (S : ST) (l2 : Int32) (l3 : Int32) : Option ST :=
  G (inb l3 168) <|
  let S188 := sA S 9 (upd (S.2.1 9) (Int32.toNatClampNeg l3) (S.1 13))
  G (inb l3 168) <|
  let S198 := sA S188 10 (upd (S188.2.1 10) (Int32.toNatClampNeg l3) (S188.1 12))
  cal (m_is S198 23) fun r202 S202 =>
  if r202 = 0 then (m_tellRule_j217 S202 l2 l3) else (if l2 = 5 then (m_tellRule_j217 S202 l2 l3) else (m_tellRule_j218 S202 l2 l3 1))
noncomputable def m_tellRule_j98 (S : ST) (l2 : Int32) : Option ST :=
  if (S.1 6) ≤ 0 then (G (inb (S.1 11) 7) <|
  let v123 := ((24 * (S.1 11)) + (S.2.1 6 (Int32.toNatClampNeg (S.1 11))))
  calV (m_next S) fun S125 =>
  G (inb v123 168) <|
  let S134 := sA S125 7 (upd (S125.2.1 7) (Int32.toNatClampNeg v123) l2)
  G (inb (S134.1 4) 403) <|
  G (inb v123 168) <|
  let S149 := sL S134 2 (vp_updL (S134.2.2 2) (Int32.toNatClampNeg v123) (S134.2.2 0 (Int32.toNatClampNeg (S134.1 4))))
  calV (m_must S149 1) fun S152 =>
  G (inb v123 168) <|
  let S164 := sA S152 8 (upd (S152.2.1 8) (Int32.toNatClampNeg v123) (S152.1 13))
  if l2 = 0 then (calV (m_must S164 22) fun S172 =>
  calV (m_expression S172) fun S176 =>
  m_tellRule_j179 S176 l2 v123) else (m_tellRule_j179 S164 l2 v123)) else (some S)
noncomputable def m_tellRule_j65 (S : ST) (s0 : Int32) : Option ST :=
  if s0 = (-1) then (calV (m_fail S 1) fun S73 =>
  m_tellRule_j98 S73 s0) else (G (inb (S.1 11) 7) <|
  if (S.2.1 6 (Int32.toNatClampNeg (S.1 11))) = 24 then (calV (m_fail S 2) fun S95 =>
  m_tellRule_j98 S95 s0) else (m_tellRule_j98 S s0))
noncomputable def m_tellRule_j64 (S : ST) : Option ST :=
  m_tellRule_j65 S ((-1))
noncomputable def m_tellRule (S : ST) : Option ST :=
  G (inb (S.1 4) 403) <|
  let v9 := (S.2.1 2 (Int32.toNatClampNeg (S.1 4)))
  cal (m_is S 28) fun r13 S13 =>
  if r13 = 0 then (cal (m_is S13 21) fun r26 S26 =>
  if r26 = 0 then (if (S26.1 6) = 0 then (if v9 < 24 then (m_tellRule_j64 S26) else (if 27 < v9 then (m_tellRule_j64 S26) else (m_tellRule_j65 S26 (((v9 - 24) + 1))))) else (m_tellRule_j64 S26)) else (m_tellRule_j65 S26 0)) else (m_tellRule_j65 S13 5)
noncomputable def m_court_j72 (S : ST) (l1 : Int32) (l3 : Int32) (s0 : Int32) (s1 : Int32) (s2 : Int32) (s3 : Int32) : Option (Int32 × ST) :=
  calV (m_prints S s3 s2 s1 s0) fun S72 =>
  if l3 = 1 then (G (inb l1 180) <|
  G (inb l1 180) <|
  calV (m_later S72 ((S72.2.1 26 (Int32.toNatClampNeg l1))) ((S72.2.1 25 (Int32.toNatClampNeg l1)))) fun S109 =>
  cal (m_first S109 4) fun r114 S114 =>
  if r114 = (-1) then (some ((-2), S114)) else (some (r114, S114))) else (if (S72.1 22) = 0 then (some ((S72.1 19), S72)) else (some (0, S72)))
noncomputable def m_court_j62 (S : ST) (l1 : Int32) (l2 : Int32) (l3 : Int32) (s0 : Int32) (s1 : Int32) (s2 : Int32) : Option (Int32 × ST) :=
  if l3 = 2 then (m_court_j72 S l1 l3 l2 s0 s1 s2) else (m_court_j72 S l1 l3 l1 s0 s1 s2)
noncomputable def m_court (S : ST) (l1 : Int32) (l2 : Int32) (l3 : Int32) : Option (Int32 × ST) :=
  cal (m_isKnown S l2) fun r2 S2 =>
  if r2 = 0 then (some ((-1), S2)) else (if l1 < 0 then (some ((-1), S2)) else (if l2 ≤ l1 then (some ((-1), S2)) else (G (inb l1 180) <|
  if (S2.2.1 24 (Int32.toNatClampNeg l1)) = 7 then (cal0 (m_in l3 0 2) fun r31 =>
  if r31 = 0 then (some ((-1), S2)) else (G (inb l1 180) <|
  G (inb l1 180) <|
  if l3 = 2 then (m_court_j62 S2 l1 l2 l3 l2 ((S2.2.1 25 (Int32.toNatClampNeg l1))) ((S2.2.1 26 (Int32.toNatClampNeg l1)))) else (m_court_j62 S2 l1 l2 l3 l1 ((S2.2.1 25 (Int32.toNatClampNeg l1))) ((S2.2.1 26 (Int32.toNatClampNeg l1)))))) else (some ((-1), S2)))))
noncomputable def m_mendOf (S : ST) (l1 : Int32) (l2 : Int32) : Option (Int32 × ST) :=
  G (inb l1 180) <|
  G (inb l1 180) <|
  calV (m_prints S ((S.2.1 26 (Int32.toNatClampNeg l1))) ((S.2.1 25 (Int32.toNatClampNeg l1))) l2 l1) fun S15 =>
  cal (m_fateOf S15 l1 l2) fun r21 S21 =>
  some (r21, S21)
noncomputable def m_namesOf_j128 (Kb : ST → Int32 → Int32 → Int32 → Int32 → Int32 → Option (Int32 × ST)) (S : ST) (l2 : Int32) (l3 : Int32) (l4 : Int32) (l5 : Int32) (l6 : Int32) : Option (Int32 × ST) :=
  let v128 := l6 + 1
  Kb S l2 l3 l4 l5 v128
noncomputable def m_namesOf_j122 (Kb : ST → Int32 → Int32 → Int32 → Int32 → Int32 → Int32 → Option (Int32 × ST)) (K128 : ST → Int32 → Int32 → Int32 → Int32 → Int32 → Option (Int32 × ST)) (S : ST) (l2 : Int32) (l3 : Int32) (l4 : Int32) (l5 : Int32) (l6 : Int32) (l7 : Int32) : Option (Int32 × ST) :=
  let v122 := l7 + 1
  Kb S l2 l3 l4 l5 l6 v122
noncomputable def m_namesOf_j112 (Kb : ST → Int32 → Int32 → Int32 → Int32 → Int32 → Int32 → Option (Int32 × ST)) (K128 : ST → Int32 → Int32 → Int32 → Int32 → Int32 → Option (Int32 × ST)) (S : ST) (l2 : Int32) (l3 : Int32) (l4 : Int32) (l5 : Int32) (l6 : Int32) (l7 : Int32) : Option (Int32 × ST) :=
  let S119 := sI S 25 ((S.1 25) + 1)
  m_namesOf_j122 Kb K128 S119 l2 l3 l4 l5 l6 l7
noncomputable def m_namesOf_h34 (K128 : ST → Int32 → Int32 → Int32 → Int32 → Int32 → Option (Int32 × ST)) : Nat → ST → Int32 → Int32 → Int32 → Int32 → Int32 → Int32 → Option (Int32 × ST)
  | 0, _, _, _, _, _, _, _ => none
  | n + 1, S, l2, l3, l4, l5, l6, l7 =>
    if (S.1 24) ≤ l7 then (K128 S l2 l3 l4 l5 l6) else (G (inb l7 180) <|
    calV (m_prints S ((S.2.1 32 (Int32.toNatClampNeg l7))) l2 l3 l3) fun S54 =>
    if (S54.1 23) = (-1) then (if (S54.1 22) = 0 then (if (S54.1 19) = 0 then (m_namesOf_j122 (m_namesOf_h34 K128 n) K128 S54 l2 l3 l4 l5 l6 l7) else (G (inb (S54.1 19) 1000) <|
    if (S54.2.1 40 (Int32.toNatClampNeg (S54.1 19))) = 0 then (m_namesOf_j122 (m_namesOf_h34 K128 n) K128 S54 l2 l3 l4 l5 l6 l7) else (if (S54.1 25) = l4 then (G (inb l7 180) <|
    let v110 := (S54.2.1 32 (Int32.toNatClampNeg l7))
    m_namesOf_j112 (m_namesOf_h34 K128 n) K128 S54 l2 l3 l4 v110 l6 l7) else (m_namesOf_j112 (m_namesOf_h34 K128 n) K128 S54 l2 l3 l4 l5 l6 l7)))) else (m_namesOf_j122 (m_namesOf_h34 K128 n) K128 S54 l2 l3 l4 l5 l6 l7)) else (m_namesOf_j122 (m_namesOf_h34 K128 n) K128 S54 l2 l3 l4 l5 l6 l7))
noncomputable def m_namesOf_h18 : Nat → ST → Int32 → Int32 → Int32 → Int32 → Int32 → Option (Int32 × ST)
  | 0, _, _, _, _, _, _ => none
  | n + 1, S, l2, l3, l4, l5, l6 =>
    if l2 < l6 then (some (l5, S)) else (calV (m_stands S l6 l3) fun S28 =>
    m_namesOf_h34 (m_namesOf_j128 (m_namesOf_h18 n)) FU S28 l2 l3 l4 l5 l6 0)
noncomputable def m_namesOf (S : ST) (l1 : Int32) (l2 : Int32) (l3 : Int32) (l4 : Int32) : Option (Int32 × ST) :=
  calV (m_sames S l1 l2 l3) fun S4 =>
  let S12 := sI S4 25 0
  m_namesOf_h18 FU S12 l2 l3 l4 (-1) 0
noncomputable def m_printAt_j79 (Kb : ST → Int32 → Int32 → Int32 → Int32 → Int32 → Option (Int32 × ST)) (S : ST) (l2 : Int32) (l3 : Int32) (l4 : Int32) (l5 : Int32) (l6 : Int32) : Option (Int32 × ST) :=
  let v79 := l6 + 1
  Kb S l2 l3 l4 l5 v79
noncomputable def m_printAt_j69 (Kb : ST → Int32 → Int32 → Int32 → Int32 → Int32 → Option (Int32 × ST)) (S : ST) (l2 : Int32) (l3 : Int32) (l4 : Int32) (l5 : Int32) (l6 : Int32) : Option (Int32 × ST) :=
  let S76 := sI S 25 ((S.1 25) + 1)
  m_printAt_j79 Kb S76 l2 l3 l4 l5 l6
noncomputable def m_printAt_h17 : Nat → ST → Int32 → Int32 → Int32 → Int32 → Int32 → Option (Int32 × ST)
  | 0, _, _, _, _, _, _ => none
  | n + 1, S, l2, l3, l4, l5, l6 =>
    if (S.1 24) ≤ l6 then (some (l5, S)) else (G (inb l6 180) <|
    calV (m_prints S ((S.2.1 32 (Int32.toNatClampNeg l6))) l2 l3 l3) fun S37 =>
    if (S37.1 23) = (-1) then (if (S37.1 25) = l4 then (G (inb l6 180) <|
    let v67 := (S37.2.1 32 (Int32.toNatClampNeg l6))
    m_printAt_j69 (m_printAt_h17 n) S37 l2 l3 l4 v67 l6) else (m_printAt_j69 (m_printAt_h17 n) S37 l2 l3 l4 l5 l6)) else (m_printAt_j79 (m_printAt_h17 n) S37 l2 l3 l4 l5 l6))
noncomputable def m_printAt (S : ST) (l1 : Int32) (l2 : Int32) (l3 : Int32) (l4 : Int32) : Option (Int32 × ST) :=
  calV (m_stands S l1 l3) fun S3 =>
  let S11 := sI S3 25 0
  m_printAt_h17 FU S11 l2 l3 l4 (-1) 0
noncomputable def m_printed (S : ST) (l1 : Int32) (l2 : Int32) (l3 : Int32) (l4 : Int32) : Option (Int32 × ST) :=
  cal (m_isKnown S l3) fun r2 S2 =>
  if r2 = 0 then (some ((-1), S2)) else (cal (m_isLine S2 l1 l3) fun r11 S11 =>
  if r11 = 0 then (some ((-1), S11)) else (cal0 (m_isDay l2) fun r18 =>
  if r18 = 0 then (some ((-1), S11)) else (G (inb l1 180) <|
  if l2 < (S11.2.1 25 (Int32.toNatClampNeg l1)) then (some ((-1), S11)) else (cal0 (m_in l4 0 5) fun r38 =>
  if r38 = 0 then (some ((-1), S11)) else (if l4 = 5 then (G (inb l1 180) <|
  G (inb l1 180) <|
  cal (m_whoIn S11 ((S11.2.1 28 (Int32.toNatClampNeg l1))) ((S11.2.1 25 (Int32.toNatClampNeg l1))) l3) fun r66 S66 =>
  if r66 = (-1) then (some ((-2), S66)) else (some (r66, S66))) else (calV (m_prints S11 l1 l2 l3 l3) fun S90 =>
  if l4 = 0 then (some ((S90.1 19), S90)) else (if l4 = 1 then (if (S90.1 22) = 0 then (some (0, S90)) else (some (1, S90))) else (if l4 = 2 then (if (S90.1 23) = (-1) then (some ((-2), S90)) else (some ((S90.1 23), S90))) else (if l4 = 3 then (if (S90.1 21) = (-1) then (some ((-2), S90)) else (some ((S90.1 21), S90))) else (some ((S90.1 20), S90)))))))))))
noncomputable def m_read_j252 (S : ST) (s0 : Int32) : Option (Int32 × ST) :=
  let S252 := sI S 10 s0
  if (S252.1 6) ≤ 0 then (if (S252.1 8) ≤ 0 then (let S286 := sI S252 11 ((S252.1 11) + 1)
  calV (m_changed S286) fun S290 =>
  some (0, S290)) else (some ((S252.1 8), S252))) else (some ((S252.1 6), S252))
noncomputable def m_read_j222 (S : ST) : Option (Int32 × ST) :=
  if (S.1 6) ≤ 0 then (if (S.1 8) ≤ 0 then (m_read_j252 S ((-1))) else (m_read_j252 S ((S.1 9)))) else (m_read_j252 S ((S.1 7)))
noncomputable def m_read_h200 (K222 : ST → Option (Int32 × ST)) : Nat → ST → Option (Int32 × ST)
  | 0, _ => none
  | n + 1, S =>
    if (S.1 6) = 0 then (cal (m_is S 0) fun r209 S209 =>
    if r209 = 0 then (calV (m_tellRule S209) fun S216 =>
    (m_read_h200 K222 n) S216) else (K222 S209)) else (K222 S)
noncomputable def m_read_j185 (S : ST) (l2 : Int32) : Option (Int32 × ST) :=
  G (inb (S.1 11) 7) <|
  let S194 := sA S 5 (upd (S.2.1 5) (Int32.toNatClampNeg (S.1 11)) l2)
  calV (m_must S194 4) fun S197 =>
  m_read_h200 (m_read_j222) FU S197
noncomputable def m_read_j160 (S : ST) (l1 : Int32) (s0 : Int32) : Option (Int32 × ST) :=
  calV (m_must S 2) fun S163 =>
  if (S163.1 6) = 0 then (if s0 < 100 then (m_read_j185 S163 s0) else (calV (m_wrong S163 5 l1) fun S182 =>
  m_read_j185 S182 s0)) else (m_read_j185 S163 s0)
noncomputable def m_read_j48 (S : ST) : Option (Int32 × ST) :=
  let S50 := sI S 1 0
  calV (m_cut S50) fun S54 =>
  let S59 := sI S54 4 0
  let S64 := sI S59 5 0
  let S69 := sI S64 6 0
  let S74 := sI S69 8 0
  G (inb (S74.1 11) 7) <|
  let S86 := sA S74 5 (upd (S74.2.1 5) (Int32.toNatClampNeg (S74.1 11)) 0)
  G (inb (S86.1 11) 7) <|
  let S96 := sA S86 6 (upd (S86.2.1 6) (Int32.toNatClampNeg (S86.1 11)) 0)
  let S106 := sI S96 12 (140 * (S96.1 11))
  let S118 := sI S106 13 (400 * (S106.1 11))
  cal (m_is S118 20) fun r124 S124 =>
  if r124 = 0 then (m_read_h200 (m_read_j222) FU S124) else (calV (m_next S124) fun S131 =>
  let v138 := (S131.1 4)
  cal (m_is S131 2) fun r141 S141 =>
  if r141 = 0 then (m_read_j160 S141 v138 0) else (G (inb (S141.1 4) 403) <|
  m_read_j160 S141 v138 ((S141.2.1 4 (Int32.toNatClampNeg (S141.1 4))))))
noncomputable def m_read_h22 (K48 : ST → Option (Int32 × ST)) : Nat → ST → Int32 → Option (Int32 × ST)
  | 0, _, _ => none
  | n + 1, S, l1 =>
    if (S.1 2) ≤ l1 then (K48 S) else (G (inb l1 2000) <|
    G (inb l1 2000) <|
    let S41 := sA S 1 (upd (S.2.1 1) (Int32.toNatClampNeg l1) (vp_nar .byte (S.2.1 0 (Int32.toNatClampNeg l1))))
    let v42 := l1 + 1
    (m_read_h22 K48 n) S41 v42)
noncomputable def m_read (S : ST) : Option (Int32 × ST) :=
  if (S.1 11) = 6 then (some ((-2), S)) else (let S17 := sI S 2 (S.1 1)
  m_read_h22 (m_read_j48) FU S17 0)
noncomputable def m_at (S : ST) (l1 : Int32) (l2 : Int32) (l3 : Int32) (l4 : Int32) : Option (Int32 × ST) :=
  cal (m_isPrint S l1 l2 l3) fun r4 S4 =>
  if r4 = 0 then (some ((-1), S4)) else (if 0 ≤ l4 then (cal (m_printAt S4 l1 l2 l3 l4) fun r25 S25 =>
  some (r25, S25)) else (some ((-1), S4)))
noncomputable def m_bar (S : ST) (l1 : Int32) (l2 : Int32) : Option (Int32 × ST) :=
  cal (m_isMend S l1 l2) fun r3 S3 =>
  if r3 = 0 then (some ((-1), S3)) else (cal (m_mendOf S3 l1 l2) fun r12 S12 =>
  if r12 = 4 then (cal (m_first S12 2) fun r21 S21 =>
  some (r21, S21)) else (some ((-1), S12)))
noncomputable def m_found (S : ST) (l1 : Int32) (l2 : Int32) (l3 : Int32) (l4 : Int32) : Option (Int32 × ST) :=
  cal (m_isAsked S l1 l2 l3) fun r4 S4 =>
  if r4 = 0 then (some ((-1), S4)) else (if 0 ≤ l4 then (cal (m_namesOf S4 l1 l2 l3 l4) fun r25 S25 =>
  some (r25, S25)) else (some ((-1), S4)))
noncomputable def m_lines (S : ST) (l1 : Int32) (l2 : Int32) (l3 : Int32) : Option (Int32 × ST) :=
  cal (m_isPrint S l1 l2 l3) fun r4 S4 =>
  if r4 = 0 then (some ((-1), S4)) else (cal (m_printAt S4 l1 l2 l3 ((-1))) fun r17 S17 =>
  if r17 = (-1) then (some ((S17.1 25), S17)) else (some ((-1), S17)))
noncomputable def m_mended (S : ST) (l1 : Int32) (l2 : Int32) : Option (Int32 × ST) :=
  cal (m_isMend S l1 l2) fun r3 S3 =>
  if r3 = 0 then (some ((-1), S3)) else (cal (m_mendOf S3 l1 l2) fun r12 S12 =>
  some (r12, S12))
noncomputable def m_names (S : ST) (l1 : Int32) (l2 : Int32) (l3 : Int32) : Option (Int32 × ST) :=
  cal (m_isAsked S l1 l2 l3) fun r4 S4 =>
  if r4 = 0 then (some ((-1), S4)) else (cal (m_namesOf S4 l1 l2 l3 ((-1))) fun r17 S17 =>
  if r17 = (-1) then (some ((S17.1 25), S17)) else (some ((-1), S17)))
