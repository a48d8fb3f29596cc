noncomputable def x10_placeAmong_j59 (q : Nat) (Kb : Int64 → Int32 → Int64 → Int32 → Option Int32) (l1 : Int64) (l3 : Int32) (l4 : Int64) (l6 : Int32) : Option Int32 :=
  let v59 := l6 + 1
  Kb l1 l3 l4 v59
noncomputable def x10_placeAmong_h8 (q : Nat) : Nat → Int64 → Int32 → Int64 → Int32 → Option Int32
  | 0, _, _, _, _ => none
  | n + 1, l1, l3, l4, l6 =>
    if (sLen q) ≤ l6 then (some (-1)) else (G (inb l6 (lenS.getD q 0)) <|
    let v23 := (sCh q l6)
    if v23 = 32 then (if (lg_cmp l4 l1) = 0 then (some l3) else (let v53 := l3 + 1
    x10_placeAmong_j59 q (x10_placeAmong_h8 q n) l1 v53 0 l6)) else (cal0 (x10_packLetter l4 v23) fun r36 =>
    x10_placeAmong_j59 q (x10_placeAmong_h8 q n) l1 l3 r36 l6))
noncomputable def x10_placeAmong (q : Nat) (l1 : Int64) : Option Int32 :=
  x10_placeAmong_h8 q FU l1 0 0 0
noncomputable def x10_wordToken (l0 : Int64) : Option Int32 :=
  cal0 (x10_placeAmong 0 l0) fun r3 =>
  if r3 = (-1) then (cal0 (x10_placeAmong 1 l0) fun r17 =>
  if r17 = (-1) then (some 24) else (some (12 + r17))) else (some r3)
