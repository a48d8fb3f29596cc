abbrev BXT : Type := Int32 × (Nat → Int32) × (Nat → Int32) × (Nat → Int32) × (Nat → Int32) × (Nat → Int32) × (Nat → Int32) × (Nat → Int32) × (Nat → Int32) × (Nat → Int32) × (Nat → Int32) × (Nat → Int32) × (Nat → Int64)
def bX (S : ST) : BXT := (S.1 4, S.2.1 1, S.2.1 2, S.2.1 3, S.2.1 4, S.2.1 5, S.2.1 6, S.2.1 7, S.2.1 8, S.2.1 9, S.2.1 10, S.2.1 11, S.2.2 0)
abbrev BMT : Type := Int32 × (Nat → Int32) × (Nat → Int32) × (Nat → Int32) × (Nat → Int32) × (Nat → Int32) × (Nat → Int32) × (Nat → Int32) × (Nat → Int32) × (Nat → Int32) × (Nat → Int32) × (Nat → Int32) × (Nat → Int32) × (Nat → Int32) × (Nat → Int32) × (Nat → Int32) × (Nat → Int64) × (Nat → Int64)
def bM (S : ST) : BMT := (S.1 11, S.2.1 5, S.2.1 6, S.2.1 7, S.2.1 8, S.2.1 9, S.2.1 10, S.2.1 11, S.2.1 12, S.2.1 13, S.2.1 14, S.2.1 15, S.2.1 16, S.2.1 17, S.2.1 18, S.2.1 19, S.2.2 1, S.2.2 2)
abbrev FMT : Type := Int32 × Int32 × (Nat → Int32)
def fM (S : ST) : FMT := (S.1 16, S.1 17, S.2.1 23)
/-! the rule book, in mathematics: names are letters (1 .. 26), the last one first -/
def e27 : List Nat → Nat
  | [] => 0
  | c :: r => 27 * e27 r + c
def e32 : List Nat → Nat
  | [] => 0
  | c :: r => e32 r * 32 + c
def lets : List Nat → Prop
  | [] => True
  | c :: r => 1 ≤ c ∧ c ≤ 26 ∧ lets r
/-- what stands in code: 0 an int, 1 a variable, 2 + 3 - 4 * 5 / -/
abbrev OP : Type := Nat × Nat
def okO (o : OP) : Prop := (o.1 = 0 ∧ o.2 < 10000) ∨ (o.1 = 1 ∧ o.2 < 12) ∨ (2 ≤ o.1 ∧ o.1 ≤ 5)
def xen (o : OP) : Nat := if o.1 = 0 then o.2 else if o.1 = 1 then 10000 + o.2 else 20025 + o.1
def sgN (f : Nat → Int32) : Nat → List Nat → Prop
  | _, [] => True
  | a, x :: r => f a = nI x ∧ sgN f (a + 1) r
def sgM (f g : Nat → Int32) : Nat → List OP → Prop
  | _, [] => True
  | a, o :: r => f a = nI o.1 ∧ g a = nI o.2 ∧ sgM f g (a + 1) r
def wfO : List OP → Nat → Prop
  | [], h => h = 1
  | o :: r, h => okO o ∧ ((o.1 < 2 ∧ h < 31 ∧ wfO r (h + 1)) ∨ (2 ≤ o.1 ∧ 2 ≤ h ∧ wfO r (h - 1)))
/-- how, not, or, left, right -/
abbrev LIT : Type := Nat × Bool × Bool × List OP × List OP
def okL (l : LIT) : Prop := l.1 < 4 ∧ wfO l.2.2.2.1 0 ∧ wfO l.2.2.2.2 0
def okLs : List LIT → Prop
  | [] => True
  | l :: r => okL l ∧ okLs r
def ccX : Bool → List LIT → List Nat
  | _, [] => []
  | b, l :: r => (if (l.2.2.1 && !b) = true then [40000] else []) ++ (l.2.2.2.1.map xen ++ (l.2.2.2.2.map xen ++ ((30062 + 2 * l.1 + l.2.1.toNat) :: ccX false r)))
def lsF (g2 g3 g4 g5 g6 g7 c ci : Nat → Int32) (top : Nat) : Nat → List LIT → Prop
  | _, [] => True
  | f, l :: r => g2 f = nI l.1 ∧ g3 f = (if l.2.1 = true then 1 else 0) ∧ g4 f = (if l.2.2.1 = true then 1 else 0) ∧ (∃ p, g5 f = nI p ∧ g6 f = nI (p + l.2.2.2.1.length) ∧ g7 f = nI (p + l.2.2.2.1.length + l.2.2.2.2.length) ∧ p + l.2.2.2.1.length + l.2.2.2.2.length ≤ top ∧ sgM c ci p l.2.2.2.1 ∧ sgM c ci (p + l.2.2.2.1.length) l.2.2.2.2) ∧ lsF g2 g3 g4 g5 g6 g7 c ci top (f + 1) r
def lsM (S : ST) (top f : Nat) (l : List LIT) : Prop := lsF (S.2.1 12) (S.2.1 13) (S.2.1 14) (S.2.1 15) (S.2.1 16) (S.2.1 17) (S.2.1 18) (S.2.1 19) top f l
def orFirst : List LIT → Prop
  | [] => True
  | l :: _ => l.2.2.1 = true
/-- texts, their days, their numbers of rules; of a rule (24 * text + number): sort, name, value, condition -/
abbrev BK : Type := Nat × (Nat → Nat) × (Nat → Nat) × (Nat → Nat) × (Nat → List Nat) × (Nat → List OP) × (Nat → List LIT)
def bkN (b : BK) : Nat := b.1
def bkD (b : BK) (k : Nat) : Nat := b.2.1 k
def bkR (b : BK) (k : Nat) : Nat := b.2.2.1 k
def bkS (b : BK) (r : Nat) : Nat := b.2.2.2.1 r
def bkM (b : BK) (r : Nat) : List Nat := b.2.2.2.2.1 r
def bkV (b : BK) (r : Nat) : List OP := b.2.2.2.2.2.1 r
def bkL (b : BK) (r : Nat) : List LIT := b.2.2.2.2.2.2 r
/-- the row of a text's first rule in the class -/
def tb (b : BK) : Nat → Nat
  | 0 => 0
  | k + 1 => tb b k + bkR b k
def xr (b : BK) (r : Nat) : Nat := tb b (r / 24) + r % 24
abbrev FL : Type := Nat × (Nat → Nat)
def fnd (P : Nat → Bool) : Nat → Nat → Nat
  | 0, p => p
  | j + 1, p => if P p = true then p else fnd P j (p + 1)
def cmP (b : BK) (r : Nat) (F : FL) : Nat := fnd (fun i => decide (bkM b (F.2 i) = bkM b r)) F.1 0
def com (b : BK) (r : Nat) (F : FL) : FL := if cmP b r F < F.1 then (if bkS b r = 5 then (F.1 - 1, fun i => if i < cmP b r F then F.2 i else F.2 (i + 1)) else (F.1, fun i => if i = cmP b r F then r else F.2 i)) else (if bkS b r = 5 then F else (F.1 + 1, fun i => if i = F.1 then r else F.2 i))
def comT (b : BK) (k : Nat) : Nat → Nat → FL → FL
  | 0, _, F => F
  | j + 1, i, F => comT b k j (i + 1) (com b (24 * k + i) F)
def comD (b : BK) (d : Nat) : Nat → Nat → FL → FL
  | 0, _, F => F
  | j + 1, k, F => comD b d j (k + 1) (if bkD b k = d then comT b k (bkR b k) 0 F else F)
/-- what is in force before a day -/
def AL (b : BK) : Nat → FL
  | 0 => (0, fun _ => 0)
  | D + 1 => comD b D (bkN b) 0 (AL b D)
def cnP (p : Nat → Bool) : Nat → Nat
  | 0 => 0
  | n + 1 => cnP p n + (p n).toNat
def lvD (b : BK) (D : Nat) : Nat := cnP (fun k => decide (bkD b k < D)) (bkN b)
def okR1 (b : BK) (r : Nat) : Prop := bkS b r ≤ 5 ∧ lets (bkM b r) ∧ (bkM b r).length ≤ 8 ∧ (bkS b r = 0 → wfO (bkV b r) 0) ∧ okLs (bkL b r) ∧ orFirst (bkL b r)
def okB (b : BK) : Prop := bkN b ≤ 6 ∧ (∀ k, k < bkN b → bkD b k < 100 ∧ bkR b k ≤ 24) ∧ ∀ k, k < bkN b → ∀ i, i < bkR b k → okR1 b (24 * k + i)
def rX1 (Sx : ST) (b : BK) (ce : Nat → Nat) (k i : Nat) : Prop := Sx.2.1 2 (tb b k + i) = nI (bkS b (24 * k + i)) ∧ Sx.2.2 0 (tb b k + i) = lN (e32 (bkM b (24 * k + i))) ∧ Sx.2.1 3 (tb b k + i) = nI k ∧ Sx.2.1 4 (tb b k + i) = nI i ∧ Sx.2.1 5 (tb b k + i) = nI (ce (tb b k + i)) ∧ Sx.2.1 6 (tb b k + i) = nI (ce (tb b k + i) + (bkV b (24 * k + i)).length) ∧ Sx.2.1 7 (tb b k + i) = nI (ce (tb b k + i + 1)) ∧ ce (tb b k + i + 1) = ce (tb b k + i) + ((bkV b (24 * k + i)).map xen ++ ccX true (bkL b (24 * k + i))).length ∧ sgN (Sx.2.1 1) (ce (tb b k + i)) ((bkV b (24 * k + i)).map xen ++ ccX true (bkL b (24 * k + i)))
def inX (Sx : ST) (b : BK) (l : Nat) (F : FL) : Prop := Sx.2.1 11 l = nI F.1 ∧ ∀ i, i < F.1 → Sx.2.1 10 (144 * l + i) = nI (xr b (F.2 i))
def BX (Sx : ST) (b : BK) : Prop := Sx.1 4 = nI (bkN b) ∧ (∀ k, k < bkN b → Sx.2.1 8 k = nI (bkD b k) ∧ Sx.2.1 9 k = nI (tb b (k + 1))) ∧ (∃ ce : Nat → Nat, ce 0 = 0 ∧ (∀ k, k ≤ bkN b → ce (tb b k) ≤ 400 * k) ∧ ∀ k, k < bkN b → ∀ i, i < bkR b k → rX1 Sx b ce k i) ∧ ∀ D, D ≤ 100 → inX Sx b (lvD b D) (AL b D)
def rM1 (Sm : ST) (b : BK) (k i : Nat) : Prop := Sm.2.1 7 (24 * k + i) = nI (bkS b (24 * k + i)) ∧ Sm.2.2 2 (24 * k + i) = lN (e27 (bkM b (24 * k + i))) ∧ (∃ a, Sm.2.1 8 (24 * k + i) = nI a ∧ Sm.2.1 9 (24 * k + i) = nI (a + (bkV b (24 * k + i)).length) ∧ a + (bkV b (24 * k + i)).length ≤ 400 * (k + 1) ∧ sgM (Sm.2.1 18) (Sm.2.1 19) a (bkV b (24 * k + i))) ∧ ∃ f, Sm.2.1 10 (24 * k + i) = nI f ∧ Sm.2.1 11 (24 * k + i) = nI (f + (bkL b (24 * k + i)).length) ∧ f + (bkL b (24 * k + i)).length ≤ 140 * (k + 1) ∧ lsM Sm (400 * (k + 1)) f (bkL b (24 * k + i))
def keyT : List Nat := [131638, 9748424, 555, 249, 259906, 1503, 6477035, 1905383, 283619210, 423, 1111, 10631, 464134, 16813, 8534556, 385418, 191610176, 189450486, 218546996, 80155, 10815598, 4351162, 279875, 6564799]
def BM (Sm : ST) (b : BK) : Prop := Sm.1 11 = nI (bkN b) ∧ (∀ k, k < bkN b → Sm.2.1 5 k = nI (bkD b k) ∧ Sm.2.1 6 k = nI (bkR b k)) ∧ (∀ k, k < bkN b → ∀ i, i < bkR b k → rM1 Sm b k i) ∧ ∀ k, k < 24 → Sm.2.2 1 k = lN (keyT.getD k 0)
def inM (Sm : ST) (F : FL) : Prop := Sm.1 17 = nI F.1 ∧ ∀ i, i < F.1 → Sm.2.1 23 i = nI (F.2 i)
/-- what the reference remembers of a day -/
def CM (Sm : ST) (b : BK) : Prop := Sm.1 16 = -1 ∨ ∃ d, d < 100 ∧ Sm.1 16 = nI d ∧ inM Sm (AL b (d + 1))
def RB (Sx Sm : ST) : Prop := ∃ b, okB b ∧ BX Sx b ∧ BM Sm b ∧ CM Sm b
def uX (x : BXT) : ST := (fun k => match k with | 4 => x.1 | _ => 0, fun k => match k with | 1 => x.2.1 | 2 => x.2.2.1 | 3 => x.2.2.2.1 | 4 => x.2.2.2.2.1 | 5 => x.2.2.2.2.2.1 | 6 => x.2.2.2.2.2.2.1 | 7 => x.2.2.2.2.2.2.2.1 | 8 => x.2.2.2.2.2.2.2.2.1 | 9 => x.2.2.2.2.2.2.2.2.2.1 | 10 => x.2.2.2.2.2.2.2.2.2.2.1 | 11 => x.2.2.2.2.2.2.2.2.2.2.2.1 | _ => fun _ => 0, fun k => match k with | 0 => x.2.2.2.2.2.2.2.2.2.2.2.2 | _ => fun _ => 0)
def uM (m : BMT) (c : FMT) : ST := (fun k => match k with | 11 => m.1 | 16 => c.1 | 17 => c.2.1 | _ => 0, fun k => match k with | 5 => m.2.1 | 6 => m.2.2.1 | 7 => m.2.2.2.1 | 8 => m.2.2.2.2.1 | 9 => m.2.2.2.2.2.1 | 10 => m.2.2.2.2.2.2.1 | 11 => m.2.2.2.2.2.2.2.1 | 12 => m.2.2.2.2.2.2.2.2.1 | 13 => m.2.2.2.2.2.2.2.2.2.1 | 14 => m.2.2.2.2.2.2.2.2.2.2.1 | 15 => m.2.2.2.2.2.2.2.2.2.2.2.1 | 16 => m.2.2.2.2.2.2.2.2.2.2.2.2.1 | 17 => m.2.2.2.2.2.2.2.2.2.2.2.2.2.1 | 18 => m.2.2.2.2.2.2.2.2.2.2.2.2.2.2.1 | 19 => m.2.2.2.2.2.2.2.2.2.2.2.2.2.2.2.1 | 23 => c.2.2 | _ => fun _ => 0, fun k => match k with | 1 => m.2.2.2.2.2.2.2.2.2.2.2.2.2.2.2.2.1 | 2 => m.2.2.2.2.2.2.2.2.2.2.2.2.2.2.2.2.2 | _ => fun _ => 0)
def RBp (x : BXT) (m : BMT) (c : FMT) : Prop := RB (uX x) (uM m c)
theorem RBp_eq (Sx Sm : ST) : RBp (bX Sx) (bM Sm) (fM Sm) = RB Sx Sm := rfl
def RR (Sx Sm : ST) : Prop := RT Sx Sm ∧ RP Sx Sm ∧ RF Sx Sm ∧ RK Sx Sm ∧ RW Sx Sm ∧ RBp (bX Sx) (bM Sm) (fM Sm)
