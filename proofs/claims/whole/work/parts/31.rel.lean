abbrev BXT : Type := Int32 × (Nat → Int32) × (Nat → Int32) × (Nat → Int32) × (Nat → Int32) × (Nat → Int32) × (Nat → Int32) × (Nat → Int32) × (Nat → Int32) × (Nat → Int32) × (Nat → Int32) × (Nat → Int32) × (Nat → Int64)
def bX (S : ST) : BXT := (S.1 4, S.2.1 1, S.2.1 2, S.2.1 3, S.2.1 4, S.2.1 5, S.2.1 6, S.2.1 7, S.2.1 8, S.2.1 9, S.2.1 10, S.2.1 11, S.2.2 0)
abbrev BMT : Type := Int32 × (Nat → Int32) × (Nat → Int32) × (Nat → Int32) × (Nat → Int32) × (Nat → Int32) × (Nat → Int32) × (Nat → Int32) × (Nat → Int32) × (Nat → Int32) × (Nat → Int32) × (Nat → Int32) × (Nat → Int32) × (Nat → Int32) × (Nat → Int32) × (Nat → Int32) × (Nat → Int64) × (Nat → Int64)
def bM (S : ST) : BMT := (S.1 11, S.2.1 5, S.2.1 6, S.2.1 7, S.2.1 8, S.2.1 9, S.2.1 10, S.2.1 11, S.2.1 12, S.2.1 13, S.2.1 14, S.2.1 15, S.2.1 16, S.2.1 17, S.2.1 18, S.2.1 19, S.2.2 1, S.2.2 2)
abbrev FMT : Type := Int32 × Int32 × (Nat → Int32)
def fM (S : ST) : FMT := (S.1 16, S.1 17, S.2.1 23)
def RBp (x : BXT) (m : BMT) (c : FMT) : Prop := x.1 = m.1
def RR (Sx Sm : ST) : Prop := RT Sx Sm ∧ RP Sx Sm ∧ RF Sx Sm ∧ RK Sx Sm ∧ RW Sx Sm ∧ RBp (bX Sx) (bM Sm) (fM Sm)
