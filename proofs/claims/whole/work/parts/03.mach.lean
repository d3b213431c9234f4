/-! ===== THE PURE MACHINE: values are whole numbers with a tag, cells are numbered; PW: from here the method comes to its end with Q ===== -/
/-- a value: tag (0 int, 1 long, 2 reference, 9 nothing known), and a whole number (a reference: the cell's number, 0 null) -/
abbrev PV : Type := Nat × Int
abbrev PF : Type := Int → Int → Int
abbrev PM : Type := List (Nat × Nat)
/-- launch, classes, array classes, first cell, cells of statics, the script -/
abbrev CX : Type := Launch × va_G × (Nat → ClassId) × Nat × (Nat → Nat) × Nat × (Nat → Int32)
def xL (X : CX) : Launch := X.1
def xD (X : CX) : va_G := X.2.1
def xA (X : CX) : Nat → ClassId := X.2.2.1
def xB (X : CX) : Nat := X.2.2.2.1
def xS (X : CX) : Nat → Nat := X.2.2.2.2.1
def xN (X : CX) : Nat := X.2.2.2.2.2.1
def xV (X : CX) : Nat → Int32 := X.2.2.2.2.2.2
def xO (X : CX) : Nat → Prop := fun q => xB X ≤ q
def ad (X : CX) (o : Int) : Nat := if o < 64 then xS X o.toNat else xB X + (o - 64).toNat
def rv (X : CX) (o : Int) : Option Nat := if o = 0 then none else some (ad X o)
def pv (X : CX) (v : PV) : Value := match v.1 with
  | 0 => .int (Int32.ofInt v.2)
  | 1 => .long (Int64.ofInt v.2)
  | _ => va_rf (rv X v.2)
def tyOf : Nat → Nat → FieldType := fun c => match c with
  | 0 => tyX0 | 1 => tyX1 | 2 => tyX2 | 3 => tyX3 | 4 => tyX4 | 5 => tyX5 | 6 => tyX6 | 7 => tyX7 | 8 => tyX8 | 9 => tyX10 | _ => tyX11
def nF (c : Nat) : Nat := match vwCl[c]? with
  | some q => q.2.2
  | none => 0
/-- a field's kind: 0 int, 1 long, 2 reference -/
def fk (ty : FieldType) : Nat := match ty with
  | .long => 1
  | .object _ => 2
  | .array _ => 2
  | _ => 0
def fP (k : Nat) (I R : PF) (o : Int) (j : Nat) : PV := match k with
  | 2 => (2, R o j)
  | t => (t, I o j)
def cellE (X : CX) (M : PM) (I R : PF) (k : Nat) : va_E := match M[k]? with
  | none => .inl (0, 0, .inl fun _ => 0)
  | some (c, n) => match c with
    | 12 => .inl (xA X 0, n, .inl fun j => Int32.ofInt (I (64 + k) j))
    | 13 => .inl (xA X 1, n, .inr (.inl fun j => Int64.ofInt (I (64 + k) j)))
    | 14 => .inl (xA X 2, n, .inl fun j => Int32.ofInt (I (64 + k) j))
    | 15 => .inl (xA X 3, n, .inr (.inr (.inr (.inr fun j => rv X (R (64 + k) j)))))
    | 16 => .inl (xA X 4, n, .inr (.inr (.inr (.inr fun j => rv X (R (64 + k) j)))))
    | c => .inr (c, (List.range (nF c)).map fun j => pv X (fP (fk (tyOf c j)) I R (64 + k) j))
def wld (X : CX) (M : PM) (I R : PF) : va_W := (List.range M.length).map fun k => (xB X + k, cellE X M I R k)
def xT (X : CX) : List (ClassId × FieldType) := [(xA X 0, .int), (xA X 1, .long), (xA X 2, .char), (xA X 3, .array .int), (xA X 4, .object "NoonHat$State")]
def Rep (X : CX) (M : PM) (I R : PF) (H : Heap) : Prop := va_P (xD X) vwCl (wld X M I R) H ∧ H.size = xB X + M.length
def szM (M : PM) : Nat := (M.map fun q => q.2).sum
/-! the statics -/
def wNm : List String := ["OTHER", "SQUARE", "BY", "TOWER", "HIGH", "LAW_WORD", "PERSON", "AT", "TALL_WORD", "PACE_WORD", "DOES", "SPIN", "FORCE_WORD", "WALL_WORD", "WINDS", "MAY", "GUST", "NOON_WORD", "HEIGHT_WORD", "WORE_WORD", "TERMS_WORD", "COLUMN_WORD", "ROW_WORD", "GETS_WORD", "NUMBER_WORD", "OR", "AND", "NOT", "ALL", "MIN", "MAX", "FIRST", "LAST", "OFTEN", "TOTAL", "MOST", "LEAST"]
