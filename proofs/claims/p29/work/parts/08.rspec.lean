/-! the rules' and the reader's own words -/
def rvF (R : Nat → Int32) (k : Int32) : Int32 := if k = 0 then R 0 else if k = 1 then R 1 else if k = 2 then R 2 else if k = 3 then R 3 else if k = 4 then R 4 else R 5
def rpF (R : Nat → Int32) (k v : Int32) : Nat → Int32 := if k = 0 then upd R 0 v else if k = 1 then upd R 1 v else if k = 2 then upd R 2 v else if k = 3 then upd R 3 v else if k = 4 then upd R 4 v else upd R 5 v
def dC (Q : Nat → Int32) : va_E := .inr (2, [.int (Q 0), .int (Q 1), .int (Q 2), .int (Q 3)])
def mkQ (a b c d : Int32) : Nat → Int32
  | 0 => a
  | 1 => b
  | 2 => c
  | _ => d
def tkLetter (Q : Nat → Int32) (c : Int32) : Bool × (Nat → Int32) := if c < 97 then (false, Q) else if c < 101 then (true, mkQ 1 (c - 97) (Q 2) (Q 3)) else (false, Q)
def tkKind (Q : Nat → Int32) (c : Int32) : Bool × (Nat → Int32) :=
  if c = 43 then (true, mkQ 2 (Q 1) c (Q 3)) else if c = 45 then (true, mkQ 2 (Q 1) c (Q 3)) else if c = 61 then (true, mkQ 2 (Q 1) c (Q 3)) else if c = 104 then (true, mkQ 4 (Q 1) c (Q 3)) else if c = 103 then (true, mkQ 4 (Q 1) c (Q 3)) else (false, Q)
def tkFirst (Q : Nat → Int32) (c : Int32) : Bool × (Nat → Int32) :=
  if Q 2 = 61 then (if c < 48 then (false, Q) else if 57 < c then (false, Q) else (true, mkQ 3 (Q 1) (Q 2) (c - 48))) else (if c < 49 then (false, Q) else if 57 < c then (false, Q) else (true, mkQ 3 (Q 1) (Q 2) (c - 48)))
def tkSecond (Q : Nat → Int32) (c : Int32) : Bool × (Nat → Int32) :=
  if Q 2 = 61 then (if c < 48 then (false, Q) else if 57 < c then (false, Q) else if Q 3 = 0 then (false, Q) else if 23 < 10 * Q 3 + c - 48 then (false, Q) else (true, mkQ 4 (Q 1) (Q 2) (10 * Q 3 + c - 48)))
  else (if c < 48 then (false, Q) else if 57 < c then (false, Q) else if Q 3 = 0 then (false, Q) else if 24 < 10 * Q 3 + c - 48 then (false, Q) else (true, mkQ 4 (Q 1) (Q 2) (10 * Q 3 + c - 48)))
def tkSep (Q : Nat → Int32) (c : Int32) : Bool × (Nat → Int32) := if c = 59 then (true, mkQ 0 (Q 1) (Q 2) (Q 3)) else (false, Q)
def tk (Q : Nat → Int32) (c : Int32) : Bool × (Nat → Int32) :=
  if Q 0 = 0 then tkLetter Q c else if Q 0 = 1 then tkKind Q c else if Q 0 = 2 then tkFirst Q c else if Q 0 = 3 then (if (tkSecond Q c).1 = true then (true, (tkSecond Q c).2) else tkSep (tkSecond Q c).2 c) else tkSep Q c
def tkEnd (Q : Nat → Int32) : Bool := if Q 0 = 3 then true else if Q 0 = 4 then true else false

