def wiF (p0 p1 p2 : Int32) : Bool := if p0 < p1 then false else if p2 < p0 then false else true
