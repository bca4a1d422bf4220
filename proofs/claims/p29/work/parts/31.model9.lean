def stgT (p : Int32) : Int32 := if wiF p 0 5 = true then 0 else 1
def ihT (p q : Int32) : Int32 := if wiF p 0 3 = true then (if wiF q 0 2 = true then 0 else 2) else 1
def coM (z : Nat → Int32) (st k : Int32) : Int32 :=
  if k = 0 then z 6 else if k = 1 then sumX z 6 else if k = 2 then sumX z 8 else if k = 3 then sumX z 7 else if k = 4 then z 7 else if k = 5 then wearX z else if k = 6 then wornX z (z 2) else if k = 7 then belX z else st
def htF (z : Nat → Int32) (a : Nat) (k : Int32) : Int32 := if k = 0 then sl (hoZ z a) a 6 - sl z a 6 else if k = 1 then sl (hoZ z a) a 8 - sl z a 8 else if hoR z a = -1 then 0 else 1
