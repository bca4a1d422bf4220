/-! programs as texts, and the digest's parts -/
def ieF (X : Nat → Nat → Int32) (L : Nat) : Int32 × (Nat → Int32) := ieL (X 9) L (bgQ (qz (X 8))) 0
def ipF (X : Nat → Nat → Int32) (L : Nat) : Bool := if (ieF X L).1 = X 8 2 then (if tkEnd (ieF X L).2 = true then true else false) else false
def ccQ (z Q : Nat → Int32) : Bool × (Nat → Int32) := ccF z (Q 1).toNatClampNeg (Q 3).toNatClampNeg (Q 2) (Q 3)
def codeN (b : Nat → Int32) (L j : Nat) : Int32 := if j < L then cdF b (nI j) else 59
def QV (Q : Nat → Int32) : Prop := (Q 1 = nI (Q 1).toNatClampNeg ∧ (Q 1).toNatClampNeg < 4) ∧ Q 3 = nI (Q 3).toNatClampNeg ∧ (Q 3).toNatClampNeg < 1000
def Qs (b : Nat → Int32) (L : Nat) (Q0 : Nat → Int32) : Nat → Nat → Int32
  | 0 => bgQ Q0
  | j + 1 => (tk (Qs b L Q0 j) (codeN b L j)).2
def cbL (b : Nat → Int32) (L : Nat) : Nat → Nat → (Nat → Int32) → (Nat → Int32) → Int32 → Int32 × (Nat → Int32) × (Nat → Int32)
  | 0, _, z, Q, d => (d, z, Q)
  | n + 1, j, z, Q, d => if codeN b L j = 59 then (if (ccQ z Q).1 = true then cbL b L n (j + 1) (ccQ z Q).2 (tk Q (codeN b L j)).2 (d + 1) else (d, (ccQ z Q).2, Q)) else cbL b L n (j + 1) z (tk Q (codeN b L j)).2 d
def cbF (X : Nat → Nat → Int32) (L : Nat) : Int32 × (Nat → Int32) × (Nat → Int32) := cbL (X 9) L (L + 1) 0 (X 0) (bgQ (qz (X 8))) 0
def fc1 (z : Nat → Int32) (a : Nat) (h : Int64) : Int64 := mx (mx (mx (mx (mx (mx h (tollG (sl z a) z 1).toInt64) (tollG (sl z a) z (-1)).toInt64) (tsF z a 1).toInt64) (tsF z a (-1)).toInt64) (costG (sl z a) z 12 1 (-1)).toInt64) (costG (sl z a) z 12 (-1) (-1)).toInt64
def hfL (z : Nat → Int32) (a : Nat) : Nat → Nat → (Nat → Int32) → Int64 → Int64 × (Nat → Int32)
  | 0, _, T, h => (h, T)
  | n + 1, j, T, h => hfL z a n (j + 1) (hfT T z a) (mx h (hfF T z a (nI j)).toInt64)
def fc2 (T z : Nat → Int32) (a : Nat) (h : Int64) : Int64 × (Nat → Int32) := hfL z a 3 0 T (fc1 z a h)
def fc3 (T z : Nat → Int32) (a : Nat) (h : Int64) : Int64 × (Nat → Int32) := (mx (fc2 T z a h).1 (reF (fc2 T z a h).2 z a 1).1.toInt64, (reF (fc2 T z a h).2 z a 1).2)
def fc4 (T z : Nat → Int32) (a : Nat) (h : Int64) : Int64 × (Nat → Int32) := (mx (fc3 T z a h).1 (reF (fc3 T z a h).2 z a (-1)).1.toInt64, (reF (fc3 T z a h).2 z a (-1)).2)
def fcF (T z : Nat → Int32) (a : Nat) (h : Int64) : Int64 := mx (mx (fc4 T z a h).1 (possG (sl z a)).toInt64) (woF z a 12).toInt64
theorem Qs_0 {b : Nat → Int32} {L : Nat} {Q0 : Nat → Int32} : Qs b L Q0 0 = bgQ Q0 := rfl
theorem codeN_1 {b : Nat → Int32} {L j : Nat} {x : Int32} (e : x = nI j) (h : j < L) : codeN b L j = cdF b x := by subst e; exact if_pos h
theorem codeN_0 {b : Nat → Int32} {L j : Nat} (h : ¬ j < L) : codeN b L j = 59 := if_neg h
theorem foldJ_1 {g : Nat → Int64 → Int64} {n j : Nat} {s v R : Int64} (hv : g j s = v) (h : foldJ g (n + 1) j s = R) : foldJ g n (j + 1) v = R := by subst hv; exact h
section TOP
variable {p : Program} {l : Launch} {e : Env} {R : Room} {s : State} {m : MethodId} {args : Array Value} {below : List Frame} {meth : Method} {c : Code} {H : Heap} {locs : List Loc} {cells slots : Nat} {Q : State → Prop} {pc : Nat} {ls : Array Slot} {rest : List Value}
theorem W_top {v v' : Value} (h : v = v') (k : W p l e R s m args below meth c H locs cells slots Q (F0 m pc ls (v' :: rest))) : W p l e R s m args below meth c H locs cells slots Q (F0 m pc ls (v :: rest)) := by subst h; exact k
end TOP
