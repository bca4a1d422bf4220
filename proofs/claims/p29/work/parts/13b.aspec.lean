/-! the arm's own words, over a row z (a state as one row of 148 numbers) and the axis a -/
def wI (b : Bool) : Int32 := if b = true then 1 else -1
def canF (z : Nat → Int32) (a : Nat) (w : Int32) : Bool := if z 6 < tollG (sl z a) z w then false else true
def chF (z : Nat → Int32) (a : Nat) (q : Int32) : Int32 := if costG (sl z a) z q (-1) (-1) < costG (sl z a) z q 1 (-1) then -1 else 1
def cgF (z : Nat → Int32) (a : Nat) (q : Int32) : Bool := if sl z a 1 = q then true else if canF z a (chF z a q) = true then true else false
def gsF (z : Nat → Int32) : Bool := if z 6 < z 5 then false else true
/-- behind a step that could not be made, and behind one that could -/
def zB (z : Nat → Int32) (a : Nat) (w : Int32) : Nat → Int32 := inG z a (msG (sl z a) z w (z 6))
def zS (z : Nat → Int32) (a : Nat) (w : Int32) : Nat → Int32 := upd (zB z a w) 6 (zB z a w 6 - msR (sl z a) z w (z 6))
def msL (a : Nat) (w : Int32) : Nat → (Nat → Int32) → Int32 → Int32 × (Nat → Int32)
  | 0, z, c => (c, z)
  | n + 1, z, c => if msR (sl z a) z w (z 6) = 0 then (c, zB z a w) else msL a w n (zS z a w) (c + 1)
def gtL (a : Nat) (w q : Int32) : Nat → (Nat → Int32) → Int32 → Int32 × (Nat → Int32)
  | 0, z, s => (s, z)
  | n + 1, z, s => if sl z a 1 = q then (s, z) else if msR (sl z a) z w (z 6) = 0 then (s, zB z a w) else gtL a w q n (zS z a w) (s + msR (sl z a) z w (z 6))
def gtF (z : Nat → Int32) (a : Nat) (q : Int32) : Int32 × (Nat → Int32) := gtL a (chF z a q) q 24 z 0
def hmZ (z : Nat → Int32) (a : Nat) : Nat → Int32 := upd (inG z a (hmG (sl z a) z (z 6))) 6 (z 6 - hmP (sl z a) z (z 6))
def hmB (z : Nat → Int32) (a : Nat) : Bool := if sl z a 10 < sl (hmZ z a) a 10 then true else false
def payZ (z : Nat → Int32) (k : Int32) : Nat → Int32 := upd (upd z 6 (z 6 - k)) 7 (upd z 6 (z 6 - k) 7 + k)
def grZ (z : Nat → Int32) (a : Nat) : Nat → Int32 := upd (payZ z (z 5)) (5 + (8 + 35 * a)) (payZ z (z 5) 4)
def leF (z : Nat → Int32) (a : Nat) (q wo : Int32) : Int32 := if costG (sl z a) z q (-1) wo < costG (sl z a) z q 1 wo then costG (sl z a) z q (-1) wo else costG (sl z a) z q 1 wo
def woL (z : Nat → Int32) (a : Nat) (q : Int32) : Nat → Int32 → Int32 → Int32 → Int32
  | 0, _, best, _ => best
  | n + 1, t, best, least => if leF z a q t < least then woL z a q n (t + 1) t (leF z a q t) else woL z a q n (t + 1) best least
def woF (z : Nat → Int32) (a : Nat) (q : Int32) : Int32 := woL z a q 24 0 (-1) (leF z a q (-1))
def tsF (z : Nat → Int32) (a : Nat) (w : Int32) : Int32 := if turnG (sl z a) w = true then (if gwr (sl z a) (tW (sl z a 0) w) < z 2 then 1 else 2) else 0
/-- the trial axis -/
def t7 (z7 z : Nat → Int32) (a : Nat) : Nat → Int32 := inG z7 0 (sl z a)
def hfT (z7 z : Nat → Int32) (a : Nat) : Nat → Int32 := inG (t7 z7 z a) 0 (hmG (sl (t7 z7 z a) 0) z (z 6))
def hfF (z7 z : Nat → Int32) (a : Nat) (k : Int32) : Int32 := if k = 0 then sl (hfT z7 z a) 0 6 - sl z a 6 else if k = 1 then hmP (sl (t7 z7 z a) 0) z (z 6) else sl (hfT z7 z a) 0 10 - sl z a 10
def reL (z : Nat → Int32) (w : Int32) : Nat → (Nat → Int32) → Int32 → Int32 → Int32 × (Nat → Int32)
  | 0, T, _, c => (c, T)
  | n + 1, T, pu, c => if msR (sl T 0) z w pu = 0 then (c, inG T 0 (msG (sl T 0) z w pu)) else reL z w n (inG T 0 (msG (sl T 0) z w pu)) (pu - msR (sl T 0) z w pu) (c + 1)
def reF (z7 z : Nat → Int32) (a : Nat) (w : Int32) : Int32 × (Nat → Int32) := reL z w 100 (t7 z7 z a) (z 6) 0
def coF (X : Nat → Nat → Int32) (k : Int32) : Int32 :=
  if k = 0 then X 0 6 else if k = 1 then sumX (X 0) 6 else if k = 2 then sumX (X 0) 8 else if k = 3 then sumX (X 0) 7 else if k = 4 then X 0 7 else if k = 5 then wearX (X 0) else if k = 6 then wornX (X 0) (X 0 2) else if k = 7 then belX (X 0) else X 8 1
def cdF (b : Nat → Int32) (i : Int32) : Int32 := if i < 0 then 0 else if i < 60 then b i.toNatClampNeg else 0
def ieL (b : Nat → Int32) : Nat → (Nat → Int32) → Int32 → Int32 × (Nat → Int32)
  | 0, Q, i => (i, Q)
  | n + 1, Q, i => if (tk Q (cdF b i)).1 = true then ieL b n (tk Q (cdF b i)).2 (i + 1) else (i, (tk Q (cdF b i)).2)
def bgQ (Q : Nat → Int32) : Nat → Int32 := mkQ 0 (Q 1) (Q 2) (Q 3)
/-- a command carried out: whether, and the row behind it -/
def ccF (z : Nat → Int32) (a : Nat) (k : Nat) (kind num : Int32) : Bool × (Nat → Int32) :=
  if kind = 43 then ((if 0 < (msL a 1 k z 0).1 then true else false), (msL a 1 k z 0).2)
  else if kind = 45 then ((if 0 < (msL a (-1) k z 0).1 then true else false), (msL a (-1) k z 0).2)
  else if kind = 61 then (if cgF z a num = true then (true, (gtF z a num).2) else (false, z))
  else if kind = 103 then (if gsF z = true then (true, grZ z a) else (false, z))
  else (true, hmZ z a)
def foldJ (g : Nat → Int64 → Int64) : Nat → Nat → Int64 → Int64
  | 0, _, s => s
  | n + 1, j, s => foldJ g n (j + 1) (g j s)
def mx (h v : Int64) : Int64 := 31 * h + v
def mfF (G : Nat → Int32) (h : Int64) : Int64 := foldJ (fun j s => mx s (gwr G (nI j)).toInt64) 24 0 (foldJ (fun j s => mx s (propG G (nI j)).toInt64) 12 0 h)
section NF
variable {X : Nat → Nat → Int32} {r a : Nat} {z z' G : Nat → Int32} {v : Int32} {i : Nat}
theorem up2_self : up2 X r (X r) = X := funext fun q => by
  by_cases h : q = r
  · subst h; rw [up2_s]
  · rw [up2_n h]
theorem nf_2 : up2 (up2 X r z) r z' = up2 X r z' := funext fun q => by
  by_cases h : q = r
  · subst h; rw [up2_s, up2_s]
  · rw [up2_n h, up2_n h, up2_n h]
theorem nf_3 : up3 (up2 X r z) r i v = up2 X r (upd z i v) := by unfold up3; rw [nf_2, up2_s]
theorem nf_G : upG (up2 X r z) r a G = up2 X r (inG z a G) := by unfold upG; rw [nf_2, up2_s]
theorem nf_Q {Q Q' : Nat → Int32} : upQ (upQ X Q) Q' = upQ X Q' := by
  unfold upQ
  rw [nf_2]
  congr 1
  funext k
  by_cases h : 3 ≤ k ∧ k < 7
  · rw [if_pos h, if_pos h]
  · rw [if_neg h, if_neg h, up2_s, if_neg h]
theorem nf_2Q {Q : Nat → Int32} (h : r ≠ 8) : up2 (upQ X Q) r z = upQ (up2 X r z) Q := by
  have e : up2 X r z 8 = X 8 := up2_n (fun q => h q.symm)
  unfold upQ
  rw [e]
  funext q
  by_cases hq : q = r
  · subst hq; rw [up2_s, up2_n h, up2_s]
  · rw [up2_n hq]
    by_cases h8 : q = 8
    · subst h8; rw [up2_s, up2_s]
    · rw [up2_n h8, up2_n h8, up2_n hq]
theorem payX_eq {k : Int32} : payX X r k = up2 X r (payZ (X r) k) := by
  unfold payX payZ
  have e : up3 X r 6 (X r 6 - k) = up2 X r (upd (X r) 6 (X r 6 - k)) := rfl
  rw [e, nf_3, up2_s]
theorem svX_0 {w : Nat} : svX X w 0 = X 0 := by
  unfold svX
  rw [up2_n (by omega)]
  funext i
  rw [up3_ne (Or.inl (by omega)), up3_ne (Or.inl (by omega))]
end NF

