/-! what the methods of a gear answer and do, in the words of its own numbers: G 0 .. G 10 the fields, G (t + 11) the wear of the tooth t; R the rules -/
def gC (hw : Nat) (G : Nat → Int32) : va_E := .inr (0, [.ref hw, .int (G 0), .int (G 1), .int (G 2), .int (G 3), .int (G 4), .int (G 5), .int (G 6), .int (G 7), .int (G 8), .int (G 9), .int (G 10)])
def wC (kA : Nat → Nat) (G : Nat → Int32) : va_E := .inl (kA 0, 24, .inl (fun t => G (t + 11)))
def rC (R : Nat → Int32) : va_E := .inr (3, [.int (R 0), .int (R 1), .int (R 2), .int (R 3), .int (R 4), .int (R 5)])
def mkG (f0 f1 f2 f3 f4 f5 f6 f7 f8 f9 f10 : Int32) (w : Nat → Int32) : Nat → Int32
  | 0 => f0
  | 1 => f1
  | 2 => f2
  | 3 => f3
  | 4 => f4
  | 5 => f5
  | 6 => f6
  | 7 => f7
  | 8 => f8
  | 9 => f9
  | 10 => f10
  | t + 11 => w t
def nW (q w : Int32) : Int32 := if q + w < 0 then 23 else if q + w < 24 then q + w else 0
def tW (q w : Int32) : Int32 := if w = 1 then q else if 0 < q then q - 1 else 23
def fM (x y : Int32) : Int32 := if (x ^^^ y) < 0 then (if x - x / y * y = 0 then x - x / y * y else (x - x / y * y) + y) else x - x / y * y
def dist (x y : Int32) : Int32 := if 24 - fM (y - x) 24 < fM (y - x) 24 then 24 - fM (y - x) 24 else fM (y - x) 24
def wrF (f : Nat → Int32) (t : Int32) : Int32 := if t < 0 then 0 else if t < 24 then f t.toNatClampNeg else 0
def wsF (f : Nat → Int32) (t v : Int32) : Nat → Int32 := if t < 0 then f else if t < 24 then upd f t.toNatClampNeg v else f
def tlF (ld we gl pt : Int32) : Int32 := if 0 < gl then ((if 0 < pt then 1 + ld + we / pt else 1 + ld) + 1) / 2 else (if 0 < pt then 1 + ld + we / pt else 1 + ld)
def gwr (G : Nat → Int32) (t : Int32) : Int32 := wrF (fun k => G (k + 11)) t
def tollG (G R : Nat → Int32) (w : Int32) : Int32 := tlF (G 2) (gwr G (tW (G 0) w)) (G 5) (R 1)
def turnG (G : Nat → Int32) (w : Int32) : Bool := decide (G 3 = -w)
/-- one step of a gear, its toll being there -/
def stepG (G R : Nat → Int32) (w : Int32) : Nat → Int32 :=
  mkG (if turnG G w = true then (if gwr G (tW (G 0) w) < R 2 then nW (G 0) w else G 0) else nW (G 0) w) (nW (G 1) w) (G 2) w
    (if turnG G w = true then (if 12 < G 4 + 1 then 12 else G 4 + 1) else G 4) (if G 5 - 1 < 0 then 0 else G 5 - 1) (G 6 + 1)
    (if turnG G w = true then (if gwr G (tW (G 0) w) < R 2 then G 7 else G 7 + 1) else G 7) (G 8 + tollG G R w) (if turnG G w = true then G 9 + 1 else G 9) (G 10)
    (wsF (fun k => G (k + 11)) (tW (G 0) w) (if 99 < gwr G (tW (G 0) w) + R 0 then 99 else gwr G (tW (G 0) w) + R 0))
/-- a step as the class makes it: its answer, and the gear behind it -/
def msR (G R : Nat → Int32) (w pu : Int32) : Int32 := if pu < tollG G R w then 0 else tollG G R w
def msG (G R : Nat → Int32) (w pu : Int32) : Nat → Int32 := if pu < tollG G R w then G else stepG G R w
def hm1 (G : Nat → Int32) : Nat → Int32 := mkG (G 0) 0 (G 2) 0 0 (G 5) (G 6) (G 7) (G 8) (G 9) (G 10 + 1) (fun t => G (t + 11))
def hmL (R : Nat → Int32) (pu : Int32) : Nat → (Nat → Int32) → Int32 → Int32 × (Nat → Int32)
  | 0, G, pd => (pd, G)
  | k + 1, G, pd => if G 0 = 0 then (pd, G) else if msR G R (-1) (pu - pd) = 0 then (pd, msG G R (-1) (pu - pd)) else hmL R pu k (msG G R (-1) (pu - pd)) (pd + msR G R (-1) (pu - pd))
def hmP (G R : Nat → Int32) (pu : Int32) : Int32 := (hmL R pu 40 G 0).1
def hmG (G R : Nat → Int32) (pu : Int32) : Nat → Int32 := if (hmL R pu 40 G 0).2 0 = 0 then hm1 (hmL R pu 40 G 0).2 else (hmL R pu 40 G 0).2
def coL (G R : Nat → Int32) (tg w wo : Int32) : Nat → Int32 → Int32 → Int32 → Int32
  | 0, _, _, sm => sm
  | k + 1, q, md, sm => if q = tg then sm else coL G R tg w wo k (nW q w) (md + 1) (sm + tlF (G 2) (if tW q w = wo then 0 else gwr G (tW q w)) (G 5 - md) (R 1))
def costG (G R : Nat → Int32) (tg w wo : Int32) : Int32 := coL G R tg w wo 24 (G 1) 0 0
def ppL (G : Nat → Int32) : Nat → Int32 → Int32 → Int32
  | 0, _, bm => bm
  | k + 1, cd, bm => ppL G k (cd + 1) (if G 4 < dist cd (G 1) then bm else bm ||| (1 <<< (cd &&& 31)))
def possG (G : Nat → Int32) : Int32 := ppL G 24 0 0
def propG (G : Nat → Int32) (w : Int32) : Int32 :=
  if w = 0 then G 0 else if w = 1 then G 1 else if w = 2 then G 2 else if w = 3 then G 3 else if w = 4 then G 4 else if w = 5 then G 5 else if w = 6 then G 6 else if w = 7 then G 7 else if w = 8 then G 8 else if w = 9 then dist (G 0) (G 1) else if w = 10 then G 9 else G 10
theorem cnt_nge {x k : Int32} {j N : Nat} (e : x = nI j) (hk : nI N = k) (hN : N < 2 ^ 31) (h : j < N) : ¬ k ≤ x := by
  subst e; subst hk
  exact nI_ge h hN
theorem cnt_ge {x k : Int32} {j N : Nat} (e : x = nI j) (hk : nI N = k) (hj : j < 2 ^ 31) (h : N ≤ j) : k ≤ x := by
  subst e; subst hk
  exact nI_le h hj
theorem bI_n0 {b : Bool} (h : ¬ bI b = 0) : b = true := by
  cases b
  · exact absurd rfl h
  · rfl
theorem bI_n (b : Bool) {r : Bool} (h : b = r) (hr : r = true) : ¬ bI b = 0 := by subst h; subst hr; decide
theorem arrV_congr {c N : Nat} {f g : Nat → Value} (h : ∀ j, j < N → f j = g j) : arrV c N f = arrV c N g := by
  have e : (Array.ofFn (n := N) fun j => f j.val) = Array.ofFn (n := N) fun j => g j.val := congrArg Array.ofFn (funext fun j => h j.val j.isLt)
  show ({ cls := c, slots := Array.ofFn (n := N) fun j => f j.val, vm := .none } : Cell) = { cls := c, slots := Array.ofFn (n := N) fun j => g j.val, vm := .none }
  rw [e]
/-- the contents of an array of ints matter below its length alone -/
theorem va_P.ints {D : va_G} {cl : List vw_C} {ws : va_W} {H : Heap} (h : va_P D cl ws H) (k : Nat) {a c n : Nat} {f : Nat → Int32} (g : Nat → Int32) (hk : ws[k]? = some (a, .inl (c, n, .inl f))) (hfg : ∀ j, j < n → f j = g j) : va_P D cl (ws.set k (a, .inl (c, n, .inl g))) H := by
  intro i q hq
  by_cases hi : i = k
  · subst hi
    have hl := (List.getElem?_eq_some_iff.mp hk).1
    rw [List.getElem?_set_self hl] at hq
    cases hq
    have h1 := h i _ hk
    show H[a]? = some (vp_cell c (n, .inl g))
    have h2 : H[a]? = some (vp_cell c (n, .inl f)) := h1
    rw [h2]
    exact congrArg some (show arrV c n (fun j => .int (f j)) = arrV c n (fun j => .int (g j)) from arrV_congr (fun j hj => congrArg Value.int (hfg j hj)))
  · rw [List.getElem?_set_ne (fun h => hi h.symm)] at hq
    exact h i q hq

