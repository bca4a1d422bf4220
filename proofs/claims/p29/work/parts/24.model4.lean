
section PW
variable {z : Nat → Int32} {a : Nat}
theorem sl_S {up : Bool} (hc : canF z a (wI up) = true) {j : Nat} (hj : j < 35) : sl (zS z a (wI up)) a j = stepG (sl z a) z (wI up) j := by
  rw [zS_eq (canF_t.mp hc), sl_inG hj]
def stT (z : Nat → Int32) (a : Nat) (up : Bool) : Int32 := if canF z a (wI up) = true then tollG (sl z a) z (wI up) else 0
theorem Inv_Z (h : Inv z) (ha : a < 4) (up : Bool) : Inv (stZ z a up) := by
  unfold stZ
  by_cases hc : z 6 < tollG (sl z a) z (wI up)
  · rw [if_pos hc]; exact h
  · rw [if_neg hc]; exact Inv_S h ha hc
theorem st_8 {up : Bool} {x3 s : Int32} (hs : sl z a 8 = x3 + s) : sl (stZ z a up) a 8 = x3 + (s + stT z a up) := by
  unfold stT
  cases hc : canF z a (wI up) with
  | false => rw [stZ_f hc, if_neg (by decide), add0]; exact hs
  | true =>
    rw [stZ_t hc, if_pos rfl, sl_S hc (by omega), ← Int32.add_assoc, ← hs]
    rfl
theorem st_1 {up : Bool} {c : Nat} (h1 : sl z a 1 = nI c) (hc : c < 24) (h : canF z a (wI up) = true) : sl (stZ z a up) a 1 = nI (cN c up) := by
  rw [stZ_t h, sl_S h (by omega)]
  exact nW_c h1 hc up
theorem gt_s {up : Bool} {q s : Int32} {kf : Nat} {r : Int32 × (Nat → Int32)} (h : Inv z) (ha : a < 4) (hk : 0 < kf) (hne : ¬ sl z a 1 = q) (hr : gtL a (wI up) q kf z s = r) : (if canF z a (wI up) = true then gtL a (wI up) q (kf - 1) (stZ z a up) (s + stT z a up) else (s + stT z a up, stZ z a up)) = r := by
  cases kf with
  | zero => exact absurd hk (by omega)
  | succ k =>
    rw [gtL, if_neg hne] at hr
    unfold stT
    cases hc : canF z a (wI up) with
    | false =>
      have h1 := canF_f hc
      rw [if_pos ((ms_0 h ha up).mpr h1), zB_n h1] at hr
      rw [if_neg (by decide), if_neg (by decide), stZ_f hc, add0]
      exact hr
    | true =>
      have h1 := canF_t.mp hc
      rw [if_neg (fun q => h1 ((ms_0 h ha up).mp q))] at hr
      rw [if_pos rfl, if_pos rfl, stZ_t hc]
      have e : msR (sl z a) z (wI up) (z 6) = tollG (sl z a) z (wI up) := if_neg h1
      rw [e] at hr
      exact hr
theorem gt_e {w q s : Int32} {kf : Nat} (hk : 0 < kf) (he : sl z a 1 = q) : gtL a w q kf z s = (s, z) := by
  cases kf with
  | zero => exact absurd hk (by omega)
  | succ k => rw [gtL, if_pos he]
theorem sub_add (x s : Int32) : x + s - x = s := by
  rw [Int32.add_comm, Int32.add_sub_cancel]
def hzL (a : Nat) : Nat → (Nat → Int32) → (Nat → Int32)
  | 0, z => z
  | k + 1, z => if sl z a 0 = 0 then z else if canF z a (wI false) = true then hzL a k (zS z a (wI false)) else z
def hz1 (z : Nat → Int32) (a : Nat) : Nat → Int32 := puZ (puZ (puZ (puZ z a 1 0) a 4 0) a 3 0) a 10 (sl (puZ (puZ (puZ z a 1 0) a 4 0) a 3 0) a 10 + 1)
def hoZ (z : Nat → Int32) (a : Nat) : Nat → Int32 := if sl (hzL a 40 z) a 0 = 0 then hz1 (hzL a 40 z) a else hzL a 40 z
def hoR (z : Nat → Int32) (a : Nat) : Int32 := if sl (hzL a 40 z) a 0 = 0 then sl (hzL a 40 z) a 6 - sl z a 6 else -1
theorem st_6 {x s : Int32} (hs : sl z a 6 = x + s) (hc : canF z a (wI false) = true) : sl (zS z a (wI false)) a 6 = x + (s + 1) := by
  rw [sl_S hc (by omega), ← Int32.add_assoc, ← hs]
  rfl
def hL1 (h : Nat → Int32) (j : Nat) : Nat → Int32 := fun i => if i + 148 < j then h (i + 148) else h i
def hL2 (h z : Nat → Int32) (w j : Nat) : Nat → Int32 := fun i => if 148 * w ≤ i ∧ i < 148 * w + j then z (i - 148 * w) else h i
def svH (h z : Nat → Int32) (w : Nat) : Nat → Int32 := if w = 6 then hL2 (hL1 h 888) z 5 148 else hL2 h z w 148
def svN (w : Nat) : Nat := if w = 6 then 6 else w + 1
theorem hL1_0 {h : Nat → Int32} : h = hL1 h 148 := funext fun i => (if_neg (by omega)).symm
theorem hL2_0 {h : Nat → Int32} {w : Nat} : h = hL2 h z w 0 := funext fun i => (if_neg (by omega)).symm
theorem hL1_s {h h' : Nat → Int32} {j : Nat} (e : h' = hL1 h j) (hj : 148 ≤ j) : upd h' (j - 148) (h' j) = hL1 h (j + 1) := funext fun i => by
  subst e
  unfold upd hL1
  by_cases hi : i = j - 148
  · rw [if_pos hi, if_neg (by omega), if_pos (by omega), show i + 148 = j by omega]
  · rw [if_neg hi]
    by_cases h2 : i + 148 < j
    · rw [if_pos h2, if_pos (by omega)]
    · rw [if_neg h2, if_neg (by omega)]
theorem hL2_s {h h' : Nat → Int32} {w j : Nat} (e : h' = hL2 h z w j) : upd h' (148 * w + j) (z j) = hL2 h z w (j + 1) := funext fun i => by
  subst e
  unfold upd hL2
  by_cases hi : i = 148 * w + j
  · rw [if_pos hi, if_pos (by omega), show i - 148 * w = j by omega]
  · rw [if_neg hi]
    by_cases h2 : 148 * w ≤ i ∧ i < 148 * w + j
    · rw [if_pos h2, if_pos (by omega)]
    · rw [if_neg h2, if_neg (by omega)]
theorem ix148 {s x : Int32} {w j : Nat} (hs : s = nI w) (e : x = nI j) : 148 * s + x = nI (148 * w + j) := by
  subst hs; subst e
  have e8 : (148 : Int32) = nI 148 := rfl
  rw [e8, pk_mul, nI_add]
theorem ix_m {x : Int32} {j : Nat} (e : x = nI j) (hj : 148 ≤ j) : x - 148 = nI (j - 148) := by
  subst e
  have e8 : (148 : Int32) = nI 148 := rfl
  rw [e8, pk_sub hj]
theorem six_n {s : Int32} {w : Nat} (e : s = nI w) (hw : w ≤ 6) (h : ¬ s = 6) : ¬ w = 6 := fun q => h (by subst q; exact e)
theorem six_y {s : Int32} {w : Nat} (e : s = nI w) (hw : w ≤ 6) (h : s = 6) : w = 6 := by
  have e2 := congrArg Int32.toNatClampNeg (e.symm.trans h)
  rw [nI_clamp (by omega)] at e2
  exact e2.trans (by decide)
end PW
