
def dN (c tg : Nat) (up : Bool) : Nat := if up = true then (tg + 24 - c) % 24 else (c + 24 - tg) % 24
def cN (c : Nat) (up : Bool) : Nat := if up = true then (c + 1) % 24 else (c + 23) % 24
theorem nI_ne24 {c tg : Nat} (hc : c < 24) (ht : tg < 24) (h : nI c = nI tg) : c = tg := by
  have e := congrArg Int32.toNatClampNeg h
  rwa [nI_clamp (by omega), nI_clamp (by omega)] at e
theorem dN_z {x p : Int32} {c tg : Nat} {up : Bool} (e : x = nI c) (hp : p = nI tg) (hc : c < 24) (ht : tg < 24) (hd : dN c tg up = 0) : x = p := by
  have : c = tg := by unfold dN at hd; cases up <;> simp only [if_true, Bool.false_eq_true, if_false] at hd <;> omega
  rw [e, hp, this]
theorem dN_ne {x p : Int32} {c tg n : Nat} {up : Bool} (e : x = nI c) (hp : p = nI tg) (hc : c < 24) (ht : tg < 24) (hd : dN c tg up = n + 1) : ¬ x = p := fun h => by
  have hct : c = tg := nI_ne24 hc ht (by rw [← e, ← hp]; exact h)
  subst hct
  unfold dN at hd
  cases up <;> simp only [if_true, Bool.false_eq_true, if_false] at hd <;> omega
theorem dN_lt {c tg : Nat} {up : Bool} : dN c tg up < 24 := by unfold dN; split <;> omega
theorem dN_s {c tg n : Nat} {up : Bool} (hc : c < 24) (ht : tg < 24) (hd : dN c tg up = n + 1) : dN (cN c up) tg up = n := by
  unfold dN at hd; unfold dN cN
  cases up <;> simp only [if_true, Bool.false_eq_true, if_false] at hd ⊢ <;> omega
theorem cN_lt {c : Nat} {up : Bool} : cN c up < 24 := by unfold cN; split <;> omega
theorem nW_c {x : Int32} {c : Nat} (e : x = nI c) (hc : c < 24) (up : Bool) : nW x (wI up) = nI (cN c up) := by
  subst e
  revert c
  cases up <;> decide +kernel
theorem tW_c {x : Int32} {c : Nat} (e : x = nI c) (hc : c < 24) (up : Bool) : tW x (wI up) = nI (tW x (wI up)).toNatClampNeg ∧ (tW x (wI up)).toNatClampNeg < 24 := by
  obtain ⟨k, h3, h4⟩ := tW_in e hc up
  rw [clamp_j h4 (by omega)]; exact ⟨h4, h3⟩
theorem sub0 (x : Int32) : x - 0 = x := Int32.sub_zero x
theorem sub_m1 (x y : Int32) : x - y + -1 = x - (y + 1) := by
  rw [Int32.sub_eq_add_neg x y, Int32.sub_eq_add_neg x (y + 1), Int32.neg_add, Int32.sub_eq_add_neg (-y) 1, Int32.add_assoc]
theorem co_s {G R : Nat → Int32} {tg w wo q md sm r : Int32} {kf : Nat} (hk : 0 < kf) (hne : ¬ q = tg) (h : coL G R tg w wo kf q md sm = r) : coL G R tg w wo (kf - 1) (nW q w) (md + 1) (sm + tlF (G 2) (if tW q w = wo then 0 else gwr G (tW q w)) (G 5 - md) (R 1)) = r := by
  cases kf with
  | zero => exact absurd hk (by omega)
  | succ k => rw [coL, if_neg hne] at h; exact h
theorem co_e {G R : Nat → Int32} {tg w wo q md sm : Int32} {kf : Nat} (hk : 0 < kf) (he : q = tg) : coL G R tg w wo kf q md sm = sm := by
  cases kf with
  | zero => exact absurd hk (by omega)
  | succ k => rw [coL, if_pos he]
def guF (z : Nat → Int32) (a : Nat) (q wo : Int32) : Bool := if costG (sl z a) z q (wI false) wo < costG (sl z a) z q (wI true) wo then false else true
theorem wG {z : Nat → Int32} {a : Nat} {q wo : Int32} (h : wo = -1) : chF z a q = wI (guF z a q wo) := by
  subst h
  unfold chF guF
  rw [wI_f, wI_t]
  split <;> rfl
