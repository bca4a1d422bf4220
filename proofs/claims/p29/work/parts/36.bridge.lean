/-! the reference's acts are the arm's: homing -/
section BR
variable {z R : Nat → Int32} {a : Nat}
theorem tollG_cg {G R R' : Nat → Int32} {w : Int32} (h : R' 1 = R 1) : tollG G R' w = tollG G R w := by unfold tollG; rw [h]
theorem stepG_cg {G R R' : Nat → Int32} {w : Int32} (h0 : R' 0 = R 0) (h1 : R' 1 = R 1) (h2 : R' 2 = R 2) : stepG G R' w = stepG G R w := by
  unfold stepG
  rw [tollG_cg h1, h0, h2]
theorem inG_up6 {v : Int32} {G : Nat → Int32} : upd (inG z a G) 6 v = inG (upd z 6 v) a G := up_inG (by omega)
theorem upd_upd {i : Nat} {v w : Int32} : upd (upd z i v) i w = upd z i w := funext fun k => by
  unfold upd
  by_cases h : k = i
  · rw [if_pos h, if_pos h]
  · rw [if_neg h, if_neg h, if_neg h]
theorem upd_self {i : Nat} : upd z i (z i) = z := funext fun k => by
  unfold upd
  by_cases h : k = i
  · rw [if_pos h, h]
  · rw [if_neg h]
theorem sub_sub' (x y w : Int32) : x - y - w = x - (y + w) := by
  rw [Int32.sub_eq_add_neg x y, Int32.sub_eq_add_neg (x + -y) w, Int32.sub_eq_add_neg x (y + w), Int32.neg_add, Int32.sub_eq_add_neg (-y) w, Int32.add_assoc]
theorem sl_cg {G : Nat → Int32} (h : ∀ j, j < 35 → G j = sl z a j) : inG z a G = z := (inG_congr h).trans inG_self
end BR

