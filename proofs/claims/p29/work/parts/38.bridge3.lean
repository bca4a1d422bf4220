section BR3
variable {z : Nat → Int32} {a : Nat}
theorem hm1_cg {G G' : Nat → Int32} (h : ∀ j, j < 35 → G j = G' j) : ∀ j, j < 35 → hm1 G j = hm1 G' j := fun j hj => by
  match j with
  | 0 => exact h 0 (by omega)
  | 1 => rfl
  | 2 => exact h 2 (by omega)
  | 3 => rfl
  | 4 => rfl
  | 5 => exact h 5 (by omega)
  | 6 => exact h 6 (by omega)
  | 7 => exact h 7 (by omega)
  | 8 => exact h 8 (by omega)
  | 9 => exact h 9 (by omega)
  | 10 => exact congrArg (· + 1) (h 10 (by omega))
  | t + 11 => exact h (t + 11) hj
theorem hz_eq (h : Inv z) (ha : a < 4) : hzL a 40 z = inG (upd z 6 (z 6 - hmP (sl z a) z (z 6))) a (hmL z (z 6) 40 (sl z a) 0).2 :=
  hz_hm ha 40 z 0 h rfl rfl rfl (sub0 _).symm
/-- the reference's homing is the arm's -/
theorem ho_hm (h : Inv z) (ha : a < 4) : hoZ z a = hmZ z a := by
  have e := hz_eq h ha
  unfold hoZ hmZ hmG
  have e0 : sl (hzL a 40 z) a 0 = (hmL z (z 6) 40 (sl z a) 0).2 0 := by rw [e]; exact sl_inG (by omega)
  rw [e0]
  by_cases hc : (hmL z (z 6) 40 (sl z a) 0).2 0 = 0
  · rw [if_pos hc, if_pos hc, inG_up6, h1_in, e, inG_inG]
    exact inG_congr (hm1_cg (fun j hj => sl_inG hj))
  · rw [if_neg hc, if_neg hc, inG_up6, e]
end BR3

