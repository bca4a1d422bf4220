section BR4
theorem sl_in0 {T y : Nat → Int32} {a b : Nat} : sl (inG T b (sl y a)) b = sl y a := funext fun j => by
  by_cases hj : j < 35
  · exact sl_inG hj
  · rw [sl_hi hj, sl_hi hj]
/-- reach on the trial axis is the steps that could be made -/
theorem re_ms {R : Nat → Int32} {a : Nat} (ha : a < 4) {up : Bool} : ∀ (n : Nat) (z T : Nat → Int32) (c : Int32), Inv z → z 0 = R 0 → z 1 = R 1 → z 2 = R 2 → sl T 0 = sl z a →
    (reL R (wI up) n T (z 6) c).1 = (msL a (wI up) n z c).1
  | 0, z, T, c, h, e0, e1, e2, eT => rfl
  | n + 1, z, T, c, h, e0, e1, e2, eT => by
    rw [reL, msL_s h ha, eT]
    have et : tollG (sl z a) R (wI up) = tollG (sl z a) z (wI up) := tollG_cg e1.symm
    by_cases hm : z 6 < tollG (sl z a) z (wI up)
    · have eR : msR (sl z a) R (wI up) (z 6) = 0 := if_pos (by rw [et]; exact hm)
      rw [eR, if_pos rfl, if_pos hm]
    · have hm' : ¬ z 6 < tollG (sl z a) R (wI up) := by rw [et]; exact hm
      have eR : msR (sl z a) R (wI up) (z 6) = tollG (sl z a) z (wI up) := by unfold msR; rw [if_neg hm', et]
      have eG : msG (sl z a) R (wI up) (z 6) = sl (zS z a (wI up)) a := by
        unfold msG
        rw [if_neg hm', sl_Sa h ha (canF_t.mpr hm)]
        exact stepG_cg e0.symm e1.symm e2.symm
      rw [eR, eG, if_neg (h.toll0 ha up), if_neg hm]
      have eS := zS_eq hm
      have s0 : ∀ i, i < 6 → zS z a (wI up) i = z i := fun i hi => by
        rw [eS, inG_out (by omega)]; exact upd_ne (by omega)
      have s6 : zS z a (wI up) 6 = z 6 - tollG (sl z a) z (wI up) := by
        rw [eS, inG_out (by omega), upd_s]
      rw [← s6]
      exact re_ms ha n (zS z a (wI up)) _ (c + 1) (Inv_S h ha hm) (by rw [s0 0 (by omega)]; exact e0) (by rw [s0 1 (by omega)]; exact e1) (by rw [s0 2 (by omega)]; exact e2) sl_in0
theorem re_eq {z z7 : Nat → Int32} {a : Nat} (h : Inv z) (ha : a < 4) {up : Bool} : (reF z7 z a (wI up)).1 = (msL a (wI up) 100 z 0).1 :=
  re_ms ha 100 z _ 0 h rfl rfl rfl sl_in0
end BR4

