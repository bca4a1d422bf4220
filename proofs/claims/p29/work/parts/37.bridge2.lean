section BR2
variable {z R : Nat → Int32} {a : Nat}
theorem sl_Sa (h : Inv z) (ha : a < 4) {up : Bool} (hc : canF z a (wI up) = true) : sl (zS z a (wI up)) a = stepG (sl z a) z (wI up) := funext fun j => by
  by_cases hj : j < 35
  · exact sl_S hc hj
  · rw [sl_hi hj]
    obtain ⟨t, rfl⟩ : ∃ t, j = t + 11 := ⟨j - 11, by omega⟩
    obtain ⟨ek, hk⟩ := h.tw ha up
    show 0 = wsF (fun q => sl z a (q + 11)) (tW (sl z a 0) (wI up)) (if 99 < gwr (sl z a) (tW (sl z a 0) (wI up)) + z 0 then 99 else gwr (sl z a) (tW (sl z a 0) (wI up)) + z 0) t
    have h0 : ¬ tW (sl z a 0) (wI up) < 0 := by rw [ek]; exact nI_pos (by omega)
    have h24 : tW (sl z a 0) (wI up) < 24 := by rw [ek]; exact (nI_ltI (b := 24) (by omega) (by omega)).mpr hk
    unfold wsF
    rw [if_neg h0, if_pos h24, upd_ne (by omega)]
    exact (sl_hi hj).symm
theorem hz_hm (ha : a < 4) {R : Nat → Int32} {pu : Int32} : ∀ (n : Nat) (z : Nat → Int32) (pd : Int32), Inv z → z 0 = R 0 → z 1 = R 1 → z 2 = R 2 → z 6 = pu - pd →
    hzL a n z = inG (upd z 6 (pu - (hmL R pu n (sl z a) pd).1)) a (hmL R pu n (sl z a) pd).2
  | 0, z, pd, h, e0, e1, e2, e6 => by
    show z = inG (upd z 6 (pu - pd)) a (sl z a)
    rw [← e6, upd_self, inG_self]
  | n + 1, z, pd, h, e0, e1, e2, e6 => by
    have hend : z = inG (upd z 6 (pu - pd)) a (sl z a) := by rw [← e6, upd_self, inG_self]
    rw [hzL, hmL]
    by_cases h0 : sl z a 0 = 0
    · rw [if_pos h0, if_pos h0]; exact hend
    · rw [if_neg h0, if_neg h0]
      have et : tollG (sl z a) R (-1) = tollG (sl z a) z (wI false) := tollG_cg e1.symm
      by_cases hc : canF z a (wI false) = true
      · have hm := canF_t.mp hc
        have hm' : ¬ pu - pd < tollG (sl z a) R (-1) := by rw [et, ← e6]; exact hm
        have eR : msR (sl z a) R (-1) (pu - pd) = tollG (sl z a) z (wI false) := by unfold msR; rw [if_neg hm', et]
        have eG : msG (sl z a) R (-1) (pu - pd) = sl (zS z a (wI false)) a := by
          unfold msG
          rw [if_neg hm', sl_Sa h ha hc]
          exact stepG_cg e0.symm e1.symm e2.symm
        rw [if_pos hc, eR, eG, if_neg (h.toll0 ha false)]
        have eS := zS_eq hm
        have s0 : ∀ i, i < 6 → zS z a (wI false) i = z i := fun i hi => by
          rw [eS, inG_out (by omega)]; exact upd_ne (by omega)
        have s6 : zS z a (wI false) 6 = pu - (pd + tollG (sl z a) z (wI false)) := by
          rw [eS, inG_out (by omega), upd_s, e6, sub_sub']
        have ih := hz_hm ha (R := R) (pu := pu) n (zS z a (wI false)) (pd + tollG (sl z a) z (wI false)) (Inv_S h ha hm) (by rw [s0 0 (by omega)]; exact e0) (by rw [s0 1 (by omega)]; exact e1) (by rw [s0 2 (by omega)]; exact e2) s6
        rw [ih]
        generalize hmL R pu n (sl (zS z a (wI false)) a) (pd + tollG (sl z a) z (wI false)) = P
        rw [eS, inG_up6, upd_upd, inG_inG]
      · have hf := canF_f (by cases q : canF z a (wI false) with | false => rfl | true => exact absurd q hc)
        have hm' : pu - pd < tollG (sl z a) R (-1) := by rw [et, ← e6]; exact hf
        have eR : msR (sl z a) R (-1) (pu - pd) = 0 := if_pos hm'
        have eG : msG (sl z a) R (-1) (pu - pd) = sl z a := if_pos hm'
        rw [if_neg hc, eR, eG, if_pos rfl]
        exact hend
end BR2

