/-! pure rows for the law's cases -/
theorem eaT_0 {z : Nat → Int32} {p : Int32}  (h : eaT z p = 0) : wiF p 1 10000 = true ∧ ¬ 100000 < z 6 + p := by
  unfold eaT at h
  by_cases g0 : wiF p 1 10000 = true
  · rw [if_pos g0] at h
    by_cases g1 : 100000 < z 6 + p
    · rw [if_pos g1] at h; exact absurd h (by decide)
    · rw [if_neg g1] at h
      exact ⟨g0, g1⟩
  · rw [if_neg g0] at h; exact absurd h (by decide)

theorem loT_0 {p q : Int32}  (h : loT p q = 0) : wiF p 0 3 = true ∧ wiF q 0 5 = true := by
  unfold loT at h
  by_cases g0 : wiF p 0 3 = true
  · rw [if_pos g0] at h
    by_cases g1 : wiF q 0 5 = true
    · rw [if_pos g1] at h
      exact ⟨g0, g1⟩
    · rw [if_neg g1] at h; exact absurd h (by decide)
  · rw [if_neg g0] at h; exact absurd h (by decide)

theorem seT_0 {p q : Int32}  (h : seT p q = 0) : wiF p 0 5 = true ∧ ivF p q = true := by
  unfold seT at h
  by_cases g0 : wiF p 0 5 = true
  · rw [if_pos g0] at h
    by_cases g1 : ivF p q = true
    · rw [if_pos g1] at h
      exact ⟨g0, g1⟩
    · rw [if_neg g1] at h; exact absurd h (by decide)
  · rw [if_neg g0] at h; exact absurd h (by decide)

theorem spT_0 {z : Nat → Int32} {p q : Int32}  (h : spT z p q = 0) : wiF p 0 3 = true ∧ ¬ q = 0 ∧ wiF q (-24) 24 = true ∧ canF z p.toNatClampNeg (wI (spU q)) = true := by
  unfold spT at h
  by_cases g0 : wiF p 0 3 = true
  · rw [if_pos g0] at h
    by_cases g1 : q = 0
    · rw [if_pos g1] at h; exact absurd h (by decide)
    · rw [if_neg g1] at h
      by_cases g2 : wiF q (-24) 24 = true
      · rw [if_pos g2] at h
        by_cases g3 : canF z p.toNatClampNeg (wI (spU q)) = true
        · rw [if_pos g3] at h
          exact ⟨g0, g1, g2, g3⟩
        · rw [if_neg g3] at h; exact absurd h (by decide)
      · rw [if_neg g2] at h; exact absurd h (by decide)
  · rw [if_neg g0] at h; exact absurd h (by decide)

theorem goT_0 {z : Nat → Int32} {p q : Int32}  (h : goT z p q = 0) : wiF p 0 3 = true ∧ wiF q 0 23 = true ∧ cgF z p.toNatClampNeg q = true := by
  unfold goT at h
  by_cases g0 : wiF p 0 3 = true
  · rw [if_pos g0] at h
    by_cases g1 : wiF q 0 23 = true
    · rw [if_pos g1] at h
      by_cases g2 : cgF z p.toNatClampNeg q = true
      · rw [if_pos g2] at h
        exact ⟨g0, g1, g2⟩
      · rw [if_neg g2] at h; exact absurd h (by decide)
    · rw [if_neg g1] at h; exact absurd h (by decide)
  · rw [if_neg g0] at h; exact absurd h (by decide)

theorem axT_0 {p : Int32}  (h : axT p = 0) : wiF p 0 3 = true := by
  unfold axT at h
  by_cases g0 : wiF p 0 3 = true
  · rw [if_pos g0] at h
    exact g0
  · rw [if_neg g0] at h; exact absurd h (by decide)

theorem geT_0 {z : Nat → Int32} {p : Int32}  (h : geT z p = 0) : wiF p 0 3 = true ∧ gsF z = true := by
  unfold geT at h
  by_cases g0 : wiF p 0 3 = true
  · rw [if_pos g0] at h
    by_cases g1 : gsF z = true
    · rw [if_pos g1] at h
      exact ⟨g0, g1⟩
    · rw [if_neg g1] at h; exact absurd h (by decide)
  · rw [if_neg g0] at h; exact absurd h (by decide)

theorem meT_0 {z : Nat → Int32} {p q : Int32}  (h : meT z p q = 0) : wiF p 0 3 = true ∧ wiF q 0 23 = true ∧ ¬ z 6 < gwr (sl z p.toNatClampNeg) q * z 3 := by
  unfold meT at h
  by_cases g0 : wiF p 0 3 = true
  · rw [if_pos g0] at h
    by_cases g1 : wiF q 0 23 = true
    · rw [if_pos g1] at h
      by_cases g2 : z 6 < gwr (sl z p.toNatClampNeg) q * z 3
      · rw [if_pos g2] at h; exact absurd h (by decide)
      · rw [if_neg g2] at h
        exact ⟨g0, g1, g2⟩
    · rw [if_neg g1] at h; exact absurd h (by decide)
  · rw [if_neg g0] at h; exact absurd h (by decide)

theorem apT_0 {p q : Int32}  (h : apT p q = 0) : wiF q 33 126 = true ∧ ¬ p = 60 := by
  unfold apT at h
  by_cases g0 : wiF q 33 126 = true
  · rw [if_pos g0] at h
    by_cases g1 : p = 60
    · rw [if_pos g1] at h; exact absurd h (by decide)
    · rw [if_neg g1] at h
      exact ⟨g0, g1⟩
  · rw [if_neg g0] at h; exact absurd h (by decide)

theorem stgT_0 {p : Int32}  (h : stgT p = 0) : wiF p 0 5 = true := by
  unfold stgT at h
  by_cases g0 : wiF p 0 5 = true
  · rw [if_pos g0] at h
    exact g0
  · rw [if_neg g0] at h; exact absurd h (by decide)

theorem ihT_0 {p q : Int32}  (h : ihT p q = 0) : wiF p 0 3 = true ∧ wiF q 0 2 = true := by
  unfold ihT at h
  by_cases g0 : wiF p 0 3 = true
  · rw [if_pos g0] at h
    by_cases g1 : wiF q 0 2 = true
    · rw [if_pos g1] at h
      exact ⟨g0, g1⟩
    · rw [if_neg g1] at h; exact absurd h (by decide)
  · rw [if_neg g0] at h; exact absurd h (by decide)

section PL
variable {X : Nat → Nat → Int32} {z : Nat → Int32} {p q : Int32} {a w n0 r N : Nat}
theorem wi3 (h : wiF p 0 3 = true) : p.toNatClampNeg < 4 := by
  obtain ⟨a, ha, -, e⟩ := wi_ex h (N := 3) rfl
  omega
theorem wi_bd {M : Int32} {m : Nat} (h : wiF p 0 M = true) (hM : M = nI m) (hm : m < 2 ^ 31) : bd p m := by
  obtain ⟨a, ha, e, -⟩ := wi_ex h hM hm
  exact ⟨a, by omega, e⟩
theorem inv_earn (hI : Inv z) (h : eaT z p = 0) : Inv (upd z 6 (z 6 + p)) := by
  obtain ⟨h1, h2⟩ := eaT_0 h
  obtain ⟨b, hb1, hb2, eb⟩ := wi_g h1 (lo := 1) rfl (N := 10000) rfl
  obtain ⟨n, hn, en⟩ := hI.1.2.2.2.2.2.2
  rw [en, eb, nI_add] at h2 ⊢
  refine Inv_purse hI ⟨n + b, ?_, rfl⟩
  refine Nat.le_of_not_lt fun hlt => h2 ?_
  exact (nI_ltI (a := 100000) (by omega) (by omega)).mpr hlt
theorem inv_load (hI : Inv z) (h : loT p q = 0) : Inv (puZ z p.toNatClampNeg 2 q) := by
  obtain ⟨h1, h2⟩ := loT_0 h
  have ha := wi3 h1
  refine Inv_pu hI ha (by omega) ?_
  obtain ⟨g0, g1, g2, g3, g4, g5, g6⟩ := hI.2 _ ha
  exact ⟨g0, g1, wi_bd h2 (m := 5) rfl (by omega), g3, g4, g5, fun t ht => by rw [upd_ne (by omega)]; exact g6 t ht⟩
theorem inv_set (hI : Inv z) (h : seT p q = 0) : Inv (upd z p.toNatClampNeg q) := by
  obtain ⟨h1, h2⟩ := seT_0 h
  obtain ⟨j, hj, e, ec⟩ := wi_ex h1 (N := 5) rfl
  rw [ec]
  rw [e] at h2
  obtain ⟨⟨g0, g1, g2, g3, g4, g5, g6⟩, gA⟩ := hI
  refine ⟨?_, fun b hb => by rw [sl_up (by omega)]; exact gA b hb⟩
  rcases (by omega : j = 0 ∨ j = 1 ∨ j = 2 ∨ j = 3 ∨ j = 4 ∨ j = 5) with rfl | rfl | rfl | rfl | rfl | rfl
  · exact ⟨wi_bd (m := 20) (M := 20) h2 rfl (by omega), g1, g2, g3, g4, g5, g6⟩
  · obtain ⟨c, hc1, hc2, ec⟩ := wi_g (lo := 1) (N := 50) (M := 50) (L := 1) h2 rfl rfl
    exact ⟨g0, ⟨c, hc1, by omega, ec⟩, g2, g3, g4, g5, g6⟩
  · obtain ⟨c, hc1, hc2, ec⟩ := wi_g (lo := 1) (N := 99) (M := 99) (L := 1) h2 rfl rfl
    exact ⟨g0, g1, ⟨c, hc1, by omega, ec⟩, g3, g4, g5, g6⟩
  · exact ⟨g0, g1, g2, wi_bd (m := 20) (M := 20) h2 rfl (by omega), g4, g5, g6⟩
  · exact ⟨g0, g1, g2, g3, wi_bd (m := 100) (M := 100) h2 rfl (by omega), g5, g6⟩
  · exact ⟨g0, g1, g2, g3, g4, wi_bd (m := 200) (M := 200) h2 rfl (by omega), g6⟩
theorem set_lt (h : seT p q = 0) : p.toNatClampNeg < 8 := by
  obtain ⟨j, hj, -, ec⟩ := wi_ex (seT_0 h).1 (N := 5) rfl
  omega
theorem gr6 : grZ z a 6 = z 6 - z 5 := by
  show upd (payZ z (z 5)) (5 + (8 + 35 * a)) (payZ z (z 5) 4) 6 = _
  rw [upd_ne (by omega)]
  show upd (upd z 6 (z 6 - z 5)) 7 _ 6 = _
  rw [upd_ne (by omega), upd_s]
theorem mend_eq {y : Nat → Int32} (h : wiF q 0 23 = true) : inG y a (mkG (sl y a 0) (sl y a 1) (sl y a 2) (sl y a 3) (sl y a 4) (sl y a 5) (sl y a 6) (sl y a 7) (sl y a 8) (sl y a 9) (sl y a 10) (wsF (fun t => sl y a (t + 11)) q 0)) = puZ y a (q.toNatClampNeg + 11) 0 := by
  obtain ⟨k, hk, e, ec⟩ := wi_ex h (N := 23) rfl
  rw [ec, pu_eq (by omega)]
  refine inG_congr (fun j hj => ?_)
  match j with
  | 0 => exact (upd_ne (by omega)).symm
  | 1 => exact (upd_ne (by omega)).symm
  | 2 => exact (upd_ne (by omega)).symm
  | 3 => exact (upd_ne (by omega)).symm
  | 4 => exact (upd_ne (by omega)).symm
  | 5 => exact (upd_ne (by omega)).symm
  | 6 => exact (upd_ne (by omega)).symm
  | 7 => exact (upd_ne (by omega)).symm
  | 8 => exact (upd_ne (by omega)).symm
  | 9 => exact (upd_ne (by omega)).symm
  | 10 => exact (upd_ne (by omega)).symm
  | t + 11 =>
    show wsF (fun t => sl y a (t + 11)) q 0 t = upd (sl y a) (k + 11) 0 (t + 11)
    unfold wsF
    rw [e, if_neg (nI_pos (by omega)), if_pos (show nI k < 24 from (nI_ltI (b := 24) (by omega) (by omega)).mpr hk), nI_clamp (by omega)]
    unfold upd
    by_cases htk : t = k
    · rw [if_pos htk, if_pos (by omega)]
    · rw [if_neg htk, if_neg (by omega)]
theorem inv_mend (hI : Inv z) (h : meT z p q = 0) : Inv (puZ (payZ z (gwr (sl z p.toNatClampNeg) q * z 3)) p.toNatClampNeg (q.toNatClampNeg + 11) 0) := by
  obtain ⟨h1, h2, h3⟩ := meT_0 h
  have ha := wi3 h1
  obtain ⟨k, hk, e, ec⟩ := wi_ex h2 (N := 23) rfl
  obtain ⟨y, hy, ey⟩ := gwr_bd (hI.2 _ ha) e hk
  obtain ⟨m, hm, em⟩ := hI.1.2.2.2.1
  have hb : y * m ≤ 99 * 20 := Nat.mul_le_mul hy hm
  have hP := Inv_pay hI (k := gwr (sl z p.toNatClampNeg) q * z 3) (n := y * m) (by rw [ey, em, pk_mul]) (by omega) h3
  refine Inv_pu hP ha (by omega) ?_
  obtain ⟨g0, g1, g2, g3, g4, g5, g6⟩ := hP.2 _ ha
  exact ⟨by rw [upd_ne (by omega)]; exact g0, by rw [upd_ne (by omega)]; exact g1, by rw [upd_ne (by omega)]; exact g2, by rw [upd_ne (by omega)]; exact g3, by rw [upd_ne (by omega)]; exact g4, by rw [upd_ne (by omega)]; exact g5, fun t ht => by
    unfold upd
    split
    · exact ⟨0, by omega, nI_0.symm⟩
    · exact g6 t ht⟩
theorem un_w (hw : w ≤ 6) (h : 0 < nI w) : 0 < w := by
  have : ∀ w, w < 7 → 0 < nI w → 0 < w := by decide +kernel
  exact this w (by omega) h
theorem un_V (hw : w ≤ 6) (h : 0 < nI w) : kpD (nI w) = nI w - 1 := by
  have : ∀ w, w < 7 → 0 < nI w → kpD (nI w) = nI w - 1 := by decide +kernel
  exact this w (by omega) h
theorem co_eq {k : Int32} (h : X 8 1 = nI w) : coF X k = coM (X 0) (nI w) k := by
  unfold coF coM
  rw [h]
theorem sp_na (h : spT z p q = 0) : q.toInt.natAbs ≤ 24 := by have := wi24 (spT_0 h).2.2.1; omega
end PL

