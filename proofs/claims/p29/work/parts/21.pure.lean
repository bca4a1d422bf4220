/-! pure rows: a row's slices, a step's numbers, and what stays true -/
section PU
variable {z z' G G' : Nat → Int32} {a : Nat}
theorem sl_hi {i : Nat} (h : ¬ i < 35) : sl z a i = 0 := if_neg h
theorem inG_in {j : Nat} (hj : j < 35) : inG z a G (j + (8 + 35 * a)) = G j := by
  unfold inG
  rw [if_pos ⟨by omega, by omega⟩, Nat.add_sub_cancel]
theorem inG_out {i : Nat} (h : i < 8 + 35 * a ∨ 8 + 35 * a + 35 ≤ i) : inG z a G i = z i := if_neg (by omega)
theorem sl_inG {j : Nat} (hj : j < 35) : sl (inG z a G) a j = G j := by rw [sl_at hj, inG_in hj]
theorem sl_inG_n {b : Nat} (hb : b ≠ a) : sl (inG z a G) b = sl z b := sl_eq fun i h1 h2 => inG_out (by omega)
theorem inG_congr (h : ∀ j, j < 35 → G' j = G j) : inG z a G' = inG z a G := funext fun i => by
  by_cases hi : 8 + 35 * a ≤ i ∧ i < 8 + 35 * a + 35
  · unfold inG; rw [if_pos hi, if_pos hi]; exact h _ (by omega)
  · unfold inG; rw [if_neg hi, if_neg hi]
theorem inG_self : inG z a (sl z a) = z := funext fun i => by
  by_cases hi : 8 + 35 * a ≤ i ∧ i < 8 + 35 * a + 35
  · unfold inG
    rw [if_pos hi, sl_at (by omega)]
    congr 1
    omega
  · unfold inG; rw [if_neg hi]
theorem inG_inG : inG (inG z a G) a G' = inG z a G' := funext fun i => by
  by_cases hi : 8 + 35 * a ≤ i ∧ i < 8 + 35 * a + 35
  · unfold inG; rw [if_pos hi, if_pos hi]
  · unfold inG; rw [if_neg hi, if_neg hi, if_neg hi]
theorem pu_inG {w : Nat} {v : Int32} (hw : w < 35) : puZ (inG z a G) a w v = inG z a (upd G w v) := funext fun i => by
  unfold puZ upd
  by_cases hi : i = w + (8 + 35 * a)
  · subst hi
    rw [if_pos rfl, inG_in hw, if_pos rfl]
  · rw [if_neg hi]
    by_cases h2 : 8 + 35 * a ≤ i ∧ i < 8 + 35 * a + 35
    · unfold inG; rw [if_pos h2, if_pos h2]; exact (if_neg (by omega)).symm
    · unfold inG; rw [if_neg h2, if_neg h2]
theorem pu_eq {w : Nat} {v : Int32} (hw : w < 35) : puZ z a w v = inG z a (upd (sl z a) w v) := by
  have h := pu_inG (z := z) (a := a) (G := sl z a) (v := v) hw
  rwa [inG_self] at h
theorem up_inG {i : Nat} {v : Int32} (h : i < 8 + 35 * a ∨ 8 + 35 * a + 35 ≤ i) : upd (inG z a G) i v = inG (upd z i v) a G := funext fun k => by
  unfold upd inG
  by_cases hk : k = i
  · subst hk; rw [if_pos rfl, if_neg (by omega)]; exact (if_pos rfl).symm
  · rw [if_neg hk]
    show _ = if _ then _ else (if k = i then v else z k)
    rw [if_neg hk]
theorem sl_up {i : Nat} {v : Int32} (h : i < 8) : sl (upd z i v) a = sl z a := sl_eq fun k h1 h2 => if_neg (by omega)
theorem sl_pu {w : Nat} {v : Int32} (hw : w < 35) : sl (puZ z a w v) a = upd (sl z a) w v := funext fun j => by
  rw [pu_eq hw]
  by_cases hj : j < 35
  · rw [sl_inG hj]
  · rw [sl_hi hj]
    unfold upd
    rw [if_neg (by omega), sl_hi hj]
theorem puZ_low {w i : Nat} {v : Int32} (h : i < 8) : puZ z a w v i = z i := if_neg (by omega)
theorem zS_eq {w : Int32} (hm : ¬ z 6 < tollG (sl z a) z w) : zS z a w = inG (upd z 6 (z 6 - tollG (sl z a) z w)) a (stepG (sl z a) z w) := by
  unfold zS zB msG msR
  rw [if_neg hm, if_neg hm, inG_out (by omega), up_inG (by omega)]
theorem bd_nI {n N : Nat} (h : n ≤ N) : bd (nI n) N := ⟨n, h, rfl⟩
theorem one_nI : (1 : Int32) = nI 1 := rfl
theorem two_nI : (2 : Int32) = nI 2 := rfl
theorem toll_in {ld we gl pt : Int32} (h1 : bd ld 5) (h2 : bd we 99) (h3 : ∃ n : Nat, 1 ≤ n ∧ n ≤ 50 ∧ pt = nI n) : ∃ n : Nat, 1 ≤ n ∧ n ≤ 105 ∧ tlF ld we gl pt = nI n := by
  obtain ⟨x, hx, rfl⟩ := h1
  obtain ⟨y, hy, rfl⟩ := h2
  obtain ⟨d, hd1, hd2, rfl⟩ := h3
  have hyd : y / d ≤ y := Nat.div_le_self y d
  have e : 1 + nI x + nI y / nI d = nI (1 + x + y / d) := by rw [pk_div (by omega) (by omega) (by omega), one_nI, nI_add, nI_add]
  rw [tl_pos (pos_nI rfl hd1 (by omega)), e]
  generalize y / d = q at hyd e ⊢
  by_cases hg : 0 < gl
  · rw [if_pos hg]
    refine ⟨(1 + x + q + 1) / 2, by omega, by omega, ?_⟩
    rw [one_nI, nI_add, two_nI, pk_div (by omega) (by omega) (by omega)]
  · rw [if_neg hg]
    exact ⟨_, by omega, by omega, rfl⟩
theorem gwr_bd {t : Int32} {k : Nat} (h : AInv G) (ht : t = nI k) (hk : k < 24) : bd (gwr G t) 99 := by
  rw [gwr_in ht hk]
  exact h.2.2.2.2.2.2 k hk
theorem Inv.toll (h : Inv z) (ha : a < 4) (up : Bool) : ∃ n : Nat, 1 ≤ n ∧ n ≤ 105 ∧ tollG (sl z a) z (wI up) = nI n := by
  have hA := h.2 a ha
  have ht := h.tw ha up
  exact toll_in hA.2.2.1 (gwr_bd hA ht.1 ht.2) h.1.2.1
theorem Inv.toll0 (h : Inv z) (ha : a < 4) (up : Bool) : ¬ tollG (sl z a) z (wI up) = 0 := by
  obtain ⟨n, h1, h2, h3⟩ := h.toll ha up
  exact ne0_nI h3 h1 (by omega)
theorem ms_0 (h : Inv z) (ha : a < 4) (up : Bool) : msR (sl z a) z (wI up) (z 6) = 0 ↔ z 6 < tollG (sl z a) z (wI up) := by
  unfold msR
  by_cases hc : z 6 < tollG (sl z a) z (wI up)
  · rw [if_pos hc]; exact ⟨fun _ => hc, fun _ => rfl⟩
  · rw [if_neg hc]; exact ⟨fun q => absurd q (h.toll0 ha up), fun q => absurd q hc⟩
theorem canF_t {w : Int32} : canF z a w = true ↔ ¬ z 6 < tollG (sl z a) z w := by
  unfold canF
  by_cases hc : z 6 < tollG (sl z a) z w
  · rw [if_pos hc]; exact ⟨fun q => absurd q (by decide), fun q => absurd hc q⟩
  · rw [if_neg hc]; exact ⟨fun _ => hc, fun _ => rfl⟩
theorem zB_n {w : Int32} (hc : z 6 < tollG (sl z a) z w) : zB z a w = z := by
  unfold zB msG
  rw [if_pos hc, inG_self]
theorem bd_min {x c : Int32} {n N : Nat} (hx : x = nI n) (hn : n < 2 ^ 31) (hc : nI N = c) (hN : N < 2 ^ 31) : bd (if c < x then c else x) N := by
  subst hx; subst hc
  by_cases h : nI N < nI n
  · rw [if_pos h]; exact bd_nI (Nat.le_refl _)
  · rw [if_neg h]
    exact bd_nI (Nat.le_of_not_lt fun q => h ((nI_ltI hN hn).mpr q))
theorem bd_dec {x : Int32} {N : Nat} (h : bd x N) (hN : N < 2 ^ 31) : bd (if x - 1 < 0 then 0 else x - 1) N := by
  obtain ⟨n, hn, rfl⟩ := h
  by_cases hc : nI n - 1 < 0
  · rw [if_pos hc]; exact ⟨0, by omega, nI_0.symm⟩
  · rw [if_neg hc]
    cases n with
    | zero => exact absurd (by decide) hc
    | succ k => rw [nI_pred]; exact bd_nI (by omega)
theorem AInv_step (h : AInv G) {R : Nat → Int32} (hR : bd (R 0) 20) (up : Bool) : AInv (stepG G R (wI up)) := by
  obtain ⟨⟨p, hp, e0⟩, ⟨b, hb, e1⟩, h2, h3, h4, h5, hw⟩ := h
  obtain ⟨k, hk, ek⟩ := tW_in e0 hp up
  obtain ⟨p', hp', e0'⟩ := nW_in e0 hp up
  obtain ⟨b', hb', e1'⟩ := nW_in e1 hb up
  refine ⟨?_, ⟨b', hb', e1'⟩, h2, ?_, ?_, ?_, ?_⟩
  · show ∃ n : Nat, n < 24 ∧ (if turnG G (wI up) = true then (if gwr G (tW (G 0) (wI up)) < R 2 then nW (G 0) (wI up) else G 0) else nW (G 0) (wI up)) = nI n
    split
    · split
      · exact ⟨p', hp', e0'⟩
      · exact ⟨p, hp, e0⟩
    · exact ⟨p', hp', e0'⟩
  · show wI up = 0 ∨ wI up = 1 ∨ wI up = -1
    cases up
    · exact Or.inr (Or.inr rfl)
    · exact Or.inr (Or.inl rfl)
  · show bd (if turnG G (wI up) = true then (if 12 < G 4 + 1 then 12 else G 4 + 1) else G 4) 12
    split
    · obtain ⟨n, hn, e4⟩ := h4
      exact bd_min (n := n + 1) (by rw [e4, nI_1]) (by omega) rfl (by omega)
    · exact h4
  · exact bd_dec h5 (by omega)
  · intro t ht
    show bd (wsF (fun j => G (j + 11)) (tW (G 0) (wI up)) (if 99 < gwr G (tW (G 0) (wI up)) + R 0 then 99 else gwr G (tW (G 0) (wI up)) + R 0) t) 99
    obtain ⟨y, hy, ey⟩ := gwr_bd ⟨⟨p, hp, e0⟩, ⟨b, hb, e1⟩, h2, h3, h4, h5, hw⟩ ek hk
    obtain ⟨r, hr, er⟩ := hR
    have hv : bd (if 99 < gwr G (tW (G 0) (wI up)) + R 0 then 99 else gwr G (tW (G 0) (wI up)) + R 0) 99 := bd_min (n := y + r) (by rw [ey, er, nI_add]) (by omega) rfl (by omega)
    unfold wsF
    rw [ek, if_neg (nI_pos (by omega)), if_pos (show nI k < 24 from (nI_ltI (b := 24) (by omega) (by omega)).mpr hk), nI_clamp (by omega)]
    unfold upd
    by_cases htk : t = k
    · rw [if_pos htk, ← ek]; exact hv
    · rw [if_neg htk]; exact hw t ht
theorem AInv_congr (h : ∀ j, j < 35 → G' j = G j) (hA : AInv G) : AInv G' := by
  obtain ⟨h0, h1, h2, h3, h4, h5, hw⟩ := hA
  refine ⟨by rw [h 0 (by omega)]; exact h0, by rw [h 1 (by omega)]; exact h1, by rw [h 2 (by omega)]; exact h2, by rw [h 3 (by omega)]; exact h3, by rw [h 4 (by omega)]; exact h4, by rw [h 5 (by omega)]; exact h5, fun t ht => by rw [h _ (by omega)]; exact hw t ht⟩
theorem RInv_congr (h : ∀ i, i < 7 → z' i = z i) (hR : RInv z) : RInv z' := by
  unfold RInv
  rw [h 0 (by omega), h 1 (by omega), h 2 (by omega), h 3 (by omega), h 4 (by omega), h 5 (by omega), h 6 (by omega)]
  exact hR
theorem Inv_inG (h : Inv z) (ha : a < 4) (hG : AInv G) : Inv (inG z a G) := by
  refine ⟨RInv_congr (fun i hi => inG_out (by omega)) h.1, fun b hb => ?_⟩
  by_cases hba : b = a
  · subst hba
    exact AInv_congr (fun j hj => sl_inG hj) hG
  · rw [sl_inG_n hba]; exact h.2 b hb
theorem Inv_purse (h : Inv z) {v : Int32} (hv : bd v 100000) : Inv (upd z 6 v) := by
  obtain ⟨⟨h0, h1, h2, h3, h4, h5, h6⟩, hA⟩ := h
  exact ⟨⟨h0, h1, h2, h3, h4, h5, hv⟩, fun b hb => by rw [sl_up (by omega)]; exact hA b hb⟩
theorem bd_sub {x y : Int32} {N : Nat} (hN : N < 2 ^ 31) (hx : bd x N) {n : Nat} (hy : y = nI n) (hn : n < 2 ^ 31) (h : ¬ x < y) : bd (x - y) N := by
  obtain ⟨m, hm, rfl⟩ := hx
  subst hy
  have hle : n ≤ m := Nat.le_of_not_lt fun q => h ((nI_ltI (by omega) hn).mpr q)
  rw [pk_sub hle]
  exact bd_nI (by omega)
theorem Inv_S (h : Inv z) (ha : a < 4) {up : Bool} (hc : ¬ z 6 < tollG (sl z a) z (wI up)) : Inv (zS z a (wI up)) := by
  rw [zS_eq hc]
  obtain ⟨n, h1, h2, h3⟩ := h.toll ha up
  exact Inv_inG (Inv_purse h (bd_sub (by omega) h.1.2.2.2.2.2.2 h3 (by omega) hc)) ha (AInv_step (h.2 a ha) h.1.1 up)
/-- a row behind a step, if it can be made -/
def stZ (z : Nat → Int32) (a : Nat) (up : Bool) : Nat → Int32 := if z 6 < tollG (sl z a) z (wI up) then z else zS z a (wI up)
theorem msL_s (h : Inv z) (ha : a < 4) {up : Bool} {n : Nat} {c : Int32} : msL a (wI up) (n + 1) z c = if z 6 < tollG (sl z a) z (wI up) then (c, z) else msL a (wI up) n (zS z a (wI up)) (c + 1) := by
  rw [msL]
  by_cases hc : z 6 < tollG (sl z a) z (wI up)
  · rw [if_pos ((ms_0 h ha up).mpr hc), if_pos hc, zB_n hc]
  · rw [if_neg (fun q => hc ((ms_0 h ha up).mp q)), if_neg hc]
end PU
section PV
variable {z : Nat → Int32} {a : Nat}
theorem sl_pn {w j : Nat} {v : Int32} (hw : w < 35) (hj : j < 35) (hne : j ≠ w) : sl (puZ z a w v) a j = sl z a j := by
  rw [sl_pu hw]
  exact if_neg hne
theorem sl_ps {w : Nat} {v : Int32} (hw : w < 35) : sl (puZ z a w v) a w = v := by
  rw [sl_pu hw]
  exact if_pos rfl
theorem canF_f {w : Int32} (h : canF z a w = false) : z 6 < tollG (sl z a) z w := Classical.byContradiction fun q => by
  have := canF_t.mpr q
  rw [h] at this
  exact absurd this (by decide)
theorem stZ_t {up : Bool} (h : canF z a (wI up) = true) : stZ z a up = zS z a (wI up) := if_neg (canF_t.mp h)
theorem stZ_f {up : Bool} (h : canF z a (wI up) = false) : stZ z a up = z := if_pos (canF_f h)
theorem ts_cases {w : Int32} : (turnG (sl z a) w = true ∧ gwr (sl z a) (tW (sl z a 0) w) < z 2 ∧ tsF z a w = 1) ∨ (turnG (sl z a) w = true ∧ ¬ gwr (sl z a) (tW (sl z a 0) w) < z 2 ∧ tsF z a w = 2) ∨ (¬ turnG (sl z a) w = true ∧ tsF z a w = 0) := by
  unfold tsF
  by_cases h1 : turnG (sl z a) w = true
  · by_cases h2 : gwr (sl z a) (tW (sl z a 0) w) < z 2
    · exact Or.inl ⟨h1, h2, by rw [if_pos h1, if_pos h2]⟩
    · exact Or.inr (Or.inl ⟨h1, h2, by rw [if_pos h1, if_neg h2]⟩)
  · exact Or.inr (Or.inr ⟨h1, by rw [if_neg h1]⟩)
theorem gr_eq {x : Int32} {N : Nat} (h : bd x N) (hN : N < 2 ^ 31) : x + (if 0 < x then -1 else 0) = if x - 1 < 0 then 0 else x - 1 := by
  obtain ⟨n, hn, rfl⟩ := h
  cases n with
  | zero => decide
  | succ k =>
    have h1 : 0 < nI (k + 1) := pos_nI rfl (by omega) (by omega)
    rw [if_pos h1, pk_m1, nI_pred, if_neg (nI_pos (by omega))]
theorem sk_eq {x : Int32} (h : bd x 12) : x + (if x < 12 then 1 else 0) = if 12 < x + 1 then 12 else x + 1 := by
  obtain ⟨n, hn, rfl⟩ := h
  have hall : ∀ n : Nat, n < 13 → nI n + (if nI n < 12 then 1 else 0) = if 12 < nI n + 1 then 12 else nI n + 1 := by decide +kernel
  exact hall n (by omega)
theorem add0 (x : Int32) : x + 0 = x := Int32.add_zero x
/-- the reference's step, put by put, is the arm's -/
theorem mstep {z1 z2 z3 z4 z5 z6 z7 z8 z9 z10 z11 : Nat → Int32} {up : Bool} (hI : Inv z) (ha : a < 4) (hc : ¬ z 6 < tollG (sl z a) z (wI up))
    (e1 : z1 = upd z 6 (z 6 - tollG (sl z a) z (wI up))) (e2 : z2 = puZ z1 a 8 (sl z1 a 8 + tollG (sl z a) z (wI up))) (e3 : z3 = puZ z2 a 6 (sl z2 a 6 + 1)) (e4 : z4 = puZ z3 a 5 (sl z3 a 5 + (if 0 < sl z3 a 5 then -1 else 0)))
    (e5 : z5 = puZ z4 a 9 (sl z4 a 9 + (if 0 < tsF z a (wI up) then 1 else 0))) (e6 : z6 = puZ z5 a 4 (sl z5 a 4 + (if 0 < tsF z a (wI up) then (if sl z5 a 4 < 12 then 1 else 0) else 0))) (e7 : z7 = puZ z6 a 7 (sl z6 a 7 + (if tsF z a (wI up) = 2 then 1 else 0)))
    (e8 : z8 = puZ z7 a 1 (nW (sl z7 a 1) (wI up))) (e9 : z9 = puZ z8 a 0 (if tsF z a (wI up) = 2 then sl z8 a 0 else nW (sl z8 a 0) (wI up)))
    (e10 : z10 = puZ z9 a ((tW (sl z a 0) (wI up)).toNatClampNeg + 11) (if 99 < gwr (sl z9 a) (tW (sl z a 0) (wI up)) + z9 0 then 99 else gwr (sl z9 a) (tW (sl z a 0) (wI up)) + z9 0)) (e11 : z11 = puZ z10 a 3 (if up = true then 1 else -1)) : z11 = zS z a (wI up) := by
  obtain ⟨ek, hk⟩ := hI.tw ha up
  generalize hkk : (tW (sl z a 0) (wI up)).toNatClampNeg = k at ek hk e10
  have hA := hI.2 a ha
  have s1 : sl z1 a = sl z a := by rw [e1, sl_up (by omega)]
  have s2 : sl z2 a = upd (sl z a) 8 (sl z a 8 + tollG (sl z a) z (wI up)) := by rw [e2, sl_pu (by omega), s1]
  have s3 : sl z3 a = upd (sl z2 a) 6 (sl z a 6 + 1) := by rw [e3, sl_pu (by omega), s2]; rfl
  have s4 : sl z4 a = upd (sl z3 a) 5 (if sl z a 5 - 1 < 0 then 0 else sl z a 5 - 1) := by
    have h : sl z3 a 5 = sl z a 5 := by rw [s3, s2]; rfl
    rw [e4, sl_pu (by omega), h, gr_eq hA.2.2.2.2.2.1 (by omega)]
  have s5 : sl z5 a = upd (sl z4 a) 9 (sl z a 9 + (if 0 < tsF z a (wI up) then 1 else 0)) := by
    have h : sl z4 a 9 = sl z a 9 := by rw [s4, s3, s2]; rfl
    rw [e5, sl_pu (by omega), h]
  have s6 : sl z6 a = upd (sl z5 a) 4 (sl z a 4 + (if 0 < tsF z a (wI up) then (if sl z a 4 < 12 then 1 else 0) else 0)) := by
    have h : sl z5 a 4 = sl z a 4 := by rw [s5, s4, s3, s2]; rfl
    rw [e6, sl_pu (by omega), h]
  have s7 : sl z7 a = upd (sl z6 a) 7 (sl z a 7 + (if tsF z a (wI up) = 2 then 1 else 0)) := by
    have h : sl z6 a 7 = sl z a 7 := by rw [s6, s5, s4, s3, s2]; rfl
    rw [e7, sl_pu (by omega), h]
  have s8 : sl z8 a = upd (sl z7 a) 1 (nW (sl z a 1) (wI up)) := by
    have h : sl z7 a 1 = sl z a 1 := by rw [s7, s6, s5, s4, s3, s2]; rfl
    rw [e8, sl_pu (by omega), h]
  have s9 : sl z9 a = upd (sl z8 a) 0 (if tsF z a (wI up) = 2 then sl z a 0 else nW (sl z a 0) (wI up)) := by
    have h : sl z8 a 0 = sl z a 0 := by rw [s8, s7, s6, s5, s4, s3, s2]; rfl
    rw [e9, sl_pu (by omega), h]
  have hz90 : z9 0 = z 0 := by rw [e9, puZ_low (by omega), e8, puZ_low (by omega), e7, puZ_low (by omega), e6, puZ_low (by omega), e5, puZ_low (by omega), e4, puZ_low (by omega), e3, puZ_low (by omega), e2, puZ_low (by omega), e1]; rfl
  have hne : ∀ j : Nat, j < 11 → ¬ k + 11 = j := fun j hj => by omega
  have hg9 : gwr (sl z9 a) (tW (sl z a 0) (wI up)) = gwr (sl z a) (tW (sl z a 0) (wI up)) := by
    rw [gwr_in ek hk, gwr_in ek hk, s9, s8, s7, s6, s5, s4, s3, s2]
    unfold upd
    rw [if_neg (hne 0 (by omega)), if_neg (hne 1 (by omega)), if_neg (hne 7 (by omega)), if_neg (hne 4 (by omega)), if_neg (hne 9 (by omega)), if_neg (hne 5 (by omega)), if_neg (hne 6 (by omega)), if_neg (hne 8 (by omega))]
  have s10 : sl z10 a = upd (sl z9 a) (k + 11) (if 99 < gwr (sl z a) (tW (sl z a 0) (wI up)) + z 0 then 99 else gwr (sl z a) (tW (sl z a 0) (wI up)) + z 0) := by rw [e10, sl_pu (by omega), hg9, hz90]
  have s11 : sl z11 a = upd (sl z10 a) 3 (wI up) := by rw [e11, sl_pu (by omega)]; cases up <;> rfl
  -- the row itself: z1 with another axis a
  have r11 : z11 = inG z1 a (sl z11 a) := by
    have step : ∀ {y y' : Nat → Int32} {w : Nat} {v : Int32}, w < 35 → y = inG z1 a (sl y a) → y' = puZ y a w v → y' = inG z1 a (sl y' a) := by
      intro y y' w v hw hy hy'
      rw [hy', sl_pu hw]
      conv => lhs; rw [hy]
      exact pu_inG hw
    have c1 : z1 = inG z1 a (sl z1 a) := inG_self.symm
    exact step (by omega) (step (by omega) (step (by omega) (step (by omega) (step (by omega) (step (by omega) (step (by omega) (step (by omega) (step (by omega) (step (by omega) c1 e2) e3) e4) e5) e6) e7) e8) e9) e10) e11
  rw [r11, zS_eq hc, e1]
  refine inG_congr (fun j hj => ?_)
  have hall : sl z11 a j = stepG (sl z a) z (wI up) j := by
    rw [s11, s10, s9, s8, s7, s6, s5, s4, s3, s2]
    rcases Nat.lt_or_ge j 11 with h11 | h11
    · have hts : (0 < tsF z a (wI up) ↔ turnG (sl z a) (wI up) = true) := by
        rcases ts_cases (z := z) (a := a) (w := wI up) with ⟨h1, -, h3⟩ | ⟨h1, -, h3⟩ | ⟨h1, h3⟩ <;> rw [h3]
        · exact ⟨fun _ => h1, fun _ => by decide⟩
        · exact ⟨fun _ => h1, fun _ => by decide⟩
        · exact ⟨fun q => absurd q (by decide), fun q => absurd q h1⟩
      unfold upd
      rcases (show j = 0 ∨ j = 1 ∨ j = 2 ∨ j = 3 ∨ j = 4 ∨ j = 5 ∨ j = 6 ∨ j = 7 ∨ j = 8 ∨ j = 9 ∨ j = 10 by omega) with rfl | rfl | rfl | rfl | rfl | rfl | rfl | rfl | rfl | rfl | rfl
      · rw [if_neg (show ¬ (0 : Nat) = 3 by omega), if_neg (show ¬ (0 : Nat) = k + 11 by omega), if_pos rfl]
        show _ = (if turnG (sl z a) (wI up) = true then (if gwr (sl z a) (tW (sl z a 0) (wI up)) < z 2 then nW (sl z a 0) (wI up) else sl z a 0) else nW (sl z a 0) (wI up))
        rcases ts_cases (z := z) (a := a) (w := wI up) with ⟨h1, h2, h3⟩ | ⟨h1, h2, h3⟩ | ⟨h1, h3⟩ <;> rw [h3]
        · rw [if_pos h1, if_pos h2]; rfl
        · rw [if_pos h1, if_neg h2]; rfl
        · rw [if_neg h1]; rfl
      · rw [if_neg (show ¬ (1 : Nat) = 3 by omega), if_neg (show ¬ (1 : Nat) = k + 11 by omega)]
        show _ = nW (sl z a 1) (wI up)
        rfl
      · rw [if_neg (show ¬ (2 : Nat) = 3 by omega), if_neg (show ¬ (2 : Nat) = k + 11 by omega)]
        show _ = sl z a 2
        rfl
      · rfl
      · rw [if_neg (show ¬ (4 : Nat) = 3 by omega), if_neg (show ¬ (4 : Nat) = k + 11 by omega)]
        show _ = (if turnG (sl z a) (wI up) = true then (if 12 < sl z a 4 + 1 then 12 else sl z a 4 + 1) else sl z a 4)
        show sl z a 4 + (if 0 < tsF z a (wI up) then (if sl z a 4 < 12 then 1 else 0) else 0) = _
        by_cases hq : turnG (sl z a) (wI up) = true
        · rw [if_pos (hts.mpr hq), if_pos hq, sk_eq hA.2.2.2.2.1]
        · rw [if_neg (fun q => hq (hts.mp q)), if_neg hq, add0]
      · rw [if_neg (show ¬ (5 : Nat) = 3 by omega), if_neg (show ¬ (5 : Nat) = k + 11 by omega)]
        show _ = (if sl z a 5 - 1 < 0 then 0 else sl z a 5 - 1)
        rfl
      · rw [if_neg (show ¬ (6 : Nat) = 3 by omega), if_neg (show ¬ (6 : Nat) = k + 11 by omega)]
        show _ = sl z a 6 + 1
        rfl
      · rw [if_neg (show ¬ (7 : Nat) = 3 by omega), if_neg (show ¬ (7 : Nat) = k + 11 by omega)]
        show _ = (if turnG (sl z a) (wI up) = true then (if gwr (sl z a) (tW (sl z a 0) (wI up)) < z 2 then sl z a 7 else sl z a 7 + 1) else sl z a 7)
        show sl z a 7 + (if tsF z a (wI up) = 2 then 1 else 0) = _
        rcases ts_cases (z := z) (a := a) (w := wI up) with ⟨h1, h2, h3⟩ | ⟨h1, h2, h3⟩ | ⟨h1, h3⟩ <;> rw [h3]
        · rw [if_pos h1, if_pos h2]; exact add0 _
        · rw [if_pos h1, if_neg h2]; rfl
        · rw [if_neg h1]; exact add0 _
      · rw [if_neg (show ¬ (8 : Nat) = 3 by omega), if_neg (show ¬ (8 : Nat) = k + 11 by omega)]
        show _ = sl z a 8 + tollG (sl z a) z (wI up)
        rfl
      · rw [if_neg (show ¬ (9 : Nat) = 3 by omega), if_neg (show ¬ (9 : Nat) = k + 11 by omega)]
        show _ = (if turnG (sl z a) (wI up) = true then sl z a 9 + 1 else sl z a 9)
        show sl z a 9 + (if 0 < tsF z a (wI up) then 1 else 0) = _
        by_cases hq : turnG (sl z a) (wI up) = true
        · rw [if_pos (hts.mpr hq), if_pos hq]
        · rw [if_neg (fun q => hq (hts.mp q)), if_neg hq, add0]
      · rw [if_neg (show ¬ (10 : Nat) = 3 by omega), if_neg (show ¬ (10 : Nat) = k + 11 by omega)]
        show _ = sl z a 10
        rfl
    · obtain ⟨t, rfl⟩ : ∃ t, j = t + 11 := ⟨j - 11, by omega⟩
      have hs : stepG (sl z a) z (wI up) (t + 11) = wsF (fun q => sl z a (q + 11)) (tW (sl z a 0) (wI up)) (if 99 < gwr (sl z a) (tW (sl z a 0) (wI up)) + z 0 then 99 else gwr (sl z a) (tW (sl z a 0) (wI up)) + z 0) t := rfl
      rw [hs]
      have h0 : ¬ tW (sl z a 0) (wI up) < 0 := by rw [ek]; exact nI_pos (by omega)
      have h24 : tW (sl z a 0) (wI up) < 24 := by rw [ek]; exact (nI_ltI (b := 24) (by omega) (by omega)).mpr hk
      unfold wsF
      rw [if_neg h0, if_pos h24, hkk]
      have hgr : (fun q => sl z a (q + 11)) t = sl z a (t + 11) := rfl
      unfold upd
      rw [if_neg (show ¬ t + 11 = 3 by omega)]
      by_cases htk : t = k
      · subst htk; rw [if_pos rfl]; exact (if_pos rfl).symm
      · rw [if_neg (show ¬ t + 11 = k + 11 by omega), if_neg (show ¬ t + 11 = 0 by omega), if_neg (show ¬ t + 11 = 1 by omega), if_neg (show ¬ t + 11 = 7 by omega), if_neg (show ¬ t + 11 = 4 by omega), if_neg (show ¬ t + 11 = 9 by omega), if_neg (show ¬ t + 11 = 5 by omega), if_neg (show ¬ t + 11 = 6 by omega), if_neg (show ¬ t + 11 = 8 by omega)]
        exact (if_neg htk).symm
  exact hall
end PV

