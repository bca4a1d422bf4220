/-! counts: how far they can have come; the queries' bridges -/
def cB (N : Nat) (G : Nat → Int32) : Prop := ∃ s t g : Nat, G 6 = nI s ∧ G 8 = nI t ∧ G 10 = nI g ∧ s ≤ t ∧ t ≤ 105 * s ∧ s ≤ N ∧ g ≤ N
def CB (N : Nat) (z : Nat → Int32) : Prop := ∀ a, a < 4 → cB N (sl z a)
section CT
variable {z : Nat → Int32} {a N M : Nat} {G G' : Nat → Int32}
theorem cB_mono (h : cB N G) (hM : N ≤ M) : cB M G := by
  obtain ⟨s, t, g, h1, h2, h3, h4, h5, h6, h7⟩ := h
  exact ⟨s, t, g, h1, h2, h3, h4, h5, by omega, by omega⟩
theorem cB_cg (h6 : G' 6 = G 6) (h8 : G' 8 = G 8) (h10 : G' 10 = G 10) (h : cB N G) : cB N G' := by
  unfold cB
  rw [h6, h8, h10]
  exact h
theorem CB_mono (h : CB N z) (hM : N ≤ M) : CB M z := fun b hb => cB_mono (h b hb) hM
theorem CB_inG (h : CB N z) (ha : a < 4) (hG : cB N G) : CB N (inG z a G) := fun b hb => by
  by_cases hba : b = a
  · subst hba; exact cB_cg (sl_inG (by omega)) (sl_inG (by omega)) (sl_inG (by omega)) hG
  · rw [sl_inG_n hba]; exact h b hb
theorem CB_up {i : Nat} {v : Int32} (h : CB N z) (hi : i < 8) : CB N (upd z i v) := fun b hb => by rw [sl_up hi]; exact h b hb
theorem CB_pu {w : Nat} {v : Int32} (h : CB N z) (ha : a < 4) (hw : w < 35) (h6 : w ≠ 6) (h8 : w ≠ 8) (h10 : w ≠ 10) : CB N (puZ z a w v) := by
  rw [pu_eq hw]
  exact CB_inG h ha (cB_cg (upd_ne (by omega)) (upd_ne (by omega)) (upd_ne (by omega)) (h a ha))
theorem CB_S (h : Inv z) (hc : CB N z) (ha : a < 4) {up : Bool} (hm : ¬ z 6 < tollG (sl z a) z (wI up)) : CB (N + 1) (zS z a (wI up)) := by
  rw [zS_eq hm]
  refine CB_inG (CB_up (CB_mono hc (by omega)) (by omega)) ha ?_
  obtain ⟨s, t, g, h1, h2, h3, h4, h5, h6, h7⟩ := hc a ha
  obtain ⟨n, n1, n2, n3⟩ := h.toll ha up
  exact ⟨s + 1, t + n, g, by show sl z a 6 + 1 = _; rw [h1, nI_1], by show sl z a 8 + tollG (sl z a) z (wI up) = _; rw [h2, n3, nI_add], h3, by omega, by omega, by omega, by omega⟩
theorem CB_ms (ha : a < 4) {up : Bool} : ∀ (n : Nat) (z : Nat → Int32) (c : Int32) (N : Nat), Inv z → CB N z → CB (N + n) (msL a (wI up) n z c).2
  | 0, z, c, N, h, hc => hc
  | n + 1, z, c, N, h, hc => by
    rw [msL_s h ha]
    by_cases hm : z 6 < tollG (sl z a) z (wI up)
    · rw [if_pos hm]; exact CB_mono hc (by omega)
    · rw [if_neg hm]; exact CB_mono (CB_ms ha n _ _ (N + 1) (Inv_S h ha hm) (CB_S h hc ha hm)) (by omega)
theorem CB_gt (ha : a < 4) {up : Bool} {q : Int32} : ∀ (n : Nat) (z : Nat → Int32) (c : Int32) (N : Nat), Inv z → CB N z → CB (N + n) (gtL a (wI up) q n z c).2
  | 0, z, c, N, h, hc => hc
  | n + 1, z, c, N, h, hc => by
    rw [gtL]
    by_cases hq : sl z a 1 = q
    · rw [if_pos hq]; exact CB_mono hc (by omega)
    · rw [if_neg hq]
      by_cases hm : z 6 < tollG (sl z a) z (wI up)
      · rw [if_pos ((ms_0 h ha up).mpr hm), zB_n hm]; exact CB_mono hc (by omega)
      · rw [if_neg (fun q => hm ((ms_0 h ha up).mp q))]; exact CB_mono (CB_gt ha n _ _ (N + 1) (Inv_S h ha hm) (CB_S h hc ha hm)) (by omega)
theorem CB_go (h : Inv z) (hc : CB N z) (ha : a < 4) {q : Int32} : CB (N + 24) (gtF z a q).2 := by
  obtain ⟨up, e⟩ := ch_w (z := z) (a := a) (q := q)
  unfold gtF
  rw [e]
  exact CB_gt ha _ _ _ _ h hc
theorem CB_hz (ha : a < 4) : ∀ (n : Nat) (z : Nat → Int32) (N : Nat), Inv z → CB N z → CB (N + n) (hzL a n z)
  | 0, z, N, h, hc => hc
  | n + 1, z, N, h, hc => by
    rw [hzL]
    by_cases h0 : sl z a 0 = 0
    · rw [if_pos h0]; exact CB_mono hc (by omega)
    · rw [if_neg h0]
      by_cases hm : canF z a (wI false) = true
      · rw [if_pos hm]; exact CB_mono (CB_hz ha n _ (N + 1) (Inv_S h ha (canF_t.mp hm)) (CB_S h hc ha (canF_t.mp hm))) (by omega)
      · rw [if_neg hm]; exact CB_mono hc (by omega)
theorem CB_h1 (hc : CB N z) (ha : a < 4) : CB (N + 1) (hz1 z a) := by
  rw [h1_in]
  refine CB_inG (CB_mono hc (by omega)) ha ?_
  obtain ⟨s, t, g, h1, h2, h3, h4, h5, h6, h7⟩ := hc a ha
  exact ⟨s, t, g + 1, h1, h2, by show sl z a 10 + 1 = _; rw [h3, nI_1], h4, h5, by omega, by omega⟩
theorem CB_ho (h : Inv z) (hc : CB N z) (ha : a < 4) : CB (N + 41) (hoZ z a) := by
  unfold hoZ
  have h9 := CB_hz ha 40 z N h hc
  by_cases h0 : sl (hzL a 40 z) a 0 = 0
  · rw [if_pos h0]; exact CB_h1 h9 ha
  · rw [if_neg h0]; exact CB_mono h9 (by omega)
theorem CB_pay {k : Int32} (hc : CB N z) : CB N (payZ z k) := CB_up (CB_up hc (by omega)) (by omega)
theorem CB_gr (hc : CB N z) (ha : a < 4) : CB N (grZ z a) := CB_pu (w := 5) (CB_pay hc) ha (by omega) (by omega) (by omega) (by omega)
/-- the means -/
theorem prop6 : propG G 6 = G 6 := by unfold propG; rw [if_neg (by decide), if_neg (by decide), if_neg (by decide), if_neg (by decide), if_neg (by decide), if_neg (by decide), if_pos rfl]
theorem prop8 : propG G 8 = G 8 := by unfold propG; rw [if_neg (by decide), if_neg (by decide), if_neg (by decide), if_neg (by decide), if_neg (by decide), if_neg (by decide), if_neg (by decide), if_neg (by decide), if_pos rfl]
/-- homing -/
theorem hz10 (ha : a < 4) : ∀ (n : Nat) (z : Nat → Int32), sl (hzL a n z) a 10 = sl z a 10
  | 0, z => rfl
  | n + 1, z => by
    rw [hzL]
    by_cases h0 : sl z a 0 = 0
    · rw [if_pos h0]
    · rw [if_neg h0]
      by_cases hm : canF z a (wI false) = true
      · rw [if_pos hm, hz10 ha n, sl_S hm (by omega)]; rfl
      · rw [if_neg hm]
theorem hz6 (ha : a < 4) : ∀ (n : Nat) (z : Nat → Int32), ∃ j, j ≤ n ∧ sl (hzL a n z) a 6 = sl z a 6 + nI j
  | 0, z => ⟨0, by omega, by rw [show nI 0 = 0 from rfl, Int32.add_zero]; rfl⟩
  | n + 1, z => by
    have hz : sl z a 6 = sl z a 6 + nI 0 := by rw [show nI 0 = 0 from rfl, Int32.add_zero]
    rw [hzL]
    by_cases h0 : sl z a 0 = 0
    · rw [if_pos h0]; exact ⟨0, by omega, hz⟩
    · rw [if_neg h0]
      by_cases hm : canF z a (wI false) = true
      · rw [if_pos hm]
        obtain ⟨j, hj, e⟩ := hz6 ha n (zS z a (wI false))
        refine ⟨j + 1, by omega, ?_⟩
        rw [e, sl_S hm (by omega)]
        show sl z a 6 + 1 + nI j = _
        rw [← nI_1 j, Int32.add_assoc, Int32.add_comm 1]
      · rw [if_neg hm]; exact ⟨0, by omega, hz⟩
theorem ho10 (ha : a < 4) : sl (hoZ z a) a 10 = if sl (hzL a 40 z) a 0 = 0 then sl z a 10 + 1 else sl z a 10 := by
  unfold hoZ
  by_cases h0 : sl (hzL a 40 z) a 0 = 0
  · rw [if_pos h0, if_pos h0, sl_h1]
    show sl (hzL a 40 z) a 10 + 1 = _
    rw [hz10 ha]
  · rw [if_neg h0, if_neg h0, hz10 ha]
theorem ho6 (ha : a < 4) : sl (hoZ z a) a 6 = sl (hzL a 40 z) a 6 := by
  unfold hoZ
  by_cases h0 : sl (hzL a 40 z) a 0 = 0
  · rw [if_pos h0, sl_h1]; rfl
  · rw [if_neg h0]
theorem ad_sub (x y : Int32) : x + y - x = y := by rw [Int32.add_comm, Int32.add_sub_cancel]
theorem hoR_n (ha : a < 4) : hoR z a = -1 ↔ ¬ sl (hzL a 40 z) a 0 = 0 := by
  unfold hoR
  by_cases h0 : sl (hzL a 40 z) a 0 = 0
  · rw [if_pos h0]
    obtain ⟨j, hj, e⟩ := hz6 ha 40 z
    rw [e, ad_sub]
    refine ⟨fun q => ?_, fun q => absurd h0 q⟩
    have : (nI j).toInt = (j : Int) := by rw [← Int32.toInt_ofNat_of_lt (by omega)]; rfl
    rw [q] at this
    have e1 : (-1 : Int32).toInt = -1 := rfl
    omega
  · rw [if_neg h0]; exact ⟨fun _ => h0, fun _ => rfl⟩
theorem hv_ho (h : Inv z) (hc : CB N z) (hN : N ≤ 600000) (ha : a < 4) : hvF z a = hoR z a := by
  unfold hvF hmB
  rw [← ho_hm h ha, ho10 ha]
  obtain ⟨s, t, g, -, -, e, -, -, -, hg⟩ := hc a ha
  by_cases h0 : sl (hzL a 40 z) a 0 = 0
  · rw [if_pos h0, e, nI_1, if_pos ((nI_ltI (by omega) (by omega)).mpr (by omega)), if_pos rfl, ho6 ha]
    exact (if_pos h0).symm
  · have hn : ¬ sl z a 10 < sl z a 10 := by rw [e]; exact fun q => absurd ((nI_ltI (by omega) (by omega)).mp q) (by omega)
    rw [if_neg h0, if_neg hn, if_neg Bool.false_ne_true]
    exact (if_neg h0).symm
theorem ms8 {R : Nat → Int32} {w pu : Int32} : msG G R w pu 8 = G 8 + msR G R w pu := by
  unfold msG msR
  split
  · rw [Int32.add_zero]
  · rfl
theorem hm8 {R : Nat → Int32} {pu : Int32} : ∀ (n : Nat) (G : Nat → Int32) (pd : Int32), (hmL R pu n G pd).2 8 + pd = G 8 + (hmL R pu n G pd).1
  | 0, G, pd => rfl
  | n + 1, G, pd => by
    rw [hmL]
    by_cases h0 : G 0 = 0
    · rw [if_pos h0]
    · rw [if_neg h0]
      by_cases hm : msR G R (-1) (pu - pd) = 0
      · rw [if_pos hm]
        show msG G R (-1) (pu - pd) 8 + pd = G 8 + pd
        rw [ms8, hm, Int32.add_zero]
      · rw [if_neg hm]
        have ih := hm8 (R := R) (pu := pu) n (msG G R (-1) (pu - pd)) (pd + msR G R (-1) (pu - pd))
        rw [ms8] at ih
        generalize (hmL R pu n (msG G R (-1) (pu - pd)) (pd + msR G R (-1) (pu - pd))).2 8 = x at ih ⊢
        generalize (hmL R pu n (msG G R (-1) (pu - pd)) (pd + msR G R (-1) (pu - pd))).1 = y at ih ⊢
        generalize msR G R (-1) (pu - pd) = m at ih
        have e1 : x + (pd + m) = x + pd + m := (Int32.add_assoc _ _ _).symm
        have e2 : G 8 + m + y = G 8 + y + m := by rw [Int32.add_assoc, Int32.add_comm m, Int32.add_assoc]
        rw [e1, e2] at ih
        have := congrArg (· - m) ih
        simpa only [Int32.add_sub_cancel] using this
theorem hmG8 {R : Nat → Int32} {pu : Int32} : hmG G R pu 8 = G 8 + hmP G R pu := by
  have h := hm8 (R := R) (pu := pu) 40 G 0
  rw [Int32.add_zero] at h
  unfold hmG hmP
  split
  · exact h
  · exact h
theorem sl_hf {z7 : Nat → Int32} (h : Inv z) (ha : a < 4) {j : Nat} (hj : j < 35) : sl (hfT z7 z a) 0 j = sl (hoZ z a) a j := by
  rw [ho_hm h ha]
  unfold hfT hmZ t7
  rw [sl_in0, sl_inG hj, inG_up6, sl_inG hj]
theorem hf_ht {z7 : Nat → Int32} (h : Inv z) (ha : a < 4) {k : Int32} : hfF z7 z a k = htF z a k := by
  unfold hfF htF
  rw [sl_hf h ha (by omega), sl_hf h ha (by omega)]
  by_cases h0 : k = 0
  · rw [if_pos h0, if_pos h0]
  · rw [if_neg h0, if_neg h0]
    by_cases h1 : k = 1
    · rw [if_pos h1, if_pos h1]
      have e8 : sl (hoZ z a) a 8 = sl z a 8 + hmP (sl z a) z (z 6) := by
        rw [ho_hm h ha]
        unfold hmZ
        rw [inG_up6, sl_inG (by omega), hmG8]
      rw [e8, ad_sub]
      unfold t7
      rw [sl_in0]
    · rw [if_neg h1, if_neg h1, ho10 ha]
      by_cases hz : sl (hzL a 40 z) a 0 = 0
      · rw [if_pos hz, ad_sub, if_neg (fun q => (hoR_n ha).mp q hz)]
      · rw [if_neg hz, Int32.sub_self, if_pos ((hoR_n ha).mpr hz)]
theorem rv_z {k : Int32} (hk : wiF k 0 5 = true) : rvF z k = z k.toNatClampNeg := by
  obtain ⟨j, hj, e, ec⟩ := wi_ex hk (N := 5) rfl
  rw [ec, e]
  rcases (by omega : j = 0 ∨ j = 1 ∨ j = 2 ∨ j = 3 ∨ j = 4 ∨ j = 5) with rfl | rfl | rfl | rfl | rfl | rfl <;> rfl
theorem rp_z {k v : Int32} (hk : wiF k 0 5 = true) : rpF z k v = upd z k.toNatClampNeg v := by
  obtain ⟨j, hj, e, ec⟩ := wi_ex hk (N := 5) rfl
  rw [ec, e]
  rcases (by omega : j = 0 ∨ j = 1 ∨ j = 2 ∨ j = 3 ∨ j = 4 ∨ j = 5) with rfl | rfl | rfl | rfl | rfl | rfl <;> rfl
end CT

