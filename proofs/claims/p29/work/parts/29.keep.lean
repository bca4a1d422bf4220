/-! what the arm's acts keep -/
section PX
variable {z : Nat → Int32} {a : Nat}
theorem Inv_pu (h : Inv z) (ha : a < 4) {w : Nat} (hw : w < 35) {v : Int32} (hG : AInv (upd (sl z a) w v)) : Inv (puZ z a w v) := by
  rw [pu_eq hw]; exact Inv_inG h ha hG
theorem Inv_care (h : Inv z) {v : Int32} : Inv (upd z 7 v) := by
  obtain ⟨⟨h0, h1, h2, h3, h4, h5, h6⟩, hA⟩ := h
  exact ⟨⟨h0, h1, h2, h3, h4, h5, h6⟩, fun b hb => by rw [sl_up (by omega)]; exact hA b hb⟩
theorem Inv_pay (h : Inv z) {k : Int32} {n : Nat} (hk : k = nI n) (hn : n < 2 ^ 31) (hc : ¬ z 6 < k) : Inv (payZ z k) := by
  unfold payZ
  exact Inv_care (Inv_purse h (bd_sub (by omega) h.1.2.2.2.2.2.2 hk hn hc))
theorem Inv_gr (h : Inv z) (ha : a < 4) (hc : ¬ z 6 < z 5) : Inv (grZ z a) := by
  obtain ⟨n, hn, e5⟩ := h.1.2.2.2.2.2.1
  have hP := Inv_pay h e5 (by omega) hc
  show Inv (puZ (payZ z (z 5)) a 5 (payZ z (z 5) 4))
  refine Inv_pu hP ha (by omega) ?_
  obtain ⟨h0, h1, h2, h3, h4, h5, hw⟩ := hP.2 a ha
  exact ⟨h0, h1, h2, h3, h4, h.1.2.2.2.2.1, fun t ht => by rw [upd_ne (by omega)]; exact hw t ht⟩
theorem Inv_ms (ha : a < 4) {up : Bool} : ∀ (n : Nat) (z : Nat → Int32) (c : Int32), Inv z → Inv (msL a (wI up) n z c).2
  | 0, z, c, h => h
  | n + 1, z, c, h => by
    rw [msL_s h ha]
    by_cases hc : z 6 < tollG (sl z a) z (wI up)
    · rw [if_pos hc]; exact h
    · rw [if_neg hc]; exact Inv_ms ha n _ _ (Inv_S h ha hc)
theorem Inv_gt (ha : a < 4) {up : Bool} {q : Int32} : ∀ (n : Nat) (z : Nat → Int32) (c : Int32), Inv z → Inv (gtL a (wI up) q n z c).2
  | 0, z, c, h => h
  | n + 1, z, c, h => by
    by_cases hq : sl z a 1 = q
    · rw [gtL, if_pos hq]; exact h
    · have h1 := gt_s (up := up) (s := c) (kf := n + 1) h ha (by omega) hq rfl
      rw [← h1]
      by_cases hc : canF z a (wI up) = true
      · rw [if_pos hc]; exact Inv_gt ha _ _ _ (Inv_Z h ha up)
      · rw [if_neg hc]; exact Inv_Z h ha up
theorem ch_w {z : Nat → Int32} {a : Nat} {q : Int32} : ∃ up : Bool, chF z a q = wI up := ⟨guF z a q (-1), wG rfl⟩
theorem Inv_go (h : Inv z) (ha : a < 4) {q : Int32} : Inv (gtF z a q).2 := by
  obtain ⟨up, e⟩ := ch_w (z := z) (a := a) (q := q)
  unfold gtF
  rw [e]
  exact Inv_gt ha _ _ _ h
theorem Inv_hz (ha : a < 4) : ∀ (n : Nat) (z : Nat → Int32), Inv z → Inv (hzL a n z)
  | 0, z, h => h
  | n + 1, z, h => by
    rw [hzL]
    by_cases h0 : sl z a 0 = 0
    · rw [if_pos h0]; exact h
    · rw [if_neg h0]
      by_cases hc : canF z a (wI false) = true
      · rw [if_pos hc]; exact Inv_hz ha n _ (Inv_S h ha (canF_t.mp hc))
      · rw [if_neg hc]; exact h
theorem sl_h1 (z : Nat → Int32) (a : Nat) : sl (hz1 z a) a = hm1 (sl z a) := by
  unfold hz1
  rw [sl_pu (by omega), sl_pu (by omega), sl_pu (by omega), sl_pu (by omega)]
  funext j
  match j with
  | 0 => rfl
  | 1 => rfl
  | 2 => rfl
  | 3 => rfl
  | 4 => rfl
  | 5 => rfl
  | 6 => rfl
  | 7 => rfl
  | 8 => rfl
  | 9 => rfl
  | 10 => rfl
  | t + 11 => rfl
theorem AInv_h1 {G : Nat → Int32} (h : AInv G) : AInv (hm1 G) := by
  obtain ⟨h0, h1, h2, h3, h4, h5, hw⟩ := h
  exact ⟨h0, ⟨0, by omega, nI_0.symm⟩, h2, Or.inl rfl, ⟨0, by omega, nI_0.symm⟩, h5, hw⟩
theorem h1_in (z : Nat → Int32) (a : Nat) : hz1 z a = inG z a (hm1 (sl z a)) := by
  have e := sl_h1 z a
  unfold hz1 at e ⊢
  rw [pu_eq (by omega), pu_eq (z := z) (by omega), pu_inG (by omega), pu_inG (by omega), inG_inG]
  refine inG_congr (fun j hj => ?_)
  rw [← e, pu_eq (z := z) (by omega), pu_inG (by omega), pu_inG (by omega), pu_inG (by omega), sl_inG hj, sl_inG (by omega)]
  unfold upd
  by_cases h10 : j = 10
  · rw [if_pos h10, if_pos h10]
  · rw [if_neg h10, if_neg h10, sl_inG hj]
theorem Inv_h1 (h : Inv z) (ha : a < 4) : Inv (hz1 z a) := by
  rw [h1_in]
  exact Inv_inG h ha (AInv_h1 (h.2 a ha))
theorem Inv_ho (h : Inv z) (ha : a < 4) : Inv (hoZ z a) := by
  unfold hoZ
  by_cases h0 : sl (hzL a 40 z) a 0 = 0
  · rw [if_pos h0]; exact Inv_h1 (Inv_hz ha 40 z h) ha
  · rw [if_neg h0]; exact Inv_hz ha 40 z h
/-- a command that was read, carried out: whether it could be, and the row behind it -/
def caF (z : Nat → Int32) (a : Nat) (sg v : Int32) : Bool × (Nat → Int32) :=
  if sg = 104 then (true, hoZ z a) else if sg = 103 then (if gsF z = true then (true, grZ z a) else (false, z))
  else if sg = 61 then (if cgF z a v = true then (true, (gtF z a v).2) else (false, z))
  else if sg = 43 then (if canF z a (wI true) = true then (true, (msL a (wI true) v.toNatClampNeg z 0).2) else (false, z))
  else (if canF z a (wI false) = true then (true, (msL a (wI false) v.toNatClampNeg z 0).2) else (false, z))
theorem gsF_t (h : gsF z = true) : ¬ z 6 < z 5 := fun q => by unfold gsF at h; rw [if_pos q] at h; exact absurd h (by decide)
theorem Inv_ca (h : Inv z) (ha : a < 4) {sg v : Int32} : Inv (caF z a sg v).2 := by
  unfold caF
  split
  · exact Inv_ho h ha
  · split
    · split
      · rename_i q; exact Inv_gr h ha (gsF_t q)
      · exact h
    · split
      · split
        · exact Inv_go h ha
        · exact h
      · split
        · split
          · exact Inv_ms ha _ _ _ h
          · exact h
        · split
          · exact Inv_ms ha _ _ _ h
          · exact h
end PX

