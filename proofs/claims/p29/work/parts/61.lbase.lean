/-! the law's own rows, as the arm's numbers: ten cells at al 0 .. al 9 over a row z and the count k of saved states -/
def lN (z : Nat → Int32) (k : Int32) : Nat → Int32 := fun i => if i = 0 then z 6 else if i = 1 then z 7 else if i = 2 then k else if i < 9 then z (i - 3) else 0
def lG (z : Nat → Int32) (w : Nat) : Nat → Int32 := fun b => sl z b w
def lU (z : Nat → Int32) : Nat → Int32 := fun i => sl z (i / 5) (6 + i % 5)
def lT (z : Nat → Int32) (o : Nat) : Nat → Int32 := fun i => sl z (i / 12) (o + i % 12)
def lW (kA al : Nat → Nat) (z : Nat → Int32) (k : Int32) : va_W := [(al 0, .inl (kA 0, 9, .inl (lN z k))), (al 1, .inl (kA 0, 4, .inl (lG z 0))), (al 2, .inl (kA 0, 4, .inl (lG z 1))), (al 3, .inl (kA 0, 4, .inl (lG z 2))), (al 4, .inl (kA 0, 4, .inl (lG z 3))), (al 5, .inl (kA 0, 4, .inl (lG z 4))), (al 6, .inl (kA 0, 4, .inl (lG z 5))), (al 7, .inl (kA 0, 20, .inl (lU z))), (al 8, .inl (kA 0, 48, .inl (lT z 11))), (al 9, .inl (kA 0, 48, .inl (lT z 23)))]
section LW0
variable {kA al ad : Nat → Nat} {z z' : Nat → Int32} {k k' v : Int32} {a b w : Nat} {R : va_W}
theorem lw_0 : (lW kA al z k)[0]? = some (al 0, .inl (kA 0, 9, .inl (lN z k))) := rfl
theorem lv_0 : (lW kA al z k ++ R)[0]? = some (al 0, .inl (kA 0, 9, .inl (lN z k))) := rfl
theorem lw_1 : (lW kA al z k)[1]? = some (al 1, .inl (kA 0, 4, .inl (lG z 0))) := rfl
theorem lv_1 : (lW kA al z k ++ R)[1]? = some (al 1, .inl (kA 0, 4, .inl (lG z 0))) := rfl
theorem lw_2 : (lW kA al z k)[2]? = some (al 2, .inl (kA 0, 4, .inl (lG z 1))) := rfl
theorem lv_2 : (lW kA al z k ++ R)[2]? = some (al 2, .inl (kA 0, 4, .inl (lG z 1))) := rfl
theorem lw_3 : (lW kA al z k)[3]? = some (al 3, .inl (kA 0, 4, .inl (lG z 2))) := rfl
theorem lv_3 : (lW kA al z k ++ R)[3]? = some (al 3, .inl (kA 0, 4, .inl (lG z 2))) := rfl
theorem lw_4 : (lW kA al z k)[4]? = some (al 4, .inl (kA 0, 4, .inl (lG z 3))) := rfl
theorem lv_4 : (lW kA al z k ++ R)[4]? = some (al 4, .inl (kA 0, 4, .inl (lG z 3))) := rfl
theorem lw_5 : (lW kA al z k)[5]? = some (al 5, .inl (kA 0, 4, .inl (lG z 4))) := rfl
theorem lv_5 : (lW kA al z k ++ R)[5]? = some (al 5, .inl (kA 0, 4, .inl (lG z 4))) := rfl
theorem lw_6 : (lW kA al z k)[6]? = some (al 6, .inl (kA 0, 4, .inl (lG z 5))) := rfl
theorem lv_6 : (lW kA al z k ++ R)[6]? = some (al 6, .inl (kA 0, 4, .inl (lG z 5))) := rfl
theorem lw_7 : (lW kA al z k)[7]? = some (al 7, .inl (kA 0, 20, .inl (lU z))) := rfl
theorem lv_7 : (lW kA al z k ++ R)[7]? = some (al 7, .inl (kA 0, 20, .inl (lU z))) := rfl
theorem lw_8 : (lW kA al z k)[8]? = some (al 8, .inl (kA 0, 48, .inl (lT z 11))) := rfl
theorem lv_8 : (lW kA al z k ++ R)[8]? = some (al 8, .inl (kA 0, 48, .inl (lT z 11))) := rfl
theorem lw_9 : (lW kA al z k)[9]? = some (al 9, .inl (kA 0, 48, .inl (lT z 23))) := rfl
theorem lv_9 : (lW kA al z k ++ R)[9]? = some (al 9, .inl (kA 0, 48, .inl (lT z 23))) := rfl
theorem lw_fst : (lW kA al z' k').map (fun q => q.1) = (lW kA al z k).map (fun q => q.1) := rfl
theorem lw_Aw {q : Nat} (h : Aw (lW kA al z' k') q) : Aw (lW kA al z k) q := by
  obtain ⟨n, e, h1⟩ := h
  have h2 : ((lW kA al z' k').map (fun q => q.1))[n]? = some q := by rw [List.getElem?_map, h1]; rfl
  rw [lw_fst (z := z) (k := k), List.getElem?_map] at h2
  cases h3 : (lW kA al z k)[n]? with
  | none => rw [h3] at h2; cases h2
  | some y => rw [h3] at h2; exact ⟨n, y.2, by rw [h3]; cases h2; rfl⟩
theorem slp (hw : w < 35) {j : Nat} : sl (puZ z a w v) b j = if b = a ∧ j = w then v else sl z b j := by
  unfold sl puZ upd
  by_cases hj : j < 35
  · rw [if_pos hj, if_pos hj]
    by_cases h : b = a ∧ j = w
    · rw [if_pos h, if_pos (by omega)]
    · rw [if_neg h, if_neg (by omega)]
  · rw [if_neg hj, if_neg hj, if_neg (by omega)]
theorem lN_pu : lN (puZ z a w v) k = lN z k := funext fun i => by
  unfold lN
  rw [puZ_low (by omega), puZ_low (by omega)]
  by_cases h : i < 9
  · by_cases h2 : i < 3
    · rcases (by omega : i = 0 ∨ i = 1 ∨ i = 2) with rfl | rfl | rfl <;> rfl
    · rw [if_neg (by omega), if_neg (by omega), if_neg (by omega), if_pos h, if_neg (by omega), if_neg (by omega), if_neg (by omega), if_pos h, puZ_low (by omega)]
  · rw [if_neg (by omega), if_neg (by omega), if_neg (by omega), if_neg h, if_neg (by omega), if_neg (by omega), if_neg (by omega), if_neg h]
theorem lG_pu (hw : w < 35) {j : Nat} : lG (puZ z a w v) j = if j = w then upd (lG z j) a v else lG z j := by
  by_cases h : j = w
  · rw [if_pos h]
    funext b
    unfold lG upd
    rw [slp hw]
    by_cases hb : b = a
    · rw [if_pos hb, if_pos ⟨hb, h⟩]
    · rw [if_neg hb, if_neg (fun q => hb q.1)]
  · rw [if_neg h]
    funext b
    unfold lG
    rw [slp hw, if_neg (fun q => h q.2)]
theorem lU_in (hr : w < 5) : lU (puZ z a (6 + w) v) = upd (lU z) (5 * a + w) v := funext fun i => by
  unfold lU upd
  rw [slp (by omega)]
  by_cases h : i = 5 * a + w
  · rw [if_pos h, if_pos (by omega)]
  · rw [if_neg h, if_neg (by omega)]
theorem lU_out (hw : w < 35) (h : w < 6 ∨ 11 ≤ w) : lU (puZ z a w v) = lU z := funext fun i => by
  unfold lU
  rw [slp hw, if_neg (by omega)]
theorem lT_in {o : Nat} (hr : w < 12) (ho : o + 12 ≤ 35) : lT (puZ z a (o + w) v) o = upd (lT z o) (12 * a + w) v := funext fun i => by
  unfold lT upd
  rw [slp (by omega)]
  by_cases h : i = 12 * a + w
  · rw [if_pos h, if_pos (by omega)]
  · rw [if_neg h, if_neg (by omega)]
theorem lT_out {o : Nat} (hw : w < 35) (h : w < o ∨ o + 12 ≤ w) : lT (puZ z a w v) o = lT z o := funext fun i => by
  unfold lT
  rw [slp hw, if_neg (by omega)]
theorem lG_up {i j : Nat} (hi : i < 8) : lG (upd z i v) j = lG z j := funext fun b => by unfold lG; rw [sl_up hi]
theorem lU_up {i : Nat} (hi : i < 8) : lU (upd z i v) = lU z := funext fun b => by unfold lU; rw [sl_up hi]
theorem lT_up {i o : Nat} (hi : i < 8) : lT (upd z i v) o = lT z o := funext fun b => by unfold lT; rw [sl_up hi]
theorem lN_0 : upd (lN z k) 0 v = lN (upd z 6 v) k := funext fun i => by
  unfold lN upd
  by_cases h : i < 9
  · rcases (by omega : i = 0 ∨ i = 1 ∨ i = 2 ∨ i = 3 ∨ i = 4 ∨ i = 5 ∨ i = 6 ∨ i = 7 ∨ i = 8) with rfl | rfl | rfl | rfl | rfl | rfl | rfl | rfl | rfl <;> rfl
  · rw [if_neg (by omega), if_neg (by omega), if_neg (by omega), if_neg (by omega), if_neg h, if_neg (by omega), if_neg (by omega), if_neg (by omega), if_neg h]
theorem lN_1 : upd (lN z k) 1 v = lN (upd z 7 v) k := funext fun i => by
  unfold lN upd
  by_cases h : i < 9
  · rcases (by omega : i = 0 ∨ i = 1 ∨ i = 2 ∨ i = 3 ∨ i = 4 ∨ i = 5 ∨ i = 6 ∨ i = 7 ∨ i = 8) with rfl | rfl | rfl | rfl | rfl | rfl | rfl | rfl | rfl <;> rfl
  · rw [if_neg (by omega), if_neg (by omega), if_neg (by omega), if_neg (by omega), if_neg h, if_neg (by omega), if_neg (by omega), if_neg (by omega), if_neg h]
theorem lN_2 : upd (lN z k) 2 v = lN z v := funext fun i => by
  unfold lN upd
  by_cases h : i = 2
  · subst h; rfl
  · rw [if_neg h, if_neg h, if_neg h]
theorem lN_s {j : Nat} (hj : j < 6) : upd (lN z k) (3 + j) v = lN (upd z j v) k := funext fun i => by
  rcases (by omega : j = 0 ∨ j = 1 ∨ j = 2 ∨ j = 3 ∨ j = 4 ∨ j = 5) with rfl | rfl | rfl | rfl | rfl | rfl <;>
  · unfold lN upd
    by_cases h : i < 9
    · rcases (by omega : i = 0 ∨ i = 1 ∨ i = 2 ∨ i = 3 ∨ i = 4 ∨ i = 5 ∨ i = 6 ∨ i = 7 ∨ i = 8) with rfl | rfl | rfl | rfl | rfl | rfl | rfl | rfl | rfl <;> rfl
    · rw [if_neg (by omega), if_neg (by omega), if_neg (by omega), if_neg (by omega), if_neg h, if_neg (by omega), if_neg (by omega), if_neg (by omega), if_neg h]
/-- single stores -/
theorem sn_0 : (lW kA al z k).set 0 (al 0, .inl (kA 0, 9, .inl (upd (lN z k) 0 v))) = lW kA al (upd z 6 v) k := by
  unfold lW
  rw [lN_0, lG_up (by omega), lG_up (by omega), lG_up (by omega), lG_up (by omega), lG_up (by omega), lG_up (by omega), lU_up (by omega), lT_up (by omega), lT_up (by omega)]
  rfl
theorem sn_1 : (lW kA al z k).set 0 (al 0, .inl (kA 0, 9, .inl (upd (lN z k) 1 v))) = lW kA al (upd z 7 v) k := by
  unfold lW
  rw [lN_1, lG_up (by omega), lG_up (by omega), lG_up (by omega), lG_up (by omega), lG_up (by omega), lG_up (by omega), lU_up (by omega), lT_up (by omega), lT_up (by omega)]
  rfl
theorem sn_2 : (lW kA al z k).set 0 (al 0, .inl (kA 0, 9, .inl (upd (lN z k) 2 v))) = lW kA al z v := by
  unfold lW
  rw [lN_2]
  rfl
theorem sn_s {j : Nat} (hj : j < 6) : (lW kA al z k).set 0 (al 0, .inl (kA 0, 9, .inl (upd (lN z k) (3 + j) v))) = lW kA al (upd z j v) k := by
  unfold lW
  rw [lN_s hj, lG_up (by omega), lG_up (by omega), lG_up (by omega), lG_up (by omega), lG_up (by omega), lG_up (by omega), lU_up (by omega), lT_up (by omega), lT_up (by omega)]
  rfl
theorem sg_0 : (lW kA al z k).set 1 (al 1, .inl (kA 0, 4, .inl (upd (lG z 0) a v))) = lW kA al (puZ z a 0 v) k := by
  unfold lW
  rw [lN_pu, lU_out (by omega) (by omega), lT_out (by omega) (by omega), lT_out (by omega) (by omega), lG_pu (by omega), lG_pu (by omega), lG_pu (by omega), lG_pu (by omega), lG_pu (by omega), lG_pu (by omega), if_pos rfl, if_neg (by omega), if_neg (by omega), if_neg (by omega), if_neg (by omega), if_neg (by omega)]
  rfl
theorem sg_1 : (lW kA al z k).set 2 (al 2, .inl (kA 0, 4, .inl (upd (lG z 1) a v))) = lW kA al (puZ z a 1 v) k := by
  unfold lW
  rw [lN_pu, lU_out (by omega) (by omega), lT_out (by omega) (by omega), lT_out (by omega) (by omega), lG_pu (by omega), lG_pu (by omega), lG_pu (by omega), lG_pu (by omega), lG_pu (by omega), lG_pu (by omega), if_neg (by omega), if_pos rfl, if_neg (by omega), if_neg (by omega), if_neg (by omega), if_neg (by omega)]
  rfl
theorem sg_2 : (lW kA al z k).set 3 (al 3, .inl (kA 0, 4, .inl (upd (lG z 2) a v))) = lW kA al (puZ z a 2 v) k := by
  unfold lW
  rw [lN_pu, lU_out (by omega) (by omega), lT_out (by omega) (by omega), lT_out (by omega) (by omega), lG_pu (by omega), lG_pu (by omega), lG_pu (by omega), lG_pu (by omega), lG_pu (by omega), lG_pu (by omega), if_neg (by omega), if_neg (by omega), if_pos rfl, if_neg (by omega), if_neg (by omega), if_neg (by omega)]
  rfl
theorem sg_3 : (lW kA al z k).set 4 (al 4, .inl (kA 0, 4, .inl (upd (lG z 3) a v))) = lW kA al (puZ z a 3 v) k := by
  unfold lW
  rw [lN_pu, lU_out (by omega) (by omega), lT_out (by omega) (by omega), lT_out (by omega) (by omega), lG_pu (by omega), lG_pu (by omega), lG_pu (by omega), lG_pu (by omega), lG_pu (by omega), lG_pu (by omega), if_neg (by omega), if_neg (by omega), if_neg (by omega), if_pos rfl, if_neg (by omega), if_neg (by omega)]
  rfl
theorem sg_4 : (lW kA al z k).set 5 (al 5, .inl (kA 0, 4, .inl (upd (lG z 4) a v))) = lW kA al (puZ z a 4 v) k := by
  unfold lW
  rw [lN_pu, lU_out (by omega) (by omega), lT_out (by omega) (by omega), lT_out (by omega) (by omega), lG_pu (by omega), lG_pu (by omega), lG_pu (by omega), lG_pu (by omega), lG_pu (by omega), lG_pu (by omega), if_neg (by omega), if_neg (by omega), if_neg (by omega), if_neg (by omega), if_pos rfl, if_neg (by omega)]
  rfl
theorem sg_5 : (lW kA al z k).set 6 (al 6, .inl (kA 0, 4, .inl (upd (lG z 5) a v))) = lW kA al (puZ z a 5 v) k := by
  unfold lW
  rw [lN_pu, lU_out (by omega) (by omega), lT_out (by omega) (by omega), lT_out (by omega) (by omega), lG_pu (by omega), lG_pu (by omega), lG_pu (by omega), lG_pu (by omega), lG_pu (by omega), lG_pu (by omega), if_neg (by omega), if_neg (by omega), if_neg (by omega), if_neg (by omega), if_neg (by omega), if_pos rfl]
  rfl
theorem su_r (hr : w < 5) : (lW kA al z k).set 7 (al 7, .inl (kA 0, 20, .inl (upd (lU z) (5 * a + w) v))) = lW kA al (puZ z a (6 + w) v) k := by
  unfold lW
  rw [lN_pu, lU_in hr, lT_out (by omega) (by omega), lT_out (by omega) (by omega), lG_pu (by omega), lG_pu (by omega), lG_pu (by omega), lG_pu (by omega), lG_pu (by omega), lG_pu (by omega), if_neg (by omega), if_neg (by omega), if_neg (by omega), if_neg (by omega), if_neg (by omega), if_neg (by omega)]
  rfl
theorem st_lo (hr : w < 12) : (lW kA al z k).set 8 (al 8, .inl (kA 0, 48, .inl (upd (lT z 11) (12 * a + w) v))) = lW kA al (puZ z a (11 + w) v) k := by
  unfold lW
  rw [lN_pu, lU_out (by omega) (by omega), lT_in hr (by omega), lT_out (by omega) (by omega), lG_pu (by omega), lG_pu (by omega), lG_pu (by omega), lG_pu (by omega), lG_pu (by omega), lG_pu (by omega), if_neg (by omega), if_neg (by omega), if_neg (by omega), if_neg (by omega), if_neg (by omega), if_neg (by omega)]
  rfl
theorem st_hi (hr : w < 12) : (lW kA al z k).set 9 (al 9, .inl (kA 0, 48, .inl (upd (lT z 23) (12 * a + w) v))) = lW kA al (puZ z a (23 + w) v) k := by
  unfold lW
  rw [lN_pu, lU_out (by omega) (by omega), lT_out (by omega) (by omega), lT_in hr (by omega), lG_pu (by omega), lG_pu (by omega), lG_pu (by omega), lG_pu (by omega), lG_pu (by omega), lG_pu (by omega), if_neg (by omega), if_neg (by omega), if_neg (by omega), if_neg (by omega), if_neg (by omega), if_neg (by omega)]
  rfl
end LW0
/-! indices -/
theorem ux {a r : Nat} {x : Int32} (hx : x = nI r) : 5 * nI a + x = nI (5 * a + r) := by
  subst hx
  rw [show (5 : Int32) = nI 5 from rfl, pk_mul, nI_add]
theorem ux0 {a : Nat} : 5 * nI a = nI (5 * a + 0) := by rw [show (5 : Int32) = nI 5 from rfl, pk_mul, Nat.add_zero]
theorem sx {j : Nat} : 3 + nI j = nI (3 + j) := by rw [show (3 : Int32) = nI 3 from rfl, nI_add]
theorem tx_lo {a t : Nat} : 12 * nI a + nI t = nI (12 * a + t) := by rw [show (12 : Int32) = nI 12 from rfl, pk_mul, nI_add]
theorem tx_hi {a t : Nat} (h : 12 ≤ t) : 12 * nI a + nI t - 12 = nI (12 * a + (t - 12)) := by
  rw [tx_lo, show (12 : Int32) = nI 12 from rfl, pk_sub (by omega)]
  congr 1
  omega
theorem vG {z : Nat → Int32} {a w : Nat} (ha : a < 4) : lG z w (nI a).toNatClampNeg = sl z a w := by rw [nI_clamp (by omega)]; rfl
theorem vU {z : Nat → Int32} {a r : Nat} {x : Int32} (hx : x = nI (5 * a + r)) (ha : a < 4) (hr : r < 5) : lU z x.toNatClampNeg = sl z a (6 + r) := by
  subst hx
  rw [nI_clamp (by omega)]
  unfold lU
  rw [show (5 * a + r) / 5 = a by omega, show (5 * a + r) % 5 = r by omega]
theorem vT {z : Nat → Int32} {a r o : Nat} {x : Int32} (hx : x = nI (12 * a + r)) (ha : a < 4) (hr : r < 12) : lT z o x.toNatClampNeg = sl z a (o + r) := by
  subst hx
  rw [nI_clamp (by omega)]
  unfold lT
  rw [show (12 * a + r) / 12 = a by omega, show (12 * a + r) % 12 = r by omega]
theorem vS {z : Nat → Int32} {k : Int32} {j : Nat} {x : Int32} (hx : x = nI (3 + j)) (hj : j < 6) : lN z k x.toNatClampNeg = z j := by
  subst hx
  rw [nI_clamp (by omega)]
  unfold lN
  rw [if_neg (by omega), if_neg (by omega), if_neg (by omega), if_pos (by omega), Nat.add_sub_cancel_left]
/-- the law's remainders -/
def atF (x n : Int32) : Int32 := (x.toUInt32 >>> 1).toInt32 - (x.toUInt32 >>> 1).toInt32 / n * n
