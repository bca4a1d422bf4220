/-! the law's own rows, as the arm's numbers: ten cells at al 0 .. al 9 over a row z and the count k of saved states -/
def lqN (z : Nat → Int32) (k : Int32) : Nat → Int32 := fun i => if i = 0 then z 6 else if i = 1 then z 7 else if i = 2 then k else if i < 9 then z (i - 3) else 0
def lqG (z : Nat → Int32) (w : Nat) : Nat → Int32 := fun b => sl z b w
def lqU (z : Nat → Int32) : Nat → Int32 := fun i => sl z (i / 5) (6 + i % 5)
def lqT (z : Nat → Int32) (o : Nat) : Nat → Int32 := fun i => sl z (i / 12) (o + i % 12)
def lqW (kA al : Nat → Nat) (z : Nat → Int32) (k : Int32) : va_W := [(al 0, .inl (kA 0, 9, .inl (lqN z k))), (al 1, .inl (kA 0, 4, .inl (lqG z 0))), (al 2, .inl (kA 0, 4, .inl (lqG z 1))), (al 3, .inl (kA 0, 4, .inl (lqG z 2))), (al 4, .inl (kA 0, 4, .inl (lqG z 3))), (al 5, .inl (kA 0, 4, .inl (lqG z 4))), (al 6, .inl (kA 0, 4, .inl (lqG z 5))), (al 7, .inl (kA 0, 20, .inl (lqU z))), (al 8, .inl (kA 0, 48, .inl (lqT z 11))), (al 9, .inl (kA 0, 48, .inl (lqT z 23)))]
section LW0
variable {kA al ad : Nat → Nat} {z z' : Nat → Int32} {k k' v : Int32} {a b w : Nat} {R : va_W}
theorem lw_0 : (lqW kA al z k)[0]? = some (al 0, .inl (kA 0, 9, .inl (lqN z k))) := rfl
theorem lwR_0 : (lqW kA al z k ++ R)[0]? = some (al 0, .inl (kA 0, 9, .inl (lqN z k))) := rfl
theorem lw_1 : (lqW kA al z k)[1]? = some (al 1, .inl (kA 0, 4, .inl (lqG z 0))) := rfl
theorem lwR_1 : (lqW kA al z k ++ R)[1]? = some (al 1, .inl (kA 0, 4, .inl (lqG z 0))) := rfl
theorem lw_2 : (lqW kA al z k)[2]? = some (al 2, .inl (kA 0, 4, .inl (lqG z 1))) := rfl
theorem lwR_2 : (lqW kA al z k ++ R)[2]? = some (al 2, .inl (kA 0, 4, .inl (lqG z 1))) := rfl
theorem lw_3 : (lqW kA al z k)[3]? = some (al 3, .inl (kA 0, 4, .inl (lqG z 2))) := rfl
theorem lwR_3 : (lqW kA al z k ++ R)[3]? = some (al 3, .inl (kA 0, 4, .inl (lqG z 2))) := rfl
theorem lw_4 : (lqW kA al z k)[4]? = some (al 4, .inl (kA 0, 4, .inl (lqG z 3))) := rfl
theorem lwR_4 : (lqW kA al z k ++ R)[4]? = some (al 4, .inl (kA 0, 4, .inl (lqG z 3))) := rfl
theorem lw_5 : (lqW kA al z k)[5]? = some (al 5, .inl (kA 0, 4, .inl (lqG z 4))) := rfl
theorem lwR_5 : (lqW kA al z k ++ R)[5]? = some (al 5, .inl (kA 0, 4, .inl (lqG z 4))) := rfl
theorem lw_6 : (lqW kA al z k)[6]? = some (al 6, .inl (kA 0, 4, .inl (lqG z 5))) := rfl
theorem lwR_6 : (lqW kA al z k ++ R)[6]? = some (al 6, .inl (kA 0, 4, .inl (lqG z 5))) := rfl
theorem lw_7 : (lqW kA al z k)[7]? = some (al 7, .inl (kA 0, 20, .inl (lqU z))) := rfl
theorem lwR_7 : (lqW kA al z k ++ R)[7]? = some (al 7, .inl (kA 0, 20, .inl (lqU z))) := rfl
theorem lw_8 : (lqW kA al z k)[8]? = some (al 8, .inl (kA 0, 48, .inl (lqT z 11))) := rfl
theorem lwR_8 : (lqW kA al z k ++ R)[8]? = some (al 8, .inl (kA 0, 48, .inl (lqT z 11))) := rfl
theorem lw_9 : (lqW kA al z k)[9]? = some (al 9, .inl (kA 0, 48, .inl (lqT z 23))) := rfl
theorem lwR_9 : (lqW kA al z k ++ R)[9]? = some (al 9, .inl (kA 0, 48, .inl (lqT z 23))) := rfl
theorem lw_fst : (lqW kA al z' k').map (fun q => q.1) = (lqW kA al z k).map (fun q => q.1) := rfl
theorem lw_Aw {q : Nat} (h : Aw (lqW kA al z' k') q) : Aw (lqW kA al z k) q := by
  obtain ⟨n, e, h1⟩ := h
  have h2 : ((lqW kA al z' k').map (fun q => q.1))[n]? = some q := by rw [List.getElem?_map, h1]; rfl
  rw [lw_fst (z := z) (k := k), List.getElem?_map] at h2
  cases h3 : (lqW kA al z k)[n]? with
  | none => rw [h3] at h2; cases h2
  | some y => rw [h3] at h2; exact ⟨n, y.2, by rw [h3]; cases h2; rfl⟩
theorem slp (hw : w < 35) {j : Nat} : sl (puZ z a w v) b j = if b = a ∧ j = w then v else sl z b j := by
  unfold sl puZ upd
  by_cases hj : j < 35
  · rw [if_pos hj, if_pos hj]
    by_cases h : b = a ∧ j = w
    · rw [if_pos h, if_pos (by omega)]
    · rw [if_neg h, if_neg (by omega)]
  · rw [if_neg hj, if_neg hj, if_neg (by omega)]
theorem lqN_pu : lqN (puZ z a w v) k = lqN z k := funext fun i => by
  unfold lqN
  rw [puZ_low (by omega), puZ_low (by omega)]
  by_cases h : i < 9
  · by_cases h2 : i < 3
    · rcases (by omega : i = 0 ∨ i = 1 ∨ i = 2) with rfl | rfl | rfl <;> rfl
    · rw [if_neg (by omega), if_neg (by omega), if_neg (by omega), if_pos h, if_neg (by omega), if_neg (by omega), if_neg (by omega), if_pos h, puZ_low (by omega)]
  · rw [if_neg (by omega), if_neg (by omega), if_neg (by omega), if_neg h, if_neg (by omega), if_neg (by omega), if_neg (by omega), if_neg h]
theorem lqG_pu (hw : w < 35) {j : Nat} : lqG (puZ z a w v) j = if j = w then upd (lqG z j) a v else lqG z j := by
  by_cases h : j = w
  · rw [if_pos h]
    funext b
    unfold lqG upd
    rw [slp hw]
    by_cases hb : b = a
    · rw [if_pos hb, if_pos ⟨hb, h⟩]
    · rw [if_neg hb, if_neg (fun q => hb q.1)]
  · rw [if_neg h]
    funext b
    unfold lqG
    rw [slp hw, if_neg (fun q => h q.2)]
theorem lqU_in (hr : w < 5) : lqU (puZ z a (6 + w) v) = upd (lqU z) (5 * a + w) v := funext fun i => by
  unfold lqU upd
  rw [slp (by omega)]
  by_cases h : i = 5 * a + w
  · rw [if_pos h, if_pos (by omega)]
  · rw [if_neg h, if_neg (by omega)]
theorem lqU_out (hw : w < 35) (h : w < 6 ∨ 11 ≤ w) : lqU (puZ z a w v) = lqU z := funext fun i => by
  unfold lqU
  rw [slp hw, if_neg (by omega)]
theorem lqT_in {o : Nat} (hr : w < 12) (ho : o + 12 ≤ 35) : lqT (puZ z a (o + w) v) o = upd (lqT z o) (12 * a + w) v := funext fun i => by
  unfold lqT upd
  rw [slp (by omega)]
  by_cases h : i = 12 * a + w
  · rw [if_pos h, if_pos (by omega)]
  · rw [if_neg h, if_neg (by omega)]
theorem lqT_out {o : Nat} (hw : w < 35) (h : w < o ∨ o + 12 ≤ w) : lqT (puZ z a w v) o = lqT z o := funext fun i => by
  unfold lqT
  rw [slp hw, if_neg (by omega)]
theorem lqG_up {i j : Nat} (hi : i < 8) : lqG (upd z i v) j = lqG z j := funext fun b => by unfold lqG; rw [sl_up hi]
theorem lqU_up {i : Nat} (hi : i < 8) : lqU (upd z i v) = lqU z := funext fun b => by unfold lqU; rw [sl_up hi]
theorem lqT_up {i o : Nat} (hi : i < 8) : lqT (upd z i v) o = lqT z o := funext fun b => by unfold lqT; rw [sl_up hi]
theorem lqN_hi {i : Nat} (h : ¬ i < 9) : lqN z k i = 0 := by unfold lqN; rw [if_neg (by omega), if_neg (by omega), if_neg (by omega), if_neg h]
theorem lqN_k {i : Nat} (h : ¬ i = 2) : lqN z k i = lqN z k' i := by unfold lqN; rw [if_neg h, if_neg h]
theorem lqN_0 : upd (lqN z k) 0 v = lqN (upd z 6 v) k := funext fun i => by
  by_cases h : i < 9
  · rcases (by omega : i = 0 ∨ i = 1 ∨ i = 2 ∨ i = 3 ∨ i = 4 ∨ i = 5 ∨ i = 6 ∨ i = 7 ∨ i = 8) with rfl | rfl | rfl | rfl | rfl | rfl | rfl | rfl | rfl <;> rfl
  · exact (upd_ne (by omega)).trans ((lqN_hi h).trans (lqN_hi h).symm)
theorem lqN_1 : upd (lqN z k) 1 v = lqN (upd z 7 v) k := funext fun i => by
  by_cases h : i < 9
  · rcases (by omega : i = 0 ∨ i = 1 ∨ i = 2 ∨ i = 3 ∨ i = 4 ∨ i = 5 ∨ i = 6 ∨ i = 7 ∨ i = 8) with rfl | rfl | rfl | rfl | rfl | rfl | rfl | rfl | rfl <;> rfl
  · exact (upd_ne (by omega)).trans ((lqN_hi h).trans (lqN_hi h).symm)
theorem lqN_2 : upd (lqN z k) 2 v = lqN z v := funext fun i => by
  by_cases h : i = 2
  · subst h; rfl
  · exact (upd_ne h).trans (lqN_k h)
theorem lqN_s {j : Nat} (hj : j < 6) : upd (lqN z k) (3 + j) v = lqN (upd z j v) k := funext fun i => by
  rcases (by omega : j = 0 ∨ j = 1 ∨ j = 2 ∨ j = 3 ∨ j = 4 ∨ j = 5) with rfl | rfl | rfl | rfl | rfl | rfl <;>
  · by_cases h : i < 9
    · rcases (by omega : i = 0 ∨ i = 1 ∨ i = 2 ∨ i = 3 ∨ i = 4 ∨ i = 5 ∨ i = 6 ∨ i = 7 ∨ i = 8) with rfl | rfl | rfl | rfl | rfl | rfl | rfl | rfl | rfl <;> rfl
    · exact (upd_ne (by omega)).trans ((lqN_hi h).trans (lqN_hi h).symm)
/-- single stores -/
theorem sn_0 : (lqW kA al z k).set 0 (al 0, .inl (kA 0, 9, .inl (upd (lqN z k) 0 v))) = lqW kA al (upd z 6 v) k := by
  unfold lqW
  rw [lqN_0, lqG_up (by omega), lqG_up (by omega), lqG_up (by omega), lqG_up (by omega), lqG_up (by omega), lqG_up (by omega), lqU_up (by omega), lqT_up (by omega), lqT_up (by omega)]
  rfl
theorem sn_1 : (lqW kA al z k).set 0 (al 0, .inl (kA 0, 9, .inl (upd (lqN z k) 1 v))) = lqW kA al (upd z 7 v) k := by
  unfold lqW
  rw [lqN_1, lqG_up (by omega), lqG_up (by omega), lqG_up (by omega), lqG_up (by omega), lqG_up (by omega), lqG_up (by omega), lqU_up (by omega), lqT_up (by omega), lqT_up (by omega)]
  rfl
theorem sn_2 : (lqW kA al z k).set 0 (al 0, .inl (kA 0, 9, .inl (upd (lqN z k) 2 v))) = lqW kA al z v := by
  unfold lqW
  rw [lqN_2]
  rfl
theorem sn_s {j : Nat} (hj : j < 6) : (lqW kA al z k).set 0 (al 0, .inl (kA 0, 9, .inl (upd (lqN z k) (3 + j) v))) = lqW kA al (upd z j v) k := by
  unfold lqW
  rw [lqN_s hj, lqG_up (by omega), lqG_up (by omega), lqG_up (by omega), lqG_up (by omega), lqG_up (by omega), lqG_up (by omega), lqU_up (by omega), lqT_up (by omega), lqT_up (by omega)]
  rfl
theorem sg_0 : (lqW kA al z k).set 1 (al 1, .inl (kA 0, 4, .inl (upd (lqG z 0) a v))) = lqW kA al (puZ z a 0 v) k := by
  unfold lqW
  rw [lqN_pu, lqU_out (by omega) (by omega), lqT_out (by omega) (by omega), lqT_out (by omega) (by omega), lqG_pu (by omega), lqG_pu (by omega), lqG_pu (by omega), lqG_pu (by omega), lqG_pu (by omega), lqG_pu (by omega), if_pos rfl, if_neg (by omega), if_neg (by omega), if_neg (by omega), if_neg (by omega), if_neg (by omega)]
  rfl
theorem sg_1 : (lqW kA al z k).set 2 (al 2, .inl (kA 0, 4, .inl (upd (lqG z 1) a v))) = lqW kA al (puZ z a 1 v) k := by
  unfold lqW
  rw [lqN_pu, lqU_out (by omega) (by omega), lqT_out (by omega) (by omega), lqT_out (by omega) (by omega), lqG_pu (by omega), lqG_pu (by omega), lqG_pu (by omega), lqG_pu (by omega), lqG_pu (by omega), lqG_pu (by omega), if_neg (by omega), if_pos rfl, if_neg (by omega), if_neg (by omega), if_neg (by omega), if_neg (by omega)]
  rfl
theorem sg_2 : (lqW kA al z k).set 3 (al 3, .inl (kA 0, 4, .inl (upd (lqG z 2) a v))) = lqW kA al (puZ z a 2 v) k := by
  unfold lqW
  rw [lqN_pu, lqU_out (by omega) (by omega), lqT_out (by omega) (by omega), lqT_out (by omega) (by omega), lqG_pu (by omega), lqG_pu (by omega), lqG_pu (by omega), lqG_pu (by omega), lqG_pu (by omega), lqG_pu (by omega), if_neg (by omega), if_neg (by omega), if_pos rfl, if_neg (by omega), if_neg (by omega), if_neg (by omega)]
  rfl
theorem sg_3 : (lqW kA al z k).set 4 (al 4, .inl (kA 0, 4, .inl (upd (lqG z 3) a v))) = lqW kA al (puZ z a 3 v) k := by
  unfold lqW
  rw [lqN_pu, lqU_out (by omega) (by omega), lqT_out (by omega) (by omega), lqT_out (by omega) (by omega), lqG_pu (by omega), lqG_pu (by omega), lqG_pu (by omega), lqG_pu (by omega), lqG_pu (by omega), lqG_pu (by omega), if_neg (by omega), if_neg (by omega), if_neg (by omega), if_pos rfl, if_neg (by omega), if_neg (by omega)]
  rfl
theorem sg_4 : (lqW kA al z k).set 5 (al 5, .inl (kA 0, 4, .inl (upd (lqG z 4) a v))) = lqW kA al (puZ z a 4 v) k := by
  unfold lqW
  rw [lqN_pu, lqU_out (by omega) (by omega), lqT_out (by omega) (by omega), lqT_out (by omega) (by omega), lqG_pu (by omega), lqG_pu (by omega), lqG_pu (by omega), lqG_pu (by omega), lqG_pu (by omega), lqG_pu (by omega), if_neg (by omega), if_neg (by omega), if_neg (by omega), if_neg (by omega), if_pos rfl, if_neg (by omega)]
  rfl
theorem sg_5 : (lqW kA al z k).set 6 (al 6, .inl (kA 0, 4, .inl (upd (lqG z 5) a v))) = lqW kA al (puZ z a 5 v) k := by
  unfold lqW
  rw [lqN_pu, lqU_out (by omega) (by omega), lqT_out (by omega) (by omega), lqT_out (by omega) (by omega), lqG_pu (by omega), lqG_pu (by omega), lqG_pu (by omega), lqG_pu (by omega), lqG_pu (by omega), lqG_pu (by omega), if_neg (by omega), if_neg (by omega), if_neg (by omega), if_neg (by omega), if_neg (by omega), if_pos rfl]
  rfl
theorem su_r (hr : w < 5) : (lqW kA al z k).set 7 (al 7, .inl (kA 0, 20, .inl (upd (lqU z) (5 * a + w) v))) = lqW kA al (puZ z a (6 + w) v) k := by
  unfold lqW
  rw [lqN_pu, lqU_in hr, lqT_out (by omega) (by omega), lqT_out (by omega) (by omega), lqG_pu (by omega), lqG_pu (by omega), lqG_pu (by omega), lqG_pu (by omega), lqG_pu (by omega), lqG_pu (by omega), if_neg (by omega), if_neg (by omega), if_neg (by omega), if_neg (by omega), if_neg (by omega), if_neg (by omega)]
  rfl
theorem st_lo (hr : w < 12) : (lqW kA al z k).set 8 (al 8, .inl (kA 0, 48, .inl (upd (lqT z 11) (12 * a + w) v))) = lqW kA al (puZ z a (11 + w) v) k := by
  unfold lqW
  rw [lqN_pu, lqU_out (by omega) (by omega), lqT_in hr (by omega), lqT_out (by omega) (by omega), lqG_pu (by omega), lqG_pu (by omega), lqG_pu (by omega), lqG_pu (by omega), lqG_pu (by omega), lqG_pu (by omega), if_neg (by omega), if_neg (by omega), if_neg (by omega), if_neg (by omega), if_neg (by omega), if_neg (by omega)]
  rfl
theorem st_hi (hr : w < 12) : (lqW kA al z k).set 9 (al 9, .inl (kA 0, 48, .inl (upd (lqT z 23) (12 * a + w) v))) = lqW kA al (puZ z a (23 + w) v) k := by
  unfold lqW
  rw [lqN_pu, lqU_out (by omega) (by omega), lqT_out (by omega) (by omega), lqT_in hr (by omega), lqG_pu (by omega), lqG_pu (by omega), lqG_pu (by omega), lqG_pu (by omega), lqG_pu (by omega), lqG_pu (by omega), if_neg (by omega), if_neg (by omega), if_neg (by omega), if_neg (by omega), if_neg (by omega), if_neg (by omega)]
  rfl
end LW0
/-! indices -/
theorem ux {a r : Nat} {x : Int32} (hx : x = nI r) : 5 * nI a + x = nI (5 * a + r) := by
  subst hx
  rw [show (5 : Int32) = nI 5 from rfl, pk_mul, nI_add]
theorem ux0 {a : Nat} : 5 * nI a = nI (5 * a + 0) := by rw [show (5 : Int32) = nI 5 from rfl, pk_mul, Nat.add_zero]
theorem sx {j : Nat} : 3 + nI j = nI (3 + j) := by rw [show (3 : Int32) = nI 3 from rfl, nI_add]
theorem tx_lo {a t : Nat} : 12 * nI a + nI t = nI (12 * a + t) := by rw [show (12 : Int32) = nI 12 from rfl, pk_mul, nI_add]
theorem tx_hi {a t : Nat} (h : 12 ≤ t) : 12 * nI a + nI t - 12 = nI (12 * a + (t - 12)) := by
  rw [tx_lo, show (12 : Int32) = nI 12 from rfl, pk_sub (by omega)]
  congr 1
  omega
theorem vG {z : Nat → Int32} {a w : Nat} (ha : a < 4) : lqG z w (nI a).toNatClampNeg = sl z a w := by rw [nI_clamp (by omega)]; rfl
theorem vU {z : Nat → Int32} {a r : Nat} {x : Int32} (hx : x = nI (5 * a + r)) (ha : a < 4) (hr : r < 5) : lqU z x.toNatClampNeg = sl z a (6 + r) := by
  subst hx
  rw [nI_clamp (by omega)]
  unfold lqU
  rw [show (5 * a + r) / 5 = a by omega, show (5 * a + r) % 5 = r by omega]
theorem vT {z : Nat → Int32} {a r o : Nat} {x : Int32} (hx : x = nI (12 * a + r)) (ha : a < 4) (hr : r < 12) : lqT z o x.toNatClampNeg = sl z a (o + r) := by
  subst hx
  rw [nI_clamp (by omega)]
  unfold lqT
  rw [show (12 * a + r) / 12 = a by omega, show (12 * a + r) % 12 = r by omega]
theorem vS {z : Nat → Int32} {k : Int32} {j : Nat} {x : Int32} (hx : x = nI (3 + j)) (hj : j < 6) : lqN z k x.toNatClampNeg = z j := by
  subst hx
  rw [nI_clamp (by omega)]
  unfold lqN
  rw [if_neg (by omega), if_neg (by omega), if_neg (by omega), if_pos (by omega), Nat.add_sub_cancel_left]
/-- the law's remainders -/
def atF (x n : Int32) : Int32 := (x.toUInt32 >>> 1).toInt32 - (x.toUInt32 >>> 1).toInt32 / n * n
theorem set_ap {kA al : Nat → Nat} {z : Nat → Int32} {k : Int32} {R : va_W} {i : Nat} {x : Nat × va_E} (h : i < 10) : (lqW kA al z k ++ R).set i x = (lqW kA al z k).set i x ++ R := List.set_append_left i x h
section YV
variable {p : Program} {l : Launch} {e : Env} {R : Room} {s : State} {m : MethodId} {args : Array Value} {below : List Frame} {meth : Method} {c : Code} {H : Heap} {locs : List Loc} {cells slots : Nat}
variable {pc : Nat} {ls : Array Slot} {rest st0 : List Value} {D : va_G} {tys : List (ClassId × FieldType)}
variable {y : MethodName} {bytes cc : ByteArray} {maxL nL n idx ci N : Nat} {ret : Option FieldType} {rm : Room} {own C : String} {T : u_T} {b : Addr} {fs As : List Value} {ws : va_W} {A : Nat → Prop}
theorem yrunV {Qc : Array Value → State → Outcome → State → Prop} {free : Addr → Prop} {mc ms : Nat} (S : CallFix p m c cc nL s args AW own) (hM : Met l y (Cond.code y bytes maxL ret :: AW) rm (Px (.ref b :: As) D tys ws) Qc mc ms free)
    (h1 : Cond.methodLink own idx y ∈ AW) (h2 : Cond.instanceMethod y ∈ AW) (h3 : Cond.selects C y y ∈ AW) (h4 : Cond.initialized y.cls ∈ AW) (h5 : Cond.code y bytes maxL ret ∈ AW)
    (hd : y.cls ≠ "java/lang/invoke/MethodHandle" ∧ y.cls ≠ "java/lang/invoke/VarHandle" ∧ (parseMethodDescriptor y.desc).map (fun d => d.parameters.length) = some n) (hrm : rm.cells = mc ∧ rm.slots = ms) (hR : rm.frames + 1 ≤ R.frames ∧ 8 + (maxL + 11) + rm.locals ≤ R.locals)
    (hK : va_K D vwCl tys s) (hP : va_P D vwCl ws H) (hD : va_D A ws) (hX : XW (Aw ws) s H) (q0 : Nat) (hc : vwCl[ci]? = some (C, T, N)) (he : ws[q0]? = some (b, .inr (ci, fs)))
    (hn : As.length = n) (hsize : ls.size = nL) (hst : st0 = As.reverse ++ .ref b :: rest) (hW : (rest.map fun v => v.category).sum ≤ 8) (hdg : decode cc pc = .ok (.invokevirtual idx, 3)) (hf : cells + mc ≤ R.cells ∧ slots + ms ≤ R.slots) :
    va_Run p l e R s m args below meth c H locs cells slots mc ms (F0 m pc ls st0) rest (Qc (Value.ref b :: As).toArray) free :=
  va_runV S hM ⟨callB_of n S.2.2.2.2 (gAW h5) rfl hrm.1 hrm.2 (S.2.2.2.2 _ h4) (S.2.2.2.2 _ h1) hd hR, S.2.2.2.2 _ h2, S.2.2.2.2 _ h3⟩ ⟨Px.blind, va_recv hK hP hc he, Px.pre hP hK hD hX⟩ rfl hn hsize hst (lv_room hW) hdg hf
end YV
/-! pure rows of the law's small methods -/
theorem wI_p {up : Bool} (h : 0 < wI up) : up = true := by cases up; exact absurd h (by decide); rfl
theorem wI_m {up : Bool} (h : ¬ 0 < wI up) : up = false := by cases up; rfl; exact absurd (by decide) h
theorem tw_t {x : Int32} {up : Bool} (h : 0 < wI up) : x = tW x (wI up) := by rw [wI_p h]; exact (if_pos rfl).symm
theorem tw_0 {x : Int32} {up : Bool} (h : ¬ 0 < wI up) (h0 : x = 0) : 23 = tW x (wI up) := by rw [wI_m h, h0]; rfl
theorem tw_1 {x : Int32} {q : Nat} {up : Bool} (h : ¬ 0 < wI up) (hx : x = nI q) (hq : q < 24) (h0 : ¬ x = 0) : x - 1 = tW x (wI up) := by
  rw [wI_m h]
  have : ∀ q, q < 24 → ¬ nI q = 0 → nI q - 1 = tW (nI q) (wI false) := by decide +kernel
  subst hx; exact this q hq h0
theorem nw_t0 {x : Int32} {up : Bool} (h : 0 < wI up) (h0 : x = 23) : 0 = nW x (wI up) := by rw [wI_p h, h0]; decide
theorem nw_t1 {x : Int32} {q : Nat} {up : Bool} (h : 0 < wI up) (hx : x = nI q) (hq : q < 24) (h0 : ¬ x = 23) : x + 1 = nW x (wI up) := by
  rw [wI_p h]
  have : ∀ q, q < 24 → ¬ nI q = 23 → nI q + 1 = nW (nI q) (wI true) := by decide +kernel
  subst hx; exact this q hq h0
theorem nw_f0 {x : Int32} {up : Bool} (h : ¬ 0 < wI up) (h0 : x = 0) : 23 = nW x (wI up) := by rw [wI_m h, h0]; decide
theorem nw_f1 {x : Int32} {q : Nat} {up : Bool} (h : ¬ 0 < wI up) (hx : x = nI q) (hq : q < 24) (h0 : ¬ x = 0) : x - 1 = nW x (wI up) := by
  rw [wI_m h]
  have : ∀ q, q < 24 → ¬ nI q = 0 → nI q - 1 = nW (nI q) (wI false) := by decide +kernel
  subst hx; exact this q hq h0
theorem t12 {t : Nat} (ht : t < 24) (h : nI t < 12) : t < 12 := (nI_ltI (b := 12) (by omega) (by omega)).mp h
theorem t12n {t : Nat} (ht : t < 24) (h : ¬ nI t < 12) : 12 ≤ t := Nat.le_of_not_lt fun q => h ((nI_ltI (b := 12) (by omega) (by omega)).mpr q)
theorem wr_lo {z : Nat → Int32} {a t : Nat} (ht : t < 24) : sl z a (11 + t) = gwr (sl z a) (nI t) := by rw [gwr_in rfl ht, Nat.add_comm]
theorem wr_hi {z : Nat → Int32} {a t : Nat} (ht : t < 24) (h : 12 ≤ t) : sl z a (23 + (t - 12)) = gwr (sl z a) (nI t) := by rw [gwr_in rfl ht]; congr 1; omega
theorem toll_n {z : Nat → Int32} {ld we : Int32} (h1 : bd ld 5) (h2 : bd we 99) (hI : Inv z) : ∃ n : Nat, n ≤ 105 ∧ 1 + ld + we / z 1 = nI n := by
  obtain ⟨n, -, h4, h5⟩ := toll_in (gl := 0) h1 h2 hI.1.2.1
  rw [tl_pos hI.pt, if_neg (by decide)] at h5
  exact ⟨n, h4, h5⟩
theorem tl_f {z : Nat → Int32} {ld we gl : Int32} (hI : Inv z) (h : ¬ 0 < gl) : 1 + ld + we / z 1 = tlF ld we gl (z 1) := by rw [tl_pos hI.pt, if_neg h]
theorem tl_t {z : Nat → Int32} {ld we gl : Int32} (h1 : bd ld 5) (h2 : bd we 99) (hI : Inv z) (h : 0 < gl) : (1 + ld + we / z 1) / 2 + ((1 + ld + we / z 1) - (1 + ld + we / z 1) / 2 * 2) = tlF ld we gl (z 1) := by
  rw [tl_pos hI.pt, if_pos h]
  obtain ⟨n, hn, e⟩ := toll_n h1 h2 hI
  rw [e]
  have : ∀ n, n < 106 → nI n / 2 + (nI n - nI n / 2 * 2) = (nI n + 1) / 2 := by decide +kernel
  exact this n (by omega)
theorem bI_if {p : Prop} [Decidable p] : (if p then (1 : Int32) else 0) = bI (decide p) := by
  by_cases h : p
  · rw [if_pos h, decide_eq_true h]; rfl
  · rw [if_neg h, decide_eq_false h]; rfl
theorem bI_d0 {p : Prop} [Decidable p] (h : bI (decide p) = 0) : ¬ p := fun q => by rw [decide_eq_true q] at h; exact absurd h (by decide)
theorem bI_d1 {p : Prop} [Decidable p] (h : ¬ bI (decide p) = 0) : p := Classical.byContradiction fun q => h (by rw [decide_eq_false q]; rfl)
