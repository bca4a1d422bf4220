/-! the class's world: 84 cells at the addresses ad 0 .. ad 83, their numbers in the rows X 0 .. X 9 (0 to 6: a state each, as one row of 148 numbers; 7: the trial axis; 8: newest, kept, length, and the reader's four; 9: the buffer) -/
def sl (z : Nat → Int32) (a : Nat) : Nat → Int32 := fun i => if i < 35 then z (i + (8 + 35 * a)) else 0
abbrev gA (ad : Nat → Nat) (r a : Nat) : Nat := ad (2 * (4 * r + a) + 5)
abbrev wA (ad : Nat → Nat) (r a : Nat) : Nat := ad (2 * (4 * r + a) + 6)
abbrev sA (ad : Nat → Nat) (r : Nat) : Nat := ad (3 * r + 63)
abbrev rA (ad : Nat → Nat) (r : Nat) : Nat := ad (3 * r + 64)
abbrev qA (ad : Nat → Nat) (r : Nat) : Nat := ad (3 * r + 65)
def sC (ad : Nat → Nat) (r : Nat) (z : Nat → Int32) : va_E := .inr (4, [.ref (rA ad r), .ref (qA ad r), .int (z 6), .int (z 7)])
def qC (kA ad : Nat → Nat) (r : Nat) : va_E := .inl (kA 1, 4, .inr (.inr (.inr (.inr (fun j => some (gA ad r j))))))
def aC (ad : Nat → Nat) (u : Nat → Int32) : va_E := .inr (5, [.ref (sA ad 0), .ref (ad 1), .ref (gA ad 7 0), .ref (ad 3), .ref (ad 4), .int (u 2)])
def hC (ad : Nat → Nat) (u : Nat → Int32) : va_E := .inr (1, [.ref (ad 2), .int (u 0), .int (u 1)])
def oC (kA ad : Nat → Nat) : va_E := .inl (kA 2, 6, .inr (.inr (.inr (.inr (fun j => some (sA ad (j + 1)))))))
def bC (kA : Nat → Nat) (t : Nat → Int32) : va_E := .inl (kA 0, 60, .inl t)
def qz (u : Nat → Int32) : Nat → Int32 := mkQ (u 3) (u 4) (u 5) (u 6)
def cX (kA ad : Nat → Nat) (X : Nat → Nat → Int32) (k : Nat) : va_E :=
  if k = 0 then aC ad (X 8) else if k = 1 then hC ad (X 8) else if k = 2 then oC kA ad else if k = 3 then dC (qz (X 8)) else if k = 4 then bC kA (X 9)
  else if k < 63 then (if k % 2 = 1 then gC (wA ad ((k - 5) / 8) ((k - 5) / 2 % 4)) (sl (X ((k - 5) / 8)) ((k - 5) / 2 % 4)) else wC kA (sl (X ((k - 5) / 8)) ((k - 5) / 2 % 4)))
  else if k % 3 = 0 then sC ad ((k - 63) / 3) (X ((k - 63) / 3)) else if k % 3 = 1 then rC (X ((k - 63) / 3)) else qC kA ad ((k - 63) / 3)
def cw (kA ad : Nat → Nat) (X : Nat → Nat → Int32) : va_W := (List.range 84).map fun k => (ad k, cX kA ad X k)
theorem cw_get {kA ad : Nat → Nat} {X : Nat → Nat → Int32} {k : Nat} (h : k < 84) {e : va_E} (he : cX kA ad X k = e) : (cw kA ad X)[k]? = some (ad k, e) := by
  subst he
  simp [cw, h]
theorem cw_len {kA ad : Nat → Nat} {X : Nat → Nat → Int32} : (cw kA ad X).length = 84 := by simp [cw]
theorem cw_inv {kA ad : Nat → Nat} {X : Nat → Nat → Int32} {k : Nat} {q : Nat × va_E} (h : (cw kA ad X)[k]? = some q) : k < 84 ∧ q = (ad k, cX kA ad X k) := by
  have hk : k < 84 := by rw [← cw_len (kA := kA) (ad := ad) (X := X)]; exact (List.getElem?_eq_some_iff.mp h).1
  exact ⟨hk, Option.some.inj (h.symm.trans (cw_get hk rfl))⟩
section CW
variable {kA ad : Nat → Nat} {X X' : Nat → Nat → Int32}
theorem cw_arm : (cw kA ad X)[0]? = some (ad 0, aC ad (X 8)) := cw_get (by omega) rfl
theorem cw_hist : (cw kA ad X)[1]? = some (ad 1, hC ad (X 8)) := cw_get (by omega) rfl
theorem cw_rows : (cw kA ad X)[2]? = some (ad 2, oC kA ad) := cw_get (by omega) rfl
theorem cw_read : (cw kA ad X)[3]? = some (ad 3, dC (qz (X 8))) := cw_get (by omega) rfl
theorem cw_buf : (cw kA ad X)[4]? = some (ad 4, bC kA (X 9)) := cw_get (by omega) rfl
theorem cX_gear {r a : Nat} (ha : a < 4) (hg : 4 * r + a < 29) : cX kA ad X (2 * (4 * r + a) + 5) = gC (wA ad r a) (sl (X r) a) := by
  have e1 : (2 * (4 * r + a) + 5 - 5) / 8 = r := by omega
  have e2 : (2 * (4 * r + a) + 5 - 5) / 2 % 4 = a := by omega
  rw [cX, if_neg (by omega), if_neg (by omega), if_neg (by omega), if_neg (by omega), if_neg (by omega), if_pos (by omega), if_pos (by omega), e1, e2]
theorem cX_wears {r a : Nat} (ha : a < 4) (hg : 4 * r + a < 29) : cX kA ad X (2 * (4 * r + a) + 6) = wC kA (sl (X r) a) := by
  have e1 : (2 * (4 * r + a) + 6 - 5) / 8 = r := by omega
  have e2 : (2 * (4 * r + a) + 6 - 5) / 2 % 4 = a := by omega
  rw [cX, if_neg (by omega), if_neg (by omega), if_neg (by omega), if_neg (by omega), if_neg (by omega), if_pos (by omega), if_neg (by omega), e1, e2]
theorem cX_state {r : Nat} : cX kA ad X (3 * r + 63) = sC ad r (X r) := by
  have e1 : (3 * r + 63 - 63) / 3 = r := by omega
  rw [cX, if_neg (by omega), if_neg (by omega), if_neg (by omega), if_neg (by omega), if_neg (by omega), if_neg (by omega), if_pos (by omega), e1]
theorem cX_rules {r : Nat} : cX kA ad X (3 * r + 64) = rC (X r) := by
  have e1 : (3 * r + 64 - 63) / 3 = r := by omega
  rw [cX, if_neg (by omega), if_neg (by omega), if_neg (by omega), if_neg (by omega), if_neg (by omega), if_neg (by omega), if_neg (by omega), if_pos (by omega), e1]
theorem cX_gears {r : Nat} : cX kA ad X (3 * r + 65) = qC kA ad r := by
  have e1 : (3 * r + 65 - 63) / 3 = r := by omega
  rw [cX, if_neg (by omega), if_neg (by omega), if_neg (by omega), if_neg (by omega), if_neg (by omega), if_neg (by omega), if_neg (by omega), if_neg (by omega), e1]
theorem cw_gear {r a : Nat} (ha : a < 4) (hg : 4 * r + a < 29) : (cw kA ad X)[2 * (4 * r + a) + 5]? = some (gA ad r a, gC (wA ad r a) (sl (X r) a)) := cw_get (by omega) (cX_gear ha hg)
theorem cw_wears {r a : Nat} (ha : a < 4) (hg : 4 * r + a < 29) : (cw kA ad X)[2 * (4 * r + a) + 6]? = some (wA ad r a, wC kA (sl (X r) a)) := cw_get (by omega) (cX_wears ha hg)
theorem cw_state {r : Nat} (hr : r < 7) : (cw kA ad X)[3 * r + 63]? = some (sA ad r, sC ad r (X r)) := cw_get (by omega) cX_state
theorem cw_rules {r : Nat} (hr : r < 7) : (cw kA ad X)[3 * r + 64]? = some (rA ad r, rC (X r)) := cw_get (by omega) cX_rules
theorem cw_gears {r : Nat} (hr : r < 7) : (cw kA ad X)[3 * r + 65]? = some (qA ad r, qC kA ad r) := cw_get (by omega) cX_gears
/-- which numbers a cell holds -/
def dep (j r i : Nat) : Prop :=
  (j = 0 ∧ r = 8 ∧ i = 2) ∨ (j = 1 ∧ r = 8 ∧ i < 2) ∨ (j = 3 ∧ r = 8 ∧ 3 ≤ i ∧ i < 7) ∨ (j = 4 ∧ r = 9) ∨ (5 ≤ j ∧ j < 63 ∧ r = (j - 5) / 8 ∧ 8 + 35 * ((j - 5) / 2 % 4) ≤ i ∧ i < 8 + 35 * ((j - 5) / 2 % 4) + 35) ∨ (63 ≤ j ∧ r = (j - 63) / 3 ∧ j % 3 = 0 ∧ 6 ≤ i ∧ i < 8) ∨ (63 ≤ j ∧ r = (j - 63) / 3 ∧ j % 3 = 1 ∧ i < 6)
theorem sl_eq {z z' : Nat → Int32} {a : Nat} (h : ∀ i, 8 + 35 * a ≤ i → i < 8 + 35 * a + 35 → z' i = z i) : sl z' a = sl z a := by
  funext i
  unfold sl
  by_cases hi : i < 35
  · rw [if_pos hi, if_pos hi]; exact h _ (by omega) (by omega)
  · rw [if_neg hi, if_neg hi]
theorem cX_eq {j : Nat} (h : ∀ r i, dep j r i → X' r i = X r i) : cX kA ad X' j = cX kA ad X j := by
  unfold cX
  by_cases h0 : j = 0
  · rw [if_pos h0, if_pos h0]; unfold aC; rw [h 8 2 (Or.inl ⟨h0, rfl, rfl⟩)]
  rw [if_neg h0, if_neg h0]
  by_cases h1 : j = 1
  · rw [if_pos h1, if_pos h1]; unfold hC; rw [h 8 0 (Or.inr (Or.inl ⟨h1, rfl, by omega⟩)), h 8 1 (Or.inr (Or.inl ⟨h1, rfl, by omega⟩))]
  rw [if_neg h1, if_neg h1]
  by_cases h2 : j = 2
  · rw [if_pos h2, if_pos h2]
  rw [if_neg h2, if_neg h2]
  by_cases h3 : j = 3
  · rw [if_pos h3, if_pos h3]
    have g : ∀ i, 3 ≤ i → i < 7 → X' 8 i = X 8 i := fun i a b => h 8 i (Or.inr (Or.inr (Or.inl ⟨h3, rfl, a, b⟩)))
    unfold qz; rw [g 3 (by omega) (by omega), g 4 (by omega) (by omega), g 5 (by omega) (by omega), g 6 (by omega) (by omega)]
  rw [if_neg h3, if_neg h3]
  by_cases h4 : j = 4
  · rw [if_pos h4, if_pos h4]
    have g : X' 9 = X 9 := funext fun i => h 9 i (Or.inr (Or.inr (Or.inr (Or.inl ⟨h4, rfl⟩))))
    rw [g]
  rw [if_neg h4, if_neg h4]
  by_cases h5 : j < 63
  · rw [if_pos h5, if_pos h5]
    have g : sl (X' ((j - 5) / 8)) ((j - 5) / 2 % 4) = sl (X ((j - 5) / 8)) ((j - 5) / 2 % 4) := sl_eq fun i a b => h _ i (Or.inr (Or.inr (Or.inr (Or.inr (Or.inl ⟨by omega, h5, rfl, a, b⟩)))))
    rw [g]
  rw [if_neg h5, if_neg h5]
  by_cases h6 : j % 3 = 0
  · rw [if_pos h6, if_pos h6]
    have g : ∀ i, 6 ≤ i → i < 8 → X' ((j - 63) / 3) i = X ((j - 63) / 3) i := fun i a b => h _ i (Or.inr (Or.inr (Or.inr (Or.inr (Or.inr (Or.inl ⟨by omega, rfl, h6, a, b⟩))))))
    unfold sC
    rw [g 6 (by omega) (by omega), g 7 (by omega) (by omega)]
  rw [if_neg h6, if_neg h6]
  by_cases h7 : j % 3 = 1
  · rw [if_pos h7, if_pos h7]
    have g : ∀ i, i < 6 → X' ((j - 63) / 3) i = X ((j - 63) / 3) i := fun i a => h _ i (Or.inr (Or.inr (Or.inr (Or.inr (Or.inr (Or.inr ⟨by omega, rfl, h7, a⟩))))))
    unfold rC
    rw [g 0 (by omega), g 1 (by omega), g 2 (by omega), g 3 (by omega), g 4 (by omega), g 5 (by omega)]
  rw [if_neg h7, if_neg h7]
theorem cw_fst : (cw kA ad X').map (fun q => q.1) = (cw kA ad X).map (fun q => q.1) := by unfold cw; rw [List.map_map, List.map_map]; rfl
theorem cw_D {A : Nat → Prop} (h : va_D A (cw kA ad X)) : va_D A (cw kA ad X') := h.congr cw_fst
theorem cw_set {k : Nat} (hk : k < 84) {e : va_E} (he : cX kA ad X' k = e) (hX : ∀ j, j < 84 → j ≠ k → cX kA ad X' j = cX kA ad X j) : (cw kA ad X).set k (ad k, e) = cw kA ad X' := by
  apply List.ext_getElem?
  intro j
  by_cases hj : j = k
  · subst hj
    rw [List.getElem?_set_self (by rw [cw_len]; exact hk), cw_get hk he]
  · rw [List.getElem?_set_ne (fun h => hj h.symm)]
    by_cases h84 : j < 84
    · rw [cw_get h84 rfl, cw_get h84 (hX j h84 hj)]
    · rw [List.getElem?_eq_none (by rw [cw_len]; omega), List.getElem?_eq_none (by rw [cw_len]; omega)]
def up2 (X : Nat → Nat → Int32) (r : Nat) (z : Nat → Int32) : Nat → Nat → Int32 := fun q => if q = r then z else X q
def up3 (X : Nat → Nat → Int32) (r i : Nat) (v : Int32) : Nat → Nat → Int32 := up2 X r (upd (X r) i v)
/-- the axis a of the row z becomes G -/
def inG (z : Nat → Int32) (a : Nat) (G : Nat → Int32) : Nat → Int32 := fun i => if 8 + 35 * a ≤ i ∧ i < 8 + 35 * a + 35 then G (i - (8 + 35 * a)) else z i
def upG (X : Nat → Nat → Int32) (r a : Nat) (G : Nat → Int32) : Nat → Nat → Int32 := up2 X r (inG (X r) a G)
def upQ (X : Nat → Nat → Int32) (Q : Nat → Int32) : Nat → Nat → Int32 := up2 X 8 (fun i => if 3 ≤ i ∧ i < 7 then Q (i - 3) else X 8 i)
theorem up2_s {r : Nat} {z : Nat → Int32} : up2 X r z r = z := if_pos rfl
theorem up2_n {r q : Nat} {z : Nat → Int32} (h : q ≠ r) : up2 X r z q = X q := if_neg h
theorem up3_ne {r i q k : Nat} {v : Int32} (h : q ≠ r ∨ k ≠ i) : up3 X r i v q k = X q k := by
  unfold up3
  by_cases hq : q = r
  · subst hq
    rw [up2_s]
    exact if_neg (h.elim (fun h => absurd rfl h) id)
  · rw [up2_n hq]
theorem up3_s {r i : Nat} {v : Int32} : up3 X r i v r i = v := by unfold up3; rw [up2_s]; exact if_pos rfl
theorem upG_ne {r a q k : Nat} {G : Nat → Int32} (h : q ≠ r ∨ k < 8 + 35 * a ∨ 8 + 35 * a + 35 ≤ k) : upG X r a G q k = X q k := by
  unfold upG
  by_cases hq : q = r
  · subst hq
    rw [up2_s]
    exact if_neg (h.elim (fun h => absurd rfl h) (fun h => by omega))
  · rw [up2_n hq]
theorem upG_s {r a : Nat} {G : Nat → Int32} {j : Nat} (hj : j < 35) : sl (upG X r a G r) a j = G j := by
  unfold upG sl inG
  rw [up2_s, if_pos hj, if_pos ⟨by omega, by omega⟩, Nat.add_sub_cancel]
theorem upQ_ne {Q : Nat → Int32} {q k : Nat} (h : q ≠ 8 ∨ k < 3 ∨ 7 ≤ k) : upQ X Q q k = X q k := by
  unfold upQ
  by_cases hq : q = 8
  · subst hq
    rw [up2_s]
    exact if_neg (h.elim (fun h => absurd rfl h) (fun h => by omega))
  · rw [up2_n hq]
end CW

