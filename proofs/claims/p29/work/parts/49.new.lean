/-! the class's world as its constructor leaves it -/
def eP (q : Nat) (d : Nat → Nat) (i : Nat) : Nat := if i = 0 then q else d (i - 1)
def sbP (r : Nat) : Nat := if r = 0 then 1 else 14 + 11 * (r - 1)
def ppK (k : Nat) : Nat :=
  if k = 0 then 0 else if k = 1 then 12 else if k = 2 then 13 else if k = 3 then 82 else if k = 4 then 83
  else if k < 61 then sbP ((k - 5) / 8) + 3 + 2 * ((k - 5) / 2 % 4) + (k - 5) % 2 else if k < 63 then 80 + (k - 61) else sbP ((k - 63) / 3) + (k - 63) % 3
def adI (q : Nat) (d : Nat → Nat) (k : Nat) : Nat := eP q d (ppK k)
def XI : Nat → Nat → Int32 := fun r => if r < 7 then zI else z0
theorem slI {a t : Nat} : sl zI a (t + 11) = z0 (t + 11) := by
  unfold sl zI rI
  by_cases h : t + 11 < 35
  · rw [if_pos h, if_neg (by omega), if_neg (by omega), if_neg (by omega), if_neg (by omega), if_neg (by omega), if_neg (by omega), if_neg (by omega)]; rfl
  · rw [if_neg h]; rfl
theorem slZ {a t : Nat} : sl z0 a (t + 11) = z0 (t + 11) := by
  unfold sl
  by_cases h : t + 11 < 35
  · rw [if_pos h]; rfl
  · rw [if_neg h]; rfl
theorem ppK_inj : ∀ i, i < 84 → ∀ j, j < 84 → ppK i = ppK j → i = j := by decide +kernel
theorem ppK_lt : ∀ i, i < 84 → ppK i < 84 := by decide +kernel
section NEW
variable {D : va_G} {kA : Nat → Nat} {q : Nat} {d : Nat → Nat} {H : Heap} {A : Nat → Prop}
theorem aB_fst : (aB kA q d).map (fun x => x.1) = (List.range 84).map (eP q d) := rfl
theorem aB_at {p : Nat} (h : p < 84) : ∃ e, (aB kA q d)[p]? = some (eP q d p, e) := by
  have h1 : ((aB kA q d).map (fun x => x.1))[p]? = some (eP q d p) := by rw [aB_fst, List.getElem?_map, List.getElem?_range h]; rfl
  rw [List.getElem?_map] at h1
  cases hq : (aB kA q d)[p]? with
  | none => rw [hq] at h1; cases h1
  | some x => rw [hq] at h1; exact ⟨x.2, by rw [← Option.some.inj h1]⟩
theorem cw_newD (hD : va_D A (aB kA q d)) : va_D A (cw kA (adI q d) XI) := by
  refine ⟨fun i j x y hx hy hxy => ?_, fun k x hk => ?_⟩
  · obtain ⟨hi, rfl⟩ := cw_inv hx
    obtain ⟨hj, rfl⟩ := cw_inv hy
    obtain ⟨e1, h1⟩ := aB_at (kA := kA) (q := q) (d := d) (ppK_lt i hi)
    obtain ⟨e2, h2⟩ := aB_at (kA := kA) (q := q) (d := d) (ppK_lt j hj)
    exact ppK_inj i hi j hj (hD.1 _ _ _ _ h1 h2 hxy)
  · obtain ⟨hi, rfl⟩ := cw_inv hk
    obtain ⟨e1, h1⟩ := aB_at (kA := kA) (q := q) (d := d) (ppK_lt k hi)
    show A (eP q d (ppK k))
    exact hD.2 _ _ h1

theorem nk_0 (h : va_P D vwCl (aB kA q d) H) : va_at D vwCl (adI q d 0, cX kA (adI q d) XI 0) H := h 0 _ rfl
theorem nk_1 (h : va_P D vwCl (aB kA q d) H) : va_at D vwCl (adI q d 1, cX kA (adI q d) XI 1) H := h 12 _ rfl
theorem nk_2 (h : va_P D vwCl (aB kA q d) H) : va_at D vwCl (adI q d 2, cX kA (adI q d) XI 2) H := by
  show va_at D vwCl (adI q d 2, oC kA (adI q d)) H
  exact at_refs (f := fun j => some (d (12 + (1 + 11 * j)))) (h 13 _ rfl) (fun j hj => by rcases (show j = 0 ∨ j = 1 ∨ j = 2 ∨ j = 3 ∨ j = 4 ∨ j = 5 by omega) with rfl | rfl | rfl | rfl | rfl | rfl <;> rfl)
theorem nk_3 (h : va_P D vwCl (aB kA q d) H) : va_at D vwCl (adI q d 3, cX kA (adI q d) XI 3) H := h 82 _ rfl
theorem nk_4 (h : va_P D vwCl (aB kA q d) H) : va_at D vwCl (adI q d 4, cX kA (adI q d) XI 4) H := h 83 _ rfl
theorem nk_5 (h : va_P D vwCl (aB kA q d) H) : va_at D vwCl (adI q d 5, cX kA (adI q d) XI 5) H := h 4 _ rfl
theorem nk_6 (h : va_P D vwCl (aB kA q d) H) : va_at D vwCl (adI q d 6, cX kA (adI q d) XI 6) H := by
  show va_at D vwCl (adI q d 6, wC kA (sl (XI 0) 0)) H
  exact va_P.wears (G := z0) (h 5 (adI q d 6, wC kA z0) rfl) (fun t _ => slI)
theorem nk_7 (h : va_P D vwCl (aB kA q d) H) : va_at D vwCl (adI q d 7, cX kA (adI q d) XI 7) H := h 6 _ rfl
theorem nk_8 (h : va_P D vwCl (aB kA q d) H) : va_at D vwCl (adI q d 8, cX kA (adI q d) XI 8) H := by
  show va_at D vwCl (adI q d 8, wC kA (sl (XI 0) 1)) H
  exact va_P.wears (G := z0) (h 7 (adI q d 8, wC kA z0) rfl) (fun t _ => slI)
theorem nk_9 (h : va_P D vwCl (aB kA q d) H) : va_at D vwCl (adI q d 9, cX kA (adI q d) XI 9) H := h 8 _ rfl
theorem nk_10 (h : va_P D vwCl (aB kA q d) H) : va_at D vwCl (adI q d 10, cX kA (adI q d) XI 10) H := by
  show va_at D vwCl (adI q d 10, wC kA (sl (XI 0) 2)) H
  exact va_P.wears (G := z0) (h 9 (adI q d 10, wC kA z0) rfl) (fun t _ => slI)
theorem nk_11 (h : va_P D vwCl (aB kA q d) H) : va_at D vwCl (adI q d 11, cX kA (adI q d) XI 11) H := h 10 _ rfl
theorem nk_12 (h : va_P D vwCl (aB kA q d) H) : va_at D vwCl (adI q d 12, cX kA (adI q d) XI 12) H := by
  show va_at D vwCl (adI q d 12, wC kA (sl (XI 0) 3)) H
  exact va_P.wears (G := z0) (h 11 (adI q d 12, wC kA z0) rfl) (fun t _ => slI)
theorem nk_13 (h : va_P D vwCl (aB kA q d) H) : va_at D vwCl (adI q d 13, cX kA (adI q d) XI 13) H := h 17 _ rfl
theorem nk_14 (h : va_P D vwCl (aB kA q d) H) : va_at D vwCl (adI q d 14, cX kA (adI q d) XI 14) H := by
  show va_at D vwCl (adI q d 14, wC kA (sl (XI 1) 0)) H
  exact va_P.wears (G := z0) (h 18 (adI q d 14, wC kA z0) rfl) (fun t _ => slI)
theorem nk_15 (h : va_P D vwCl (aB kA q d) H) : va_at D vwCl (adI q d 15, cX kA (adI q d) XI 15) H := h 19 _ rfl
theorem nk_16 (h : va_P D vwCl (aB kA q d) H) : va_at D vwCl (adI q d 16, cX kA (adI q d) XI 16) H := by
  show va_at D vwCl (adI q d 16, wC kA (sl (XI 1) 1)) H
  exact va_P.wears (G := z0) (h 20 (adI q d 16, wC kA z0) rfl) (fun t _ => slI)
theorem nk_17 (h : va_P D vwCl (aB kA q d) H) : va_at D vwCl (adI q d 17, cX kA (adI q d) XI 17) H := h 21 _ rfl
theorem nk_18 (h : va_P D vwCl (aB kA q d) H) : va_at D vwCl (adI q d 18, cX kA (adI q d) XI 18) H := by
  show va_at D vwCl (adI q d 18, wC kA (sl (XI 1) 2)) H
  exact va_P.wears (G := z0) (h 22 (adI q d 18, wC kA z0) rfl) (fun t _ => slI)
theorem nk_19 (h : va_P D vwCl (aB kA q d) H) : va_at D vwCl (adI q d 19, cX kA (adI q d) XI 19) H := h 23 _ rfl
theorem nk_20 (h : va_P D vwCl (aB kA q d) H) : va_at D vwCl (adI q d 20, cX kA (adI q d) XI 20) H := by
  show va_at D vwCl (adI q d 20, wC kA (sl (XI 1) 3)) H
  exact va_P.wears (G := z0) (h 24 (adI q d 20, wC kA z0) rfl) (fun t _ => slI)
theorem nk_21 (h : va_P D vwCl (aB kA q d) H) : va_at D vwCl (adI q d 21, cX kA (adI q d) XI 21) H := h 28 _ rfl
theorem nk_22 (h : va_P D vwCl (aB kA q d) H) : va_at D vwCl (adI q d 22, cX kA (adI q d) XI 22) H := by
  show va_at D vwCl (adI q d 22, wC kA (sl (XI 2) 0)) H
  exact va_P.wears (G := z0) (h 29 (adI q d 22, wC kA z0) rfl) (fun t _ => slI)
theorem nk_23 (h : va_P D vwCl (aB kA q d) H) : va_at D vwCl (adI q d 23, cX kA (adI q d) XI 23) H := h 30 _ rfl
theorem nk_24 (h : va_P D vwCl (aB kA q d) H) : va_at D vwCl (adI q d 24, cX kA (adI q d) XI 24) H := by
  show va_at D vwCl (adI q d 24, wC kA (sl (XI 2) 1)) H
  exact va_P.wears (G := z0) (h 31 (adI q d 24, wC kA z0) rfl) (fun t _ => slI)
theorem nk_25 (h : va_P D vwCl (aB kA q d) H) : va_at D vwCl (adI q d 25, cX kA (adI q d) XI 25) H := h 32 _ rfl
theorem nk_26 (h : va_P D vwCl (aB kA q d) H) : va_at D vwCl (adI q d 26, cX kA (adI q d) XI 26) H := by
  show va_at D vwCl (adI q d 26, wC kA (sl (XI 2) 2)) H
  exact va_P.wears (G := z0) (h 33 (adI q d 26, wC kA z0) rfl) (fun t _ => slI)
theorem nk_27 (h : va_P D vwCl (aB kA q d) H) : va_at D vwCl (adI q d 27, cX kA (adI q d) XI 27) H := h 34 _ rfl
theorem nk_28 (h : va_P D vwCl (aB kA q d) H) : va_at D vwCl (adI q d 28, cX kA (adI q d) XI 28) H := by
  show va_at D vwCl (adI q d 28, wC kA (sl (XI 2) 3)) H
  exact va_P.wears (G := z0) (h 35 (adI q d 28, wC kA z0) rfl) (fun t _ => slI)
theorem nk_29 (h : va_P D vwCl (aB kA q d) H) : va_at D vwCl (adI q d 29, cX kA (adI q d) XI 29) H := h 39 _ rfl
theorem nk_30 (h : va_P D vwCl (aB kA q d) H) : va_at D vwCl (adI q d 30, cX kA (adI q d) XI 30) H := by
  show va_at D vwCl (adI q d 30, wC kA (sl (XI 3) 0)) H
  exact va_P.wears (G := z0) (h 40 (adI q d 30, wC kA z0) rfl) (fun t _ => slI)
theorem nk_31 (h : va_P D vwCl (aB kA q d) H) : va_at D vwCl (adI q d 31, cX kA (adI q d) XI 31) H := h 41 _ rfl
theorem nk_32 (h : va_P D vwCl (aB kA q d) H) : va_at D vwCl (adI q d 32, cX kA (adI q d) XI 32) H := by
  show va_at D vwCl (adI q d 32, wC kA (sl (XI 3) 1)) H
  exact va_P.wears (G := z0) (h 42 (adI q d 32, wC kA z0) rfl) (fun t _ => slI)
theorem nk_33 (h : va_P D vwCl (aB kA q d) H) : va_at D vwCl (adI q d 33, cX kA (adI q d) XI 33) H := h 43 _ rfl
theorem nk_34 (h : va_P D vwCl (aB kA q d) H) : va_at D vwCl (adI q d 34, cX kA (adI q d) XI 34) H := by
  show va_at D vwCl (adI q d 34, wC kA (sl (XI 3) 2)) H
  exact va_P.wears (G := z0) (h 44 (adI q d 34, wC kA z0) rfl) (fun t _ => slI)
theorem nk_35 (h : va_P D vwCl (aB kA q d) H) : va_at D vwCl (adI q d 35, cX kA (adI q d) XI 35) H := h 45 _ rfl
theorem nk_36 (h : va_P D vwCl (aB kA q d) H) : va_at D vwCl (adI q d 36, cX kA (adI q d) XI 36) H := by
  show va_at D vwCl (adI q d 36, wC kA (sl (XI 3) 3)) H
  exact va_P.wears (G := z0) (h 46 (adI q d 36, wC kA z0) rfl) (fun t _ => slI)
theorem nk_37 (h : va_P D vwCl (aB kA q d) H) : va_at D vwCl (adI q d 37, cX kA (adI q d) XI 37) H := h 50 _ rfl
theorem nk_38 (h : va_P D vwCl (aB kA q d) H) : va_at D vwCl (adI q d 38, cX kA (adI q d) XI 38) H := by
  show va_at D vwCl (adI q d 38, wC kA (sl (XI 4) 0)) H
  exact va_P.wears (G := z0) (h 51 (adI q d 38, wC kA z0) rfl) (fun t _ => slI)
theorem nk_39 (h : va_P D vwCl (aB kA q d) H) : va_at D vwCl (adI q d 39, cX kA (adI q d) XI 39) H := h 52 _ rfl
theorem nk_40 (h : va_P D vwCl (aB kA q d) H) : va_at D vwCl (adI q d 40, cX kA (adI q d) XI 40) H := by
  show va_at D vwCl (adI q d 40, wC kA (sl (XI 4) 1)) H
  exact va_P.wears (G := z0) (h 53 (adI q d 40, wC kA z0) rfl) (fun t _ => slI)
theorem nk_41 (h : va_P D vwCl (aB kA q d) H) : va_at D vwCl (adI q d 41, cX kA (adI q d) XI 41) H := h 54 _ rfl
theorem nk_42 (h : va_P D vwCl (aB kA q d) H) : va_at D vwCl (adI q d 42, cX kA (adI q d) XI 42) H := by
  show va_at D vwCl (adI q d 42, wC kA (sl (XI 4) 2)) H
  exact va_P.wears (G := z0) (h 55 (adI q d 42, wC kA z0) rfl) (fun t _ => slI)
theorem nk_43 (h : va_P D vwCl (aB kA q d) H) : va_at D vwCl (adI q d 43, cX kA (adI q d) XI 43) H := h 56 _ rfl
theorem nk_44 (h : va_P D vwCl (aB kA q d) H) : va_at D vwCl (adI q d 44, cX kA (adI q d) XI 44) H := by
  show va_at D vwCl (adI q d 44, wC kA (sl (XI 4) 3)) H
  exact va_P.wears (G := z0) (h 57 (adI q d 44, wC kA z0) rfl) (fun t _ => slI)
theorem nk_45 (h : va_P D vwCl (aB kA q d) H) : va_at D vwCl (adI q d 45, cX kA (adI q d) XI 45) H := h 61 _ rfl
theorem nk_46 (h : va_P D vwCl (aB kA q d) H) : va_at D vwCl (adI q d 46, cX kA (adI q d) XI 46) H := by
  show va_at D vwCl (adI q d 46, wC kA (sl (XI 5) 0)) H
  exact va_P.wears (G := z0) (h 62 (adI q d 46, wC kA z0) rfl) (fun t _ => slI)
theorem nk_47 (h : va_P D vwCl (aB kA q d) H) : va_at D vwCl (adI q d 47, cX kA (adI q d) XI 47) H := h 63 _ rfl
theorem nk_48 (h : va_P D vwCl (aB kA q d) H) : va_at D vwCl (adI q d 48, cX kA (adI q d) XI 48) H := by
  show va_at D vwCl (adI q d 48, wC kA (sl (XI 5) 1)) H
  exact va_P.wears (G := z0) (h 64 (adI q d 48, wC kA z0) rfl) (fun t _ => slI)
theorem nk_49 (h : va_P D vwCl (aB kA q d) H) : va_at D vwCl (adI q d 49, cX kA (adI q d) XI 49) H := h 65 _ rfl
theorem nk_50 (h : va_P D vwCl (aB kA q d) H) : va_at D vwCl (adI q d 50, cX kA (adI q d) XI 50) H := by
  show va_at D vwCl (adI q d 50, wC kA (sl (XI 5) 2)) H
  exact va_P.wears (G := z0) (h 66 (adI q d 50, wC kA z0) rfl) (fun t _ => slI)
theorem nk_51 (h : va_P D vwCl (aB kA q d) H) : va_at D vwCl (adI q d 51, cX kA (adI q d) XI 51) H := h 67 _ rfl
theorem nk_52 (h : va_P D vwCl (aB kA q d) H) : va_at D vwCl (adI q d 52, cX kA (adI q d) XI 52) H := by
  show va_at D vwCl (adI q d 52, wC kA (sl (XI 5) 3)) H
  exact va_P.wears (G := z0) (h 68 (adI q d 52, wC kA z0) rfl) (fun t _ => slI)
theorem nk_53 (h : va_P D vwCl (aB kA q d) H) : va_at D vwCl (adI q d 53, cX kA (adI q d) XI 53) H := h 72 _ rfl
theorem nk_54 (h : va_P D vwCl (aB kA q d) H) : va_at D vwCl (adI q d 54, cX kA (adI q d) XI 54) H := by
  show va_at D vwCl (adI q d 54, wC kA (sl (XI 6) 0)) H
  exact va_P.wears (G := z0) (h 73 (adI q d 54, wC kA z0) rfl) (fun t _ => slI)
theorem nk_55 (h : va_P D vwCl (aB kA q d) H) : va_at D vwCl (adI q d 55, cX kA (adI q d) XI 55) H := h 74 _ rfl
theorem nk_56 (h : va_P D vwCl (aB kA q d) H) : va_at D vwCl (adI q d 56, cX kA (adI q d) XI 56) H := by
  show va_at D vwCl (adI q d 56, wC kA (sl (XI 6) 1)) H
  exact va_P.wears (G := z0) (h 75 (adI q d 56, wC kA z0) rfl) (fun t _ => slI)
theorem nk_57 (h : va_P D vwCl (aB kA q d) H) : va_at D vwCl (adI q d 57, cX kA (adI q d) XI 57) H := h 76 _ rfl
theorem nk_58 (h : va_P D vwCl (aB kA q d) H) : va_at D vwCl (adI q d 58, cX kA (adI q d) XI 58) H := by
  show va_at D vwCl (adI q d 58, wC kA (sl (XI 6) 2)) H
  exact va_P.wears (G := z0) (h 77 (adI q d 58, wC kA z0) rfl) (fun t _ => slI)
theorem nk_59 (h : va_P D vwCl (aB kA q d) H) : va_at D vwCl (adI q d 59, cX kA (adI q d) XI 59) H := h 78 _ rfl
theorem nk_60 (h : va_P D vwCl (aB kA q d) H) : va_at D vwCl (adI q d 60, cX kA (adI q d) XI 60) H := by
  show va_at D vwCl (adI q d 60, wC kA (sl (XI 6) 3)) H
  exact va_P.wears (G := z0) (h 79 (adI q d 60, wC kA z0) rfl) (fun t _ => slI)
theorem nk_61 (h : va_P D vwCl (aB kA q d) H) : va_at D vwCl (adI q d 61, cX kA (adI q d) XI 61) H := h 80 _ rfl
theorem nk_62 (h : va_P D vwCl (aB kA q d) H) : va_at D vwCl (adI q d 62, cX kA (adI q d) XI 62) H := by
  show va_at D vwCl (adI q d 62, wC kA (sl (XI 7) 0)) H
  exact va_P.wears (G := z0) (h 81 (adI q d 62, wC kA z0) rfl) (fun t _ => slZ)
theorem nk_63 (h : va_P D vwCl (aB kA q d) H) : va_at D vwCl (adI q d 63, cX kA (adI q d) XI 63) H := h 1 _ rfl
theorem nk_64 (h : va_P D vwCl (aB kA q d) H) : va_at D vwCl (adI q d 64, cX kA (adI q d) XI 64) H := h 2 _ rfl
theorem nk_65 (h : va_P D vwCl (aB kA q d) H) : va_at D vwCl (adI q d 65, cX kA (adI q d) XI 65) H := by
  show va_at D vwCl (adI q d 65, qC kA (adI q d) 0) H
  exact at_refs (f := fun j => some (d (1 + (2 + 2 * j)))) (h 3 _ rfl) (fun j hj => by rcases (show j = 0 ∨ j = 1 ∨ j = 2 ∨ j = 3 by omega) with rfl | rfl | rfl | rfl <;> rfl)
theorem nk_66 (h : va_P D vwCl (aB kA q d) H) : va_at D vwCl (adI q d 66, cX kA (adI q d) XI 66) H := h 14 _ rfl
theorem nk_67 (h : va_P D vwCl (aB kA q d) H) : va_at D vwCl (adI q d 67, cX kA (adI q d) XI 67) H := h 15 _ rfl
theorem nk_68 (h : va_P D vwCl (aB kA q d) H) : va_at D vwCl (adI q d 68, cX kA (adI q d) XI 68) H := by
  show va_at D vwCl (adI q d 68, qC kA (adI q d) 1) H
  exact at_refs (f := fun j => some (d (12 + (2 + (2 + 2 * j))))) (h 16 _ rfl) (fun j hj => by rcases (show j = 0 ∨ j = 1 ∨ j = 2 ∨ j = 3 by omega) with rfl | rfl | rfl | rfl <;> rfl)
theorem nk_69 (h : va_P D vwCl (aB kA q d) H) : va_at D vwCl (adI q d 69, cX kA (adI q d) XI 69) H := h 25 _ rfl
theorem nk_70 (h : va_P D vwCl (aB kA q d) H) : va_at D vwCl (adI q d 70, cX kA (adI q d) XI 70) H := h 26 _ rfl
theorem nk_71 (h : va_P D vwCl (aB kA q d) H) : va_at D vwCl (adI q d 71, cX kA (adI q d) XI 71) H := by
  show va_at D vwCl (adI q d 71, qC kA (adI q d) 2) H
  exact at_refs (f := fun j => some (d (12 + (13 + (2 + 2 * j))))) (h 27 _ rfl) (fun j hj => by rcases (show j = 0 ∨ j = 1 ∨ j = 2 ∨ j = 3 by omega) with rfl | rfl | rfl | rfl <;> rfl)
theorem nk_72 (h : va_P D vwCl (aB kA q d) H) : va_at D vwCl (adI q d 72, cX kA (adI q d) XI 72) H := h 36 _ rfl
theorem nk_73 (h : va_P D vwCl (aB kA q d) H) : va_at D vwCl (adI q d 73, cX kA (adI q d) XI 73) H := h 37 _ rfl
theorem nk_74 (h : va_P D vwCl (aB kA q d) H) : va_at D vwCl (adI q d 74, cX kA (adI q d) XI 74) H := by
  show va_at D vwCl (adI q d 74, qC kA (adI q d) 3) H
  exact at_refs (f := fun j => some (d (12 + (24 + (2 + 2 * j))))) (h 38 _ rfl) (fun j hj => by rcases (show j = 0 ∨ j = 1 ∨ j = 2 ∨ j = 3 by omega) with rfl | rfl | rfl | rfl <;> rfl)
theorem nk_75 (h : va_P D vwCl (aB kA q d) H) : va_at D vwCl (adI q d 75, cX kA (adI q d) XI 75) H := h 47 _ rfl
theorem nk_76 (h : va_P D vwCl (aB kA q d) H) : va_at D vwCl (adI q d 76, cX kA (adI q d) XI 76) H := h 48 _ rfl
theorem nk_77 (h : va_P D vwCl (aB kA q d) H) : va_at D vwCl (adI q d 77, cX kA (adI q d) XI 77) H := by
  show va_at D vwCl (adI q d 77, qC kA (adI q d) 4) H
  exact at_refs (f := fun j => some (d (12 + (35 + (2 + 2 * j))))) (h 49 _ rfl) (fun j hj => by rcases (show j = 0 ∨ j = 1 ∨ j = 2 ∨ j = 3 by omega) with rfl | rfl | rfl | rfl <;> rfl)
theorem nk_78 (h : va_P D vwCl (aB kA q d) H) : va_at D vwCl (adI q d 78, cX kA (adI q d) XI 78) H := h 58 _ rfl
theorem nk_79 (h : va_P D vwCl (aB kA q d) H) : va_at D vwCl (adI q d 79, cX kA (adI q d) XI 79) H := h 59 _ rfl
theorem nk_80 (h : va_P D vwCl (aB kA q d) H) : va_at D vwCl (adI q d 80, cX kA (adI q d) XI 80) H := by
  show va_at D vwCl (adI q d 80, qC kA (adI q d) 5) H
  exact at_refs (f := fun j => some (d (12 + (46 + (2 + 2 * j))))) (h 60 _ rfl) (fun j hj => by rcases (show j = 0 ∨ j = 1 ∨ j = 2 ∨ j = 3 by omega) with rfl | rfl | rfl | rfl <;> rfl)
theorem nk_81 (h : va_P D vwCl (aB kA q d) H) : va_at D vwCl (adI q d 81, cX kA (adI q d) XI 81) H := h 69 _ rfl
theorem nk_82 (h : va_P D vwCl (aB kA q d) H) : va_at D vwCl (adI q d 82, cX kA (adI q d) XI 82) H := h 70 _ rfl
theorem nk_83 (h : va_P D vwCl (aB kA q d) H) : va_at D vwCl (adI q d 83, cX kA (adI q d) XI 83) H := by
  show va_at D vwCl (adI q d 83, qC kA (adI q d) 6) H
  exact at_refs (f := fun j => some (d (12 + (57 + (2 + 2 * j))))) (h 71 _ rfl) (fun j hj => by rcases (show j = 0 ∨ j = 1 ∨ j = 2 ∨ j = 3 by omega) with rfl | rfl | rfl | rfl <;> rfl)
theorem cw_newP (h : va_P D vwCl (aB kA q d) H) : va_P D vwCl (cw kA (adI q d) XI) H := by
  intro k x hk
  obtain ⟨hk84, rfl⟩ := cw_inv hk
  by_cases h42 : k < 42
  · skip
    by_cases h21 : k < 21
    · skip
      by_cases h10 : k < 10
      · skip
        by_cases h5 : k < 5
        · skip
          by_cases h2 : k < 2
          · skip
            by_cases h1 : k < 1
            · skip
              obtain rfl : k = 0 := by omega
              exact nk_0 h
            · skip
              obtain rfl : k = 1 := by omega
              exact nk_1 h
          · skip
            by_cases h3 : k < 3
            · skip
              obtain rfl : k = 2 := by omega
              exact nk_2 h
            · skip
              by_cases h4 : k < 4
              · skip
                obtain rfl : k = 3 := by omega
                exact nk_3 h
              · skip
                obtain rfl : k = 4 := by omega
                exact nk_4 h
        · skip
          by_cases h7 : k < 7
          · skip
            by_cases h6 : k < 6
            · skip
              obtain rfl : k = 5 := by omega
              exact nk_5 h
            · skip
              obtain rfl : k = 6 := by omega
              exact nk_6 h
          · skip
            by_cases h8 : k < 8
            · skip
              obtain rfl : k = 7 := by omega
              exact nk_7 h
            · skip
              by_cases h9 : k < 9
              · skip
                obtain rfl : k = 8 := by omega
                exact nk_8 h
              · skip
                obtain rfl : k = 9 := by omega
                exact nk_9 h
      · skip
        by_cases h15 : k < 15
        · skip
          by_cases h12 : k < 12
          · skip
            by_cases h11 : k < 11
            · skip
              obtain rfl : k = 10 := by omega
              exact nk_10 h
            · skip
              obtain rfl : k = 11 := by omega
              exact nk_11 h
          · skip
            by_cases h13 : k < 13
            · skip
              obtain rfl : k = 12 := by omega
              exact nk_12 h
            · skip
              by_cases h14 : k < 14
              · skip
                obtain rfl : k = 13 := by omega
                exact nk_13 h
              · skip
                obtain rfl : k = 14 := by omega
                exact nk_14 h
        · skip
          by_cases h18 : k < 18
          · skip
            by_cases h16 : k < 16
            · skip
              obtain rfl : k = 15 := by omega
              exact nk_15 h
            · skip
              by_cases h17 : k < 17
              · skip
                obtain rfl : k = 16 := by omega
                exact nk_16 h
              · skip
                obtain rfl : k = 17 := by omega
                exact nk_17 h
          · skip
            by_cases h19 : k < 19
            · skip
              obtain rfl : k = 18 := by omega
              exact nk_18 h
            · skip
              by_cases h20 : k < 20
              · skip
                obtain rfl : k = 19 := by omega
                exact nk_19 h
              · skip
                obtain rfl : k = 20 := by omega
                exact nk_20 h
    · skip
      by_cases h31 : k < 31
      · skip
        by_cases h26 : k < 26
        · skip
          by_cases h23 : k < 23
          · skip
            by_cases h22 : k < 22
            · skip
              obtain rfl : k = 21 := by omega
              exact nk_21 h
            · skip
              obtain rfl : k = 22 := by omega
              exact nk_22 h
          · skip
            by_cases h24 : k < 24
            · skip
              obtain rfl : k = 23 := by omega
              exact nk_23 h
            · skip
              by_cases h25 : k < 25
              · skip
                obtain rfl : k = 24 := by omega
                exact nk_24 h
              · skip
                obtain rfl : k = 25 := by omega
                exact nk_25 h
        · skip
          by_cases h28 : k < 28
          · skip
            by_cases h27 : k < 27
            · skip
              obtain rfl : k = 26 := by omega
              exact nk_26 h
            · skip
              obtain rfl : k = 27 := by omega
              exact nk_27 h
          · skip
            by_cases h29 : k < 29
            · skip
              obtain rfl : k = 28 := by omega
              exact nk_28 h
            · skip
              by_cases h30 : k < 30
              · skip
                obtain rfl : k = 29 := by omega
                exact nk_29 h
              · skip
                obtain rfl : k = 30 := by omega
                exact nk_30 h
      · skip
        by_cases h36 : k < 36
        · skip
          by_cases h33 : k < 33
          · skip
            by_cases h32 : k < 32
            · skip
              obtain rfl : k = 31 := by omega
              exact nk_31 h
            · skip
              obtain rfl : k = 32 := by omega
              exact nk_32 h
          · skip
            by_cases h34 : k < 34
            · skip
              obtain rfl : k = 33 := by omega
              exact nk_33 h
            · skip
              by_cases h35 : k < 35
              · skip
                obtain rfl : k = 34 := by omega
                exact nk_34 h
              · skip
                obtain rfl : k = 35 := by omega
                exact nk_35 h
        · skip
          by_cases h39 : k < 39
          · skip
            by_cases h37 : k < 37
            · skip
              obtain rfl : k = 36 := by omega
              exact nk_36 h
            · skip
              by_cases h38 : k < 38
              · skip
                obtain rfl : k = 37 := by omega
                exact nk_37 h
              · skip
                obtain rfl : k = 38 := by omega
                exact nk_38 h
          · skip
            by_cases h40 : k < 40
            · skip
              obtain rfl : k = 39 := by omega
              exact nk_39 h
            · skip
              by_cases h41 : k < 41
              · skip
                obtain rfl : k = 40 := by omega
                exact nk_40 h
              · skip
                obtain rfl : k = 41 := by omega
                exact nk_41 h
  · skip
    by_cases h63 : k < 63
    · skip
      by_cases h52 : k < 52
      · skip
        by_cases h47 : k < 47
        · skip
          by_cases h44 : k < 44
          · skip
            by_cases h43 : k < 43
            · skip
              obtain rfl : k = 42 := by omega
              exact nk_42 h
            · skip
              obtain rfl : k = 43 := by omega
              exact nk_43 h
          · skip
            by_cases h45 : k < 45
            · skip
              obtain rfl : k = 44 := by omega
              exact nk_44 h
            · skip
              by_cases h46 : k < 46
              · skip
                obtain rfl : k = 45 := by omega
                exact nk_45 h
              · skip
                obtain rfl : k = 46 := by omega
                exact nk_46 h
        · skip
          by_cases h49 : k < 49
          · skip
            by_cases h48 : k < 48
            · skip
              obtain rfl : k = 47 := by omega
              exact nk_47 h
            · skip
              obtain rfl : k = 48 := by omega
              exact nk_48 h
          · skip
            by_cases h50 : k < 50
            · skip
              obtain rfl : k = 49 := by omega
              exact nk_49 h
            · skip
              by_cases h51 : k < 51
              · skip
                obtain rfl : k = 50 := by omega
                exact nk_50 h
              · skip
                obtain rfl : k = 51 := by omega
                exact nk_51 h
      · skip
        by_cases h57 : k < 57
        · skip
          by_cases h54 : k < 54
          · skip
            by_cases h53 : k < 53
            · skip
              obtain rfl : k = 52 := by omega
              exact nk_52 h
            · skip
              obtain rfl : k = 53 := by omega
              exact nk_53 h
          · skip
            by_cases h55 : k < 55
            · skip
              obtain rfl : k = 54 := by omega
              exact nk_54 h
            · skip
              by_cases h56 : k < 56
              · skip
                obtain rfl : k = 55 := by omega
                exact nk_55 h
              · skip
                obtain rfl : k = 56 := by omega
                exact nk_56 h
        · skip
          by_cases h60 : k < 60
          · skip
            by_cases h58 : k < 58
            · skip
              obtain rfl : k = 57 := by omega
              exact nk_57 h
            · skip
              by_cases h59 : k < 59
              · skip
                obtain rfl : k = 58 := by omega
                exact nk_58 h
              · skip
                obtain rfl : k = 59 := by omega
                exact nk_59 h
          · skip
            by_cases h61 : k < 61
            · skip
              obtain rfl : k = 60 := by omega
              exact nk_60 h
            · skip
              by_cases h62 : k < 62
              · skip
                obtain rfl : k = 61 := by omega
                exact nk_61 h
              · skip
                obtain rfl : k = 62 := by omega
                exact nk_62 h
    · skip
      by_cases h73 : k < 73
      · skip
        by_cases h68 : k < 68
        · skip
          by_cases h65 : k < 65
          · skip
            by_cases h64 : k < 64
            · skip
              obtain rfl : k = 63 := by omega
              exact nk_63 h
            · skip
              obtain rfl : k = 64 := by omega
              exact nk_64 h
          · skip
            by_cases h66 : k < 66
            · skip
              obtain rfl : k = 65 := by omega
              exact nk_65 h
            · skip
              by_cases h67 : k < 67
              · skip
                obtain rfl : k = 66 := by omega
                exact nk_66 h
              · skip
                obtain rfl : k = 67 := by omega
                exact nk_67 h
        · skip
          by_cases h70 : k < 70
          · skip
            by_cases h69 : k < 69
            · skip
              obtain rfl : k = 68 := by omega
              exact nk_68 h
            · skip
              obtain rfl : k = 69 := by omega
              exact nk_69 h
          · skip
            by_cases h71 : k < 71
            · skip
              obtain rfl : k = 70 := by omega
              exact nk_70 h
            · skip
              by_cases h72 : k < 72
              · skip
                obtain rfl : k = 71 := by omega
                exact nk_71 h
              · skip
                obtain rfl : k = 72 := by omega
                exact nk_72 h
      · skip
        by_cases h78 : k < 78
        · skip
          by_cases h75 : k < 75
          · skip
            by_cases h74 : k < 74
            · skip
              obtain rfl : k = 73 := by omega
              exact nk_73 h
            · skip
              obtain rfl : k = 74 := by omega
              exact nk_74 h
          · skip
            by_cases h76 : k < 76
            · skip
              obtain rfl : k = 75 := by omega
              exact nk_75 h
            · skip
              by_cases h77 : k < 77
              · skip
                obtain rfl : k = 76 := by omega
                exact nk_76 h
              · skip
                obtain rfl : k = 77 := by omega
                exact nk_77 h
        · skip
          by_cases h81 : k < 81
          · skip
            by_cases h79 : k < 79
            · skip
              obtain rfl : k = 78 := by omega
              exact nk_78 h
            · skip
              by_cases h80 : k < 80
              · skip
                obtain rfl : k = 79 := by omega
                exact nk_79 h
              · skip
                obtain rfl : k = 80 := by omega
                exact nk_80 h
          · skip
            by_cases h82 : k < 82
            · skip
              obtain rfl : k = 81 := by omega
              exact nk_81 h
            · skip
              by_cases h83 : k < 83
              · skip
                obtain rfl : k = 82 := by omega
                exact nk_82 h
              · skip
                obtain rfl : k = 83 := by omega
                exact nk_83 h

end NEW

