/-! single cells changed, and worlds joined again behind a call -/
section CV
variable {kA ad : Nat → Nat} {X X' : Nat → Nat → Int32} {A0 : Nat → Prop} {D : va_G} {H H1 : Heap} {v : Int32}
theorem cw_congr (h : ∀ j, j < 84 → ∀ r i, dep j r i → X' r i = X r i) : cw kA ad X' = cw kA ad X := by
  unfold cw
  apply List.map_congr_left
  intro k hk
  rw [cX_eq (h k (List.mem_range.mp hk))]
theorem st_purse {r : Nat} (hr : r < 7) : (cw kA ad X).set (3 * r + 63) (sA ad r, .inr (4, [.ref (rA ad r), .ref (qA ad r), .int v, .int (X r 7)])) = cw kA ad (up3 X r 6 v) := by
  refine cw_set (by omega) ?_ (fun j hj hne => cX_eq (fun q i hd => up3_ne (by unfold dep at hd; omega)))
  rw [cX_state, sC, up3_s, up3_ne (Or.inr (by omega))]
theorem st_care {r : Nat} (hr : r < 7) : (cw kA ad X).set (3 * r + 63) (sA ad r, .inr (4, [.ref (rA ad r), .ref (qA ad r), .int (X r 6), .int v])) = cw kA ad (up3 X r 7 v) := by
  refine cw_set (by omega) ?_ (fun j hj hne => cX_eq (fun q i hd => up3_ne (by unfold dep at hd; omega)))
  rw [cX_state, sC, up3_s, up3_ne (Or.inr (by omega))]
theorem st_len : (cw kA ad X).set 0 (ad 0, .inr (5, [.ref (sA ad 0), .ref (ad 1), .ref (gA ad 7 0), .ref (ad 3), .ref (ad 4), .int v])) = cw kA ad (up3 X 8 2 v) := by
  refine cw_set (by omega) ?_ (fun j hj hne => cX_eq (fun q i hd => up3_ne (by unfold dep at hd; omega)))
  show aC ad (up3 X 8 2 v 8) = _
  rw [aC, up3_s]
theorem st_new : (cw kA ad X).set 1 (ad 1, .inr (1, [.ref (ad 2), .int v, .int (X 8 1)])) = cw kA ad (up3 X 8 0 v) := by
  refine cw_set (by omega) ?_ (fun j hj hne => cX_eq (fun q i hd => up3_ne (by unfold dep at hd; omega)))
  show hC ad (up3 X 8 0 v 8) = _
  rw [hC, up3_s, up3_ne (Or.inr (by omega))]
theorem st_kept : (cw kA ad X).set 1 (ad 1, .inr (1, [.ref (ad 2), .int (X 8 0), .int v])) = cw kA ad (up3 X 8 1 v) := by
  refine cw_set (by omega) ?_ (fun j hj hne => cX_eq (fun q i hd => up3_ne (by unfold dep at hd; omega)))
  show hC ad (up3 X 8 1 v 8) = _
  rw [hC, up3_s, up3_ne (Or.inr (by omega))]
theorem st_buf {i : Nat} : (cw kA ad X).set 4 (ad 4, .inl (kA 0, 60, .inl (upd (X 9) i v))) = cw kA ad (up3 X 9 i v) := by
  refine cw_set (by omega) ?_ (fun j hj hne => cX_eq (fun q i hd => up3_ne (by unfold dep at hd; omega)))
  show bC kA (up3 X 9 i v 9) = _
  unfold up3
  rw [up2_s]
  rfl
theorem sl_at {z : Nat → Int32} {a j : Nat} (hj : j < 35) : sl z a j = z (j + (8 + 35 * a)) := if_pos hj
theorem st_load {r a : Nat} (ha : a < 4) (hg : 4 * r + a < 29) : (cw kA ad X).set (2 * (4 * r + a) + 5) (gA ad r a, .inr (0, [.ref (wA ad r a), .int (sl (X r) a 0), .int (sl (X r) a 1), .int v, .int (sl (X r) a 3), .int (sl (X r) a 4), .int (sl (X r) a 5), .int (sl (X r) a 6), .int (sl (X r) a 7), .int (sl (X r) a 8), .int (sl (X r) a 9), .int (sl (X r) a 10)])) = cw kA ad (up3 X r (2 + (8 + 35 * a)) v) := by
  have g : ∀ j, j < 35 → j ≠ 2 → sl (up3 X r (2 + (8 + 35 * a)) v r) a j = sl (X r) a j := fun j hj hne => by rw [sl_at hj, sl_at hj, up3_ne (Or.inr (by omega))]
  have g2 : sl (up3 X r (2 + (8 + 35 * a)) v r) a 2 = v := by rw [sl_at (by omega), up3_s]
  refine cw_set (by omega) ?_ (fun j hj hne => ?_)
  · rw [cX_gear ha hg, gC, g2, g 0 (by omega) (by omega), g 1 (by omega) (by omega), g 3 (by omega) (by omega), g 4 (by omega) (by omega), g 5 (by omega) (by omega), g 6 (by omega) (by omega), g 7 (by omega) (by omega), g 8 (by omega) (by omega), g 9 (by omega) (by omega), g 10 (by omega) (by omega)]
  · by_cases hw : j = 2 * (4 * r + a) + 6
    · subst hw
      rw [cX_wears ha hg, cX_wears ha hg, wC, wC]
      have e : (fun t => sl (up3 X r (2 + (8 + 35 * a)) v r) a (t + 11)) = fun t => sl (X r) a (t + 11) := funext fun t => by
        by_cases ht : t + 11 < 35
        · exact g _ ht (by omega)
        · unfold sl; rw [if_neg ht, if_neg ht]
      rw [e]
    · exact cX_eq (fun q i hd => up3_ne (by unfold dep at hd; omega))
theorem st_greased {r a : Nat} (ha : a < 4) (hg : 4 * r + a < 29) : (cw kA ad X).set (2 * (4 * r + a) + 5) (gA ad r a, .inr (0, [.ref (wA ad r a), .int (sl (X r) a 0), .int (sl (X r) a 1), .int (sl (X r) a 2), .int (sl (X r) a 3), .int (sl (X r) a 4), .int v, .int (sl (X r) a 6), .int (sl (X r) a 7), .int (sl (X r) a 8), .int (sl (X r) a 9), .int (sl (X r) a 10)])) = cw kA ad (up3 X r (5 + (8 + 35 * a)) v) := by
  have g : ∀ j, j < 35 → j ≠ 5 → sl (up3 X r (5 + (8 + 35 * a)) v r) a j = sl (X r) a j := fun j hj hne => by rw [sl_at hj, sl_at hj, up3_ne (Or.inr (by omega))]
  have g2 : sl (up3 X r (5 + (8 + 35 * a)) v r) a 5 = v := by rw [sl_at (by omega), up3_s]
  refine cw_set (by omega) ?_ (fun j hj hne => ?_)
  · rw [cX_gear ha hg, gC, g2, g 0 (by omega) (by omega), g 1 (by omega) (by omega), g 2 (by omega) (by omega), g 3 (by omega) (by omega), g 4 (by omega) (by omega), g 6 (by omega) (by omega), g 7 (by omega) (by omega), g 8 (by omega) (by omega), g 9 (by omega) (by omega), g 10 (by omega) (by omega)]
  · by_cases hw : j = 2 * (4 * r + a) + 6
    · subst hw
      rw [cX_wears ha hg, cX_wears ha hg, wC, wC]
      have e : (fun t => sl (up3 X r (5 + (8 + 35 * a)) v r) a (t + 11)) = fun t => sl (X r) a (t + 11) := funext fun t => by
        by_cases ht : t + 11 < 35
        · exact g _ ht (by omega)
        · unfold sl; rw [if_neg ht, if_neg ht]
      rw [e]
    · exact cX_eq (fun q i hd => up3_ne (by unfold dep at hd; omega))
theorem P1 {cl : List vw_C} {ws : va_W} {x : Nat × va_E} (hP : va_P D cl ws H) {i : Nat} (hi : ws[i]? = some x) : va_P D cl [x] H := fun n q hq => by
  match n, hq with
  | 0, hq => cases hq; exact hP i _ hi
theorem P2 {cl : List vw_C} {ws : va_W} {x y : Nat × va_E} (hP : va_P D cl ws H) {i j : Nat} (hi : ws[i]? = some x) (hj : ws[j]? = some y) : va_P D cl [x, y] H := fun n q hq => by
  match n, hq with
  | 0, hq => cases hq; exact hP i _ hi
  | 1, hq => cases hq; exact hP j _ hj
theorem P3 {cl : List vw_C} {ws : va_W} {x y z : Nat × va_E} (hP : va_P D cl ws H) {i j k : Nat} (hi : ws[i]? = some x) (hj : ws[j]? = some y) (hk : ws[k]? = some z) : va_P D cl [x, y, z] H := fun n q hq => by
  match n, hq with
  | 0, hq => cases hq; exact hP i _ hi
  | 1, hq => cases hq; exact hP j _ hj
  | 2, hq => cases hq; exact hP k _ hk
theorem P4 {cl : List vw_C} {ws : va_W} {x y z u : Nat × va_E} (hP : va_P D cl ws H) {i j k n : Nat} (hi : ws[i]? = some x) (hj : ws[j]? = some y) (hk : ws[k]? = some z) (hn : ws[n]? = some u) : va_P D cl [x, y, z, u] H := fun n q hq => by
  match n, hq with
  | 0, hq => cases hq; exact hP i _ hi
  | 1, hq => cases hq; exact hP j _ hj
  | 2, hq => cases hq; exact hP k _ hk
  | 3, hq => cases hq; exact hP _ _ hn
theorem D1 {ws : va_W} {x : Nat × va_E} (hD : va_D A0 ws) {i : Nat} (hi : ws[i]? = some x) : va_D A0 [x] := hD.sub [i] rfl (by simp [hi])
theorem D2 {ws : va_W} {x y : Nat × va_E} (hD : va_D A0 ws) {i j : Nat} (hi : ws[i]? = some x) (hj : ws[j]? = some y) (h1 : i ≠ j) : va_D A0 [x, y] := hD.sub [i, j] (by simp [va_nd, h1]) (by simp [hi, hj])
theorem D3 {ws : va_W} {x y z : Nat × va_E} (hD : va_D A0 ws) {i j k : Nat} (hi : ws[i]? = some x) (hj : ws[j]? = some y) (hk : ws[k]? = some z) (h1 : i ≠ j) (h2 : i ≠ k) (h3 : j ≠ k) : va_D A0 [x, y, z] := hD.sub [i, j, k] (by simp [va_nd, h1, h2, h3]) (by simp [hi, hj, hk])
theorem D4 {ws : va_W} {x y z u : Nat × va_E} (hD : va_D A0 ws) {i j k n : Nat} (hi : ws[i]? = some x) (hj : ws[j]? = some y) (hk : ws[k]? = some z) (hn : ws[n]? = some u) (h1 : i ≠ j) (h2 : i ≠ k) (h3 : i ≠ n) (h4 : j ≠ k) (h5 : j ≠ n) (h6 : k ≠ n) : va_D A0 [x, y, z, u] := hD.sub [i, j, k, n] (by simp [va_nd, h1, h2, h3, h4, h5, h6]) (by simp [hi, hj, hk, hn])
theorem Aw_of {ws wc : va_W} (hD : va_D A0 ws) (h : ∀ q ∈ wc, ∃ i : Nat, ws[i]? = some q) : ∀ q, Aw wc q → A0 q := by
  intro q hq
  obtain ⟨k, e, h1⟩ := hq
  obtain ⟨i, hi⟩ := h _ (List.mem_of_getElem? h1)
  exact hD.2 i _ hi
theorem Aw_mem {wc : va_W} {q : Nat} (h : Aw wc q) : ∃ e, (q, e) ∈ wc := by
  obtain ⟨k, e, h1⟩ := h
  exact ⟨e, List.mem_of_getElem? h1⟩
theorem Aw_in {wc : va_W} {q : Nat × va_E} (h : q ∈ wc) : Aw wc q.1 := by
  obtain ⟨k, hk⟩ := List.getElem?_of_mem h
  exact ⟨k, q.2, hk⟩
/-- the class's world behind a call that changed some of its cells -/
theorem cw_join {wc : va_W} (hP : va_P D vwCl (cw kA ad X) H) (hk : ∀ q : Nat, q < H.size → ¬ Aw wc q → H1[q]? = H[q]?) (hin : ∀ k, k < 84 → Aw wc (ad k) → va_at D vwCl (ad k, cX kA ad X' k) H1) (hout : ∀ k, k < 84 → ¬ Aw wc (ad k) → cX kA ad X' k = cX kA ad X k) : va_P D vwCl (cw kA ad X') H1 := by
  intro k q hq
  obtain ⟨h84, rfl⟩ := cw_inv hq
  by_cases h : Aw wc (ad k)
  · exact hin k h84 h
  · rw [hout k h84 h]
    have h1 := hP k _ (cw_get h84 rfl)
    exact h1.kept (hk _ h1.lt h)
theorem cw_inj (hD : va_D A0 (cw kA ad X)) {i j : Nat} (hi : i < 84) (hj : j < 84) (h : ad i = ad j) : i = j := hD.1 i j _ _ (cw_get hi rfl) (cw_get hj rfl) h
theorem va_P.wears {D : va_G} {a : Nat} {G G' : Nat → Int32} (h : va_at D vwCl (a, wC kA G) H) (hG : ∀ t, t < 24 → G' (t + 11) = G (t + 11)) : va_at D vwCl (a, wC kA G') H := by
  have h1 : va_P D vwCl [(a, wC kA G)] H := fun n q hq => by
    match n, hq with
    | 0, hq => cases hq; exact h
  exact h1.ints 0 (fun t => G' (t + 11)) rfl (fun t ht => (hG t ht).symm) 0 _ rfl
/-- an axis has been changed by a call that saw it, and other cells that stay -/
theorem jn_G {r a : Nat} (ha : a < 4) (hg : 4 * r + a < 29) {G' : Nat → Int32} {wc w1 : va_W} (hP : va_P D vwCl (cw kA ad X) H) (hD : va_D A0 (cw kA ad X)) (hk : ∀ q : Nat, q < H.size → ¬ Aw wc q → H1[q]? = H[q]?) (hP1 : va_P D vwCl w1 H1)
    (h0 : w1[0]? = some (gA ad r a, gC (wA ad r a) G')) (h1 : w1[1]? = some (wA ad r a, wC kA G')) (hc0 : wc[0]? = some (gA ad r a, gC (wA ad r a) (sl (X r) a))) (hc1 : wc[1]? = some (wA ad r a, wC kA (sl (X r) a)))
    (hrest : ∀ q ∈ wc.drop 2, q ∈ w1 ∧ ∃ i, i < 84 ∧ i ≠ 2 * (4 * r + a) + 5 ∧ i ≠ 2 * (4 * r + a) + 6 ∧ q = (ad i, cX kA ad X i)) : va_P D vwCl (cw kA ad (upG X r a G')) H1 ∧ va_D A0 (cw kA ad (upG X r a G')) := by
  have hout : ∀ k, k < 84 → k ≠ 2 * (4 * r + a) + 5 → k ≠ 2 * (4 * r + a) + 6 → cX kA ad (upG X r a G') k = cX kA ad X k := fun k hk1 hk2 hk3 => cX_eq (fun q i hd => upG_ne (by unfold dep at hd; omega))
  refine ⟨cw_join hP hk (fun k h84 hA => ?_) (fun k h84 hA => ?_), cw_D hD⟩
  · by_cases e0 : k = 2 * (4 * r + a) + 5
    · subst e0
      rw [cX_gear ha hg]
      have hx := hP1 0 _ h0
      have e : gC (wA ad r a) (sl (upG X r a G' r) a) = gC (wA ad r a) G' := by
        unfold gC
        rw [upG_s (by omega), upG_s (by omega), upG_s (by omega), upG_s (by omega), upG_s (by omega), upG_s (by omega), upG_s (by omega), upG_s (by omega), upG_s (by omega), upG_s (by omega), upG_s (by omega)]
      rw [e]; exact hx
    by_cases e1 : k = 2 * (4 * r + a) + 6
    · subst e1
      rw [cX_wears ha hg]
      exact va_P.wears (hP1 1 _ h1) (fun t ht => upG_s (by omega))
    obtain ⟨n, e, hn⟩ := hA
    match n, hn with
    | 0, hn => exact absurd (cw_inj hD h84 (by omega) (congrArg Prod.fst (Option.some.inj (hn.symm.trans hc0)))) e0
    | 1, hn => exact absurd (cw_inj hD h84 (by omega) (congrArg Prod.fst (Option.some.inj (hn.symm.trans hc1)))) e1
    | n + 2, hn =>
      have hmem : (ad k, e) ∈ wc.drop 2 := List.mem_of_getElem? (i := n) (by rw [List.getElem?_drop, Nat.add_comm]; exact hn)
      obtain ⟨hm, i, hi, hi0, hi1, hq⟩ := hrest _ hmem
      have hki : k = i := cw_inj hD h84 hi (congrArg Prod.fst hq)
      subst hki
      obtain ⟨z, hz⟩ := List.getElem?_of_mem hm
      rw [hout k h84 e0 e1, ← (show e = cX kA ad X k from congrArg Prod.snd hq)]
      exact hP1 z _ hz
  · refine hout k h84 (fun h => hA ?_) (fun h => hA ?_)
    · subst h; exact ⟨0, _, hc0⟩
    · subst h; exact ⟨1, _, hc1⟩
end CV

