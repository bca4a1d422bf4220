/-! pure rows for the state's and the history's walks -/
section CK
variable {X Y : Nat → Nat → Int32} {r r2 w j : Nat}
theorem le_of_bad {x : Int32} (h : x < 0 ∨ ¬ x < 4) (h0 : ¬ x < 0) : 4 ≤ x := by
  rcases h with h | h
  · exact absurd h h0
  · exact Int32.not_lt.mp h
theorem nx6_lt (w : Nat) : nx6 w < 6 := by unfold nx6; split <;> omega
theorem pv6_lt {w : Nat} (h : w < 6) : pv6 w < 6 := by unfold pv6; split <;> omega
theorem sv_w1 {x : Int32} (hw : x = nI w) (hw6 : w < 6) (c : x + 1 < 6) : x + 1 = nI (nx6 w) := by
  subst hw
  have h : w + 1 < 6 := by
    rw [nI_1] at c
    exact (nI_ltI (by omega) (by omega)).mp c
  rw [nI_1, nx6, if_pos h]
theorem sv_w0 {x : Int32} (hw : x = nI w) (hw6 : w < 6) (c : ¬ x + 1 < 6) : (0 : Int32) = nI (nx6 w) := by
  subst hw
  have h : ¬ w + 1 < 6 := fun h => c (by rw [nI_1]; exact (nI_ltI (b := 6) (by omega) (by omega)).mpr h)
  rw [nx6, if_neg h]
  rfl
theorem rs_w1 {x : Int32} (hw : x = nI w) (hw6 : w < 6) (c : 0 < x) : x - 1 = nI (pv6 w) := by
  subst hw
  have h : 0 < w := (nI_ltI (a := 0) (by omega) (by omega)).mp c
  obtain ⟨k, rfl⟩ : ∃ k, w = k + 1 := ⟨w - 1, by omega⟩
  rw [nI_pred, pv6, if_pos h]
  rfl
theorem rs_w0 {x : Int32} (hw : x = nI w) (hw6 : w < 6) (c : ¬ 0 < x) : (5 : Int32) = nI (pv6 w) := by
  subst hw
  have h : ¬ 0 < w := fun h => c ((nI_ltI (a := 0) (by omega) (by omega)).mpr h)
  rw [pv6, if_neg h]
  rfl
theorem sv_eq {v : Int32} {k : Nat} : up2 (up3 (up3 X 8 0 v) 8 1 (if 6 < up3 X 8 0 v 8 1 + 1 then 6 else up3 X 8 0 v 8 1 + 1)) k (up3 (up3 X 8 0 v) 8 1 (if 6 < up3 X 8 0 v 8 1 + 1 then 6 else up3 X 8 0 v 8 1 + 1) 0) = up2 (up3 (up3 X 8 0 v) 8 1 (kpU (X 8 1))) k (X 0) := by
  have e1 : up3 X 8 0 v 8 1 = X 8 1 := up3_ne (Or.inr (by omega))
  rw [e1]
  have e2 : up3 (up3 X 8 0 v) 8 1 (if 6 < X 8 1 + 1 then 6 else X 8 1 + 1) 0 = X 0 := funext fun i => by rw [up3_ne (Or.inl (by omega)), up3_ne (Or.inl (by omega))]
  rw [e2]
  rfl
theorem rs_eq {v : Int32} {z : Nat → Int32} : up3 (up3 (up2 X 0 z) 8 0 v) 8 1 (if up3 (up2 X 0 z) 8 0 v 8 1 - 1 < 0 then 0 else up3 (up2 X 0 z) 8 0 v 8 1 - 1) = up3 (up3 (up2 X 0 z) 8 0 v) 8 1 (kpD (X 8 1)) := by
  have e1 : up3 (up2 X 0 z) 8 0 v 8 1 = X 8 1 := by rw [up3_ne (Or.inr (by omega)), up2_n (by omega)]
  rw [e1]
  rfl
theorem cpR_ne {q i : Nat} (h : q ≠ r) : cpR X r r2 q i = X q i := by unfold cpR; rw [up2_n h]
theorem cp_0 (hne : r ≠ r2) : (∀ q i, q ≠ r → up3 (up3 (cpR X r r2) r 6 (cpR X r r2 r2 6)) r 7 (up3 (cpR X r r2) r 6 (cpR X r r2 r2 6) r2 7) q i = X q i) ∧ ∀ i, i < 8 + 35 * 0 → up3 (up3 (cpR X r r2) r 6 (cpR X r r2 r2 6)) r 7 (up3 (cpR X r r2) r 6 (cpR X r r2 r2 6) r2 7) r i = X r2 i := by
  have hn2 : r2 ≠ r := fun h => hne h.symm
  refine ⟨fun q i hq => by rw [up3_ne (Or.inl hq), up3_ne (Or.inl hq), cpR_ne hq], fun i hi => ?_⟩
  by_cases h7 : i = 7
  · subst h7
    rw [up3_s, up3_ne (Or.inl hn2), cpR_ne hn2]
  rw [up3_ne (Or.inr h7)]
  by_cases h6 : i = 6
  · subst h6
    rw [up3_s, cpR_ne hn2]
  rw [up3_ne (Or.inr h6)]
  unfold cpR
  rw [up2_s]
  exact if_pos (by omega)
theorem cp_1 (hne : r ≠ r2) (h : (∀ q i, q ≠ r → Y q i = X q i) ∧ ∀ i, i < 8 + 35 * j → Y r i = X r2 i) : (∀ q i, q ≠ r → upG Y r j (sl (Y r2) j) q i = X q i) ∧ ∀ i, i < 8 + 35 * (j + 1) → upG Y r j (sl (Y r2) j) r i = X r2 i := by
  refine ⟨fun q i hq => by rw [upG_ne (Or.inl hq)]; exact h.1 q i hq, fun i hi => ?_⟩
  by_cases h1 : i < 8 + 35 * j
  · rw [upG_ne (Or.inr (Or.inl h1))]
    exact h.2 i h1
  unfold upG inG
  rw [up2_s, if_pos ⟨by omega, by omega⟩, sl_at (by omega), h.1 r2 _ (fun q => hne q.symm)]
  congr 1
  omega
theorem cp_2 (hj : j = 4) (h : (∀ q i, q ≠ r → Y q i = X q i) ∧ ∀ i, i < 8 + 35 * j → Y r i = X r2 i) (hr : r < 7) : ∀ k, k < 84 → ∀ q i, dep k q i → up2 X r (X r2) q i = Y q i := by
  intro k hk q i hd
  by_cases hq : q = r
  · subst hq
    rw [up2_s]
    exact (h.2 i (by unfold dep at hd; omega)).symm
  · rw [up2_n hq]
    exact (h.1 q i hq).symm
theorem D0 {A : Nat → Prop} : va_D A [] := ⟨fun i j p q h => by simp at h, fun k q h => by simp at h⟩
end CK
theorem fold_1 {g : Nat → Int32 → Int32} {n j : Nat} {s v R : Int32} (hv : g j s = v) (h : foldL g (n + 1) j s = R) : foldL g n (j + 1) v = R := by subst hv; exact h
theorem fold_2 {g k : Nat → Int32 → Int32} {n m j t : Nat} {s v R : Int32} (hv : k t s = v) (h : foldL g n j (foldL k (m + 1) t s) = R) : foldL g n j (foldL k m (t + 1) v) = R := by subst hv; exact h

