/-! pure rows of the law's costs and of its comparing -/
theorem nI_m1 {t : Nat} (h : t < 24) : ¬ nI t = -1 := by
  have : ∀ t, t < 24 → ¬ nI t = -1 := by decide +kernel
  exact this t h
theorem gs_if {x g : Int32} {j : Nat} (ex : x = nI j) (hj : j ≤ 24) (hg : bd g 100) : (if x < g then (1 : Int32) else 0) = bI (decide (0 < g - x)) := by
  obtain ⟨n, hn, rfl⟩ := hg
  subst ex
  have : ∀ j, j < 25 → ∀ n, n < 101 → (if nI j < nI n then (1 : Int32) else 0) = bI (decide (0 < nI n - nI j)) := by decide +kernel
  exact this j (by omega) n (by omega)
section AG
variable {X : Nat → Nat → Int32} {G : Nat → Int32}
theorem pr_0 : propG G 0 = G 0 := by unfold propG; rw [if_pos rfl]
theorem pr_1 : propG G 1 = G 1 := by unfold propG; rw [if_neg (by decide), if_pos rfl]
theorem pr_2 : propG G 2 = G 2 := by unfold propG; rw [if_neg (by decide), if_neg (by decide), if_pos rfl]
theorem pr_3 : propG G 3 = G 3 := by unfold propG; rw [if_neg (by decide), if_neg (by decide), if_neg (by decide), if_pos rfl]
theorem pr_4 : propG G 4 = G 4 := by unfold propG; rw [if_neg (by decide), if_neg (by decide), if_neg (by decide), if_neg (by decide), if_pos rfl]
theorem pr_5 : propG G 5 = G 5 := by unfold propG; rw [if_neg (by decide), if_neg (by decide), if_neg (by decide), if_neg (by decide), if_neg (by decide), if_pos rfl]
theorem pr_6 : propG G 6 = G 6 := by unfold propG; rw [if_neg (by decide), if_neg (by decide), if_neg (by decide), if_neg (by decide), if_neg (by decide), if_neg (by decide), if_pos rfl]
theorem pr_7 : propG G 7 = G 7 := by unfold propG; rw [if_neg (by decide), if_neg (by decide), if_neg (by decide), if_neg (by decide), if_neg (by decide), if_neg (by decide), if_neg (by decide), if_pos rfl]
theorem pr_8 : propG G 8 = G 8 := by unfold propG; rw [if_neg (by decide), if_neg (by decide), if_neg (by decide), if_neg (by decide), if_neg (by decide), if_neg (by decide), if_neg (by decide), if_neg (by decide), if_pos rfl]
theorem pr_10 : propG G 10 = G 9 := by unfold propG; rw [if_neg (by decide), if_neg (by decide), if_neg (by decide), if_neg (by decide), if_neg (by decide), if_neg (by decide), if_neg (by decide), if_neg (by decide), if_neg (by decide), if_neg (by decide), if_pos rfl]
theorem pr_11 : propG G 11 = G 10 := by unfold propG; rw [if_neg (by decide), if_neg (by decide), if_neg (by decide), if_neg (by decide), if_neg (by decide), if_neg (by decide), if_neg (by decide), if_neg (by decide), if_neg (by decide), if_neg (by decide), if_neg (by decide)]
theorem far_n : ∀ p, p < 24 → ∀ b, b < 24 → dist (nI p) (nI b) = if 12 < (nI b - nI p + 24) - (nI b - nI p + 24) / 24 * 24 then 24 - ((nI b - nI p + 24) - (nI b - nI p + 24) / 24 * 24) else (nI b - nI p + 24) - (nI b - nI p + 24) / 24 * 24 := by decide +kernel
theorem far_d (h : AInv G) : propG G 9 = if 12 < (G 1 - G 0 + 24) - (G 1 - G 0 + 24) / 24 * 24 then 24 - ((G 1 - G 0 + 24) - (G 1 - G 0 + 24) / 24 * 24) else (G 1 - G 0 + 24) - (G 1 - G 0 + 24) / 24 * 24 := by
  obtain ⟨⟨p, hp, e0⟩, ⟨b, hb, e1⟩, -⟩ := h
  have e9 : propG G 9 = dist (G 0) (G 1) := by unfold propG; rw [if_neg (by decide), if_neg (by decide), if_neg (by decide), if_neg (by decide), if_neg (by decide), if_neg (by decide), if_neg (by decide), if_neg (by decide), if_neg (by decide), if_pos rfl]
  rw [e9, e0, e1]
  exact far_n p hp b hb
theorem cou_0 : coF X 0 = X 0 6 := by unfold coF; rw [if_pos rfl]
theorem cou_1 : coF X 1 = sumX (X 0) 6 := by unfold coF; rw [if_neg (by decide), if_pos rfl]
theorem cou_2 : coF X 2 = sumX (X 0) 8 := by unfold coF; rw [if_neg (by decide), if_neg (by decide), if_pos rfl]
theorem cou_3 : coF X 3 = sumX (X 0) 7 := by unfold coF; rw [if_neg (by decide), if_neg (by decide), if_neg (by decide), if_pos rfl]
theorem cou_4 : coF X 4 = X 0 7 := by unfold coF; rw [if_neg (by decide), if_neg (by decide), if_neg (by decide), if_neg (by decide), if_pos rfl]
theorem cou_5 : coF X 5 = wearX (X 0) := by unfold coF; rw [if_neg (by decide), if_neg (by decide), if_neg (by decide), if_neg (by decide), if_neg (by decide), if_pos rfl]
theorem cou_6 : coF X 6 = wornX (X 0) (X 0 2) := by unfold coF; rw [if_neg (by decide), if_neg (by decide), if_neg (by decide), if_neg (by decide), if_neg (by decide), if_neg (by decide), if_pos rfl]
theorem cou_7 : coF X 7 = belX (X 0) := by unfold coF; rw [if_neg (by decide), if_neg (by decide), if_neg (by decide), if_neg (by decide), if_neg (by decide), if_neg (by decide), if_neg (by decide), if_pos rfl]
theorem cou_8 : coF X 8 = X 8 1 := by unfold coF; rw [if_neg (by decide), if_neg (by decide), if_neg (by decide), if_neg (by decide), if_neg (by decide), if_neg (by decide), if_neg (by decide), if_neg (by decide)]
end AG
