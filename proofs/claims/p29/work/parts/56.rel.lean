/-! the class's numbers against the reference's, between two calls -/
def hR (h : Nat → Int32) (k : Nat) : Nat → Int32 := fun i => if i < 148 then h (148 * k + i) else 0
section RL
variable {X : Nat → Nat → Int32} {z z' h tx T Q : Nat → Int32} {w n0 r N M : Nat} {kA ad : Nat → Nat}
theorem sl_c148 (hz : ∀ i, i < 148 → z' i = z i) {a : Nat} (ha : a < 4) : sl z' a = sl z a := sl_eq fun i _ h2 => hz i (by omega)
theorem Inv_c148 (hz : ∀ i, i < 148 → z' i = z i) (hI : Inv z) : Inv z' :=
  ⟨RInv_congr (fun i hi => hz i (by omega)) hI.1, fun a ha => by rw [sl_c148 hz ha]; exact hI.2 a ha⟩
theorem CB_c148 (hz : ∀ i, i < 148 → z' i = z i) (hC : CB N z) : CB N z' := fun a ha => by rw [sl_c148 hz ha]; exact hC a ha
theorem cw_norm (hz : ∀ i, i < 148 → z' i = X 0 i) : cw kA ad (up2 X 0 z') = cw kA ad X := cw_congr fun k hk q i hd => by
  by_cases hq : q = 0
  · subst hq
    rw [up2_s]
    exact hz i (by unfold dep at hd; omega)
  · rw [up2_n hq]
theorem kp_sv (hw : w ≤ 6) : kpU (nI w) = nI (svN w) := by
  have : ∀ w, w < 7 → kpU (nI w) = nI (svN w) := by decide +kernel
  exact this w (by omega)
theorem kp_d (hw : w ≤ 6) : kpD (nI w) = nI (w - 1) := by
  have : ∀ w, w < 7 → kpD (nI w) = nI (w - 1) := by decide +kernel
  exact this w (by omega)
theorem svN_le (hw : w ≤ 6) : svN w ≤ 6 := by unfold svN; split <;> omega
end RL

