section BR5
variable {z : Nat → Int32} {a : Nat}
/-- the class makes its first step if it can be made: the count of steps made is above 0 -/
theorem ms_c {up : Bool} (ha : a < 4) : ∀ (n : Nat) (z : Nat → Int32) (k : Nat), Inv z → ∃ j, j ≤ n ∧ (msL a (wI up) n z (nI k)).1 = nI (k + j)
  | 0, z, k, h => ⟨0, Nat.le_refl _, rfl⟩
  | n + 1, z, k, h => by
    rw [msL_s h ha]
    by_cases hm : z 6 < tollG (sl z a) z (wI up)
    · rw [if_pos hm]; exact ⟨0, by omega, rfl⟩
    · rw [if_neg hm, nI_1]
      obtain ⟨j, hj, e⟩ := ms_c ha n (zS z a (wI up)) (k + 1) (Inv_S h ha hm)
      exact ⟨j + 1, by omega, by rw [e]; congr 1; omega⟩
theorem ms_pos {up : Bool} (h : Inv z) (ha : a < 4) {n : Nat} (hn : 1 ≤ n) (hb : n < 1000) : (if 0 < (msL a (wI up) n z 0).1 then true else false) = canF z a (wI up) := by
  cases n with
  | zero => exact absurd hn (by omega)
  | succ n =>
    rw [msL_s h ha]
    by_cases hm : z 6 < tollG (sl z a) z (wI up)
    · rw [if_pos hm]
      unfold canF
      rw [if_pos hm]; rfl
    · rw [if_neg hm]
      obtain ⟨j, hj, e⟩ := ms_c (up := up) ha n (zS z a (wI up)) 1 (Inv_S h ha hm)
      have e1 : (0 : Int32) + 1 = nI 1 := rfl
      rw [e1, e, if_pos (pos_nI rfl (by omega) (by omega))]
      exact (canF_t.mpr hm).symm
end BR5
