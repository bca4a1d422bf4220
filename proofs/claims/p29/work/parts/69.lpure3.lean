/-! pure rows of the law's care -/
section LC3
variable {z : Nat → Int32} {a t v j k mo M N : Nat}
theorem ea_1 (h1 : 1 ≤ mo) (h2 : mo ≤ 300) : ¬ nI mo < 1 := fun q => absurd ((nI_ltI (b := 1) (by omega) (by omega)).mp q) (by omega)
theorem nI_le9 {b : Nat} (h : a ≤ b) (hb : b < 2 ^ 31) : nI a ≤ nI b := Int32.not_lt.mp fun q => absurd ((nI_ltI hb (by omega)).mp q) (by omega)
theorem pb_add (hB : bd (z 6) M) (h2 : mo ≤ 300) : bd (z 6 + nI mo) (M + 300) := by
  obtain ⟨n, hn, e⟩ := hB
  exact ⟨n + mo, by omega, by rw [e, nI_add]⟩
theorem ea_3 (hB : bd (z 6) M) (h2 : mo ≤ 300) (hM : M + 300 ≤ 100000) : z 6 + nI mo ≤ 100000 := by
  obtain ⟨n, hn, e⟩ := pb_add (mo := mo) hB h2
  rw [e]
  exact nI_le9 (b := 100000) (by omega) (by omega)
theorem Inv_ld (hI : Inv z) (ha : a < 4) (hv : v < 6) : Inv (puZ z a 2 (nI v)) := by
  refine Inv_pu hI ha (by omega) ?_
  obtain ⟨g0, g1, g2, g3, g4, g5, g6⟩ := hI.2 _ ha
  exact ⟨g0, g1, ⟨v, by omega, rfl⟩, g3, g4, g5, fun t ht => by rw [upd_ne (by omega)]; exact g6 t ht⟩
theorem pb_gr (hI : Inv z) (hB : bd (z 6) M) (hM : M < 2 ^ 31) (hc : ¬ z 6 < z 5) : bd (grZ z a 6) M := by
  obtain ⟨n, hn, e5⟩ := hI.1.2.2.2.2.2.1
  rw [gr6]
  exact bd_sub hM hB e5 (by omega) hc
theorem wt23 (ht : t < 24) : wiF (nI t) 0 23 = true := by
  have : ∀ t, t < 24 → wiF (nI t) 0 23 = true := by decide +kernel
  exact this t ht
theorem wa3 (ha : a < 4) : wiF (nI a) 0 3 = true := by
  have : ∀ a, a < 4 → wiF (nI a) 0 3 = true := by decide +kernel
  exact this a ha
theorem wj5 (hj : j < 6) : wiF (nI j) 0 5 = true := by
  have : ∀ j, j < 6 → wiF (nI j) 0 5 = true := by decide +kernel
  exact this j hj
theorem Inv_md (hI : Inv z) (ha : a < 4) (ht : t < 24) (hc : ¬ z 6 < gwr (sl z a) (nI t) * z 3) : Inv (puZ (payZ z (gwr (sl z a) (nI t) * z 3)) a ((nI t).toNatClampNeg + 11) 0) := by
  have h := inv_mend (p := nI a) (q := nI t) hI (by
    unfold meT
    rw [if_pos (wa3 ha), if_pos (wt23 ht), nI_clamp (n := a) (by omega), if_neg hc])
  rwa [nI_clamp (n := a) (by omega)] at h
theorem CB_md (hC : CB N z) (ha : a < 4) (ht : t < 24) {co v : Int32} : CB N (puZ (payZ z co) a ((nI t).toNatClampNeg + 11) v) := by
  rw [nI_clamp (by omega)]
  exact CB_pu (CB_pay hC) ha (by omega) (by omega) (by omega) (by omega)
theorem pb_md (hI : Inv z) (ha : a < 4) (ht : t < 24) (hB : bd (z 6) M) (hM : M < 2 ^ 31) (hc : ¬ z 6 < gwr (sl z a) (nI t) * z 3) {w : Nat} {v : Int32} : bd (puZ (payZ z (gwr (sl z a) (nI t) * z 3)) a w v 6) M := by
  rw [puZ_low (by omega)]
  obtain ⟨y, hy, ey⟩ := gwr_bd (hI.2 _ ha) rfl ht
  obtain ⟨m, hm, em⟩ := hI.1.2.2.2.1
  have hb : y * m ≤ 99 * 20 := Nat.mul_le_mul hy hm
  show bd (upd (upd z 6 (z 6 - gwr (sl z a) (nI t) * z 3)) 7 _ 6) M
  rw [upd_ne (by omega), upd_s]
  exact bd_sub hM hB (n := y * m) (by rw [ey, em, pk_mul]) (by omega) hc
theorem iv_1 (hj : j < 6) (h : nI j = 1) (h1 : 1 ≤ k) (h2 : k ≤ 50) : ivF (nI j) (nI k) = true := by
  have : ∀ k, k < 51 → 1 ≤ k → ivF 1 (nI k) = true := by decide +kernel
  rw [h]; exact this k (by omega) h1
theorem iv_2 (hj : j < 6) (h : nI j = 2) (h1 : 1 ≤ k) (h2 : k ≤ 60) : ivF (nI j) (nI k) = true := by
  have : ∀ k, k < 61 → 1 ≤ k → ivF 2 (nI k) = true := by decide +kernel
  rw [h]; exact this k (by omega) h1
theorem iv_0 (hj : j < 6) (h1 : ¬ nI j = 1) (h2 : ¬ nI j = 2) (hk : k < 21) : ivF (nI j) (nI k) = true := by
  have : ∀ j, j < 6 → ∀ k, k < 21 → ¬ nI j = 1 → ¬ nI j = 2 → ivF (nI j) (nI k) = true := by decide +kernel
  exact this j hj k hk h1 h2
theorem rp_j (hj : j < 6) {v : Int32} : rpF z (nI j) v = upd z j v := by rw [rp_z (wj5 hj), nI_clamp (by omega)]
theorem Inv_st (hI : Inv z) (hj : j < 6) {v : Int32} (hv : ivF (nI j) v = true) : Inv (upd z j v) := by
  have h := inv_set (p := nI j) (q := v) hI (by unfold seT; rw [if_pos (wj5 hj), if_pos hv])
  rwa [nI_clamp (by omega)] at h
end LC3
