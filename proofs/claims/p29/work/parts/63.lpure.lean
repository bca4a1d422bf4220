/-! pure rows of the law's step -/
section LP
variable {z z1 z2 z3 z4 z5 z6 z7 z8 z9 z10 z11 G R : Nat → Int32} {a t w : Nat} {up : Bool} {v : Int32}
theorem pu_self (hw : w < 35) : puZ z a w (sl z a w) = z := by
  unfold puZ
  rw [sl_at hw]
  exact upd_self
theorem ag {f G : Nat → Int32} {i j : Nat} (h : ¬ j = i → f j = G j) : upd f i (G i) j = G j := by
  by_cases e : j = i
  · subst e; exact upd_s
  · exact (upd_ne e).trans (h e)
theorem put_in (hw : w < 35) (h : z2 = inG z1 a (sl z2 a)) : puZ z2 a w v = inG z1 a (sl (puZ z2 a w v) a) := by
  rw [sl_pu hw]
  conv => lhs; rw [h]
  exact pu_inG hw
theorem ls_fin (ha : a < 4) (hc : ¬ z 6 < tollG (sl z a) z (wI up)) (et : tW (sl z a 0) (wI up) = nI t) (ht : t < 24) (f1 : z1 = upd z 6 (z 6 - tollG (sl z a) z (wI up)))
    (f2 : z2 = puZ z1 a 6 (stepG (sl z a) z (wI up) 6)) (f3 : z3 = puZ z2 a 8 (stepG (sl z a) z (wI up) 8)) (f4 : z4 = puZ z3 a 5 (stepG (sl z a) z (wI up) 5)) (f5 : z5 = puZ z4 a 4 (stepG (sl z a) z (wI up) 4)) (f6 : z6 = puZ z5 a 9 (stepG (sl z a) z (wI up) 9))
    (f7 : z7 = puZ z6 a 1 (stepG (sl z a) z (wI up) 1)) (f8 : z8 = puZ z7 a 7 (stepG (sl z a) z (wI up) 7)) (f9 : z9 = puZ z8 a 0 (stepG (sl z a) z (wI up) 0)) (f10 : z10 = puZ z9 a (t + 11) (stepG (sl z a) z (wI up) (t + 11))) (f11 : z11 = puZ z10 a 3 (stepG (sl z a) z (wI up) 3)) : z11 = zS z a (wI up) := by
  have s1 : sl z1 a = sl z a := by rw [f1, sl_up (by omega)]
  have r1 : z1 = inG z1 a (sl z1 a) := inG_self.symm
  have r2 : z2 = inG z1 a (sl z2 a) := by rw [f2]; exact put_in (by omega) r1
  have r3 : z3 = inG z1 a (sl z3 a) := by rw [f3]; exact put_in (by omega) r2
  have r4 : z4 = inG z1 a (sl z4 a) := by rw [f4]; exact put_in (by omega) r3
  have r5 : z5 = inG z1 a (sl z5 a) := by rw [f5]; exact put_in (by omega) r4
  have r6 : z6 = inG z1 a (sl z6 a) := by rw [f6]; exact put_in (by omega) r5
  have r7 : z7 = inG z1 a (sl z7 a) := by rw [f7]; exact put_in (by omega) r6
  have r8 : z8 = inG z1 a (sl z8 a) := by rw [f8]; exact put_in (by omega) r7
  have r9 : z9 = inG z1 a (sl z9 a) := by rw [f9]; exact put_in (by omega) r8
  have r10 : z10 = inG z1 a (sl z10 a) := by rw [f10]; exact put_in (by omega) r9
  have r11 : z11 = inG z1 a (sl z11 a) := by rw [f11]; exact put_in (by omega) r10
  have h11 : sl z11 a = upd (upd (upd (upd (upd (upd (upd (upd (upd (upd (sl z a) 6 (stepG (sl z a) z (wI up) 6)) 8 (stepG (sl z a) z (wI up) 8)) 5 (stepG (sl z a) z (wI up) 5)) 4 (stepG (sl z a) z (wI up) 4)) 9 (stepG (sl z a) z (wI up) 9)) 1 (stepG (sl z a) z (wI up) 1)) 7 (stepG (sl z a) z (wI up) 7)) 0 (stepG (sl z a) z (wI up) 0)) (t + 11) (stepG (sl z a) z (wI up) (t + 11))) 3 (stepG (sl z a) z (wI up) 3) := by
    rw [f11, sl_pu (by omega), f10, sl_pu (by omega), f9, sl_pu (by omega), f8, sl_pu (by omega), f7, sl_pu (by omega), f6, sl_pu (by omega), f5, sl_pu (by omega), f4, sl_pu (by omega), f3, sl_pu (by omega), f2, sl_pu (by omega), s1]
  rw [zS_eq hc, ← f1, r11]
  refine inG_congr (fun j hj => ?_)
  rw [h11]
  refine ag (fun n3 => ag (fun nt => ag (fun n0 => ag (fun n7 => ag (fun n1 => ag (fun n9 => ag (fun n4 => ag (fun n5 => ag (fun n8 => ag (fun n6 => ?_))))))))))
  by_cases hj11 : j < 11
  · rcases (by omega : j = 2 ∨ j = 10) with rfl | rfl <;> rfl
  · obtain ⟨q, rfl⟩ : ∃ q, j = q + 11 := ⟨j - 11, by omega⟩
    show sl z a (q + 11) = wsF (fun q => sl z a (q + 11)) (tW (sl z a 0) (wI up)) (if 99 < gwr (sl z a) (tW (sl z a 0) (wI up)) + z 0 then 99 else gwr (sl z a) (tW (sl z a 0) (wI up)) + z 0) q
    unfold wsF
    rw [et, if_neg (nI_pos (by omega)), if_pos (show nI t < 24 from (nI_ltI (b := 24) (by omega) (by omega)).mpr ht), nI_clamp (by omega)]
    exact (upd_ne (f := fun q => sl z a (q + 11)) (by omega)).symm
theorem g5_y {x : Int32} (h : bd x 100) (h0 : 0 < x) : x - 1 = if x - 1 < 0 then 0 else x - 1 := by
  obtain ⟨n, hn, rfl⟩ := h
  have : ∀ n, n < 101 → 0 < nI n → nI n - 1 = if nI n - 1 < 0 then 0 else nI n - 1 := by decide +kernel
  exact this n (by omega) h0
theorem g5_n {x : Int32} (h : bd x 100) (h0 : ¬ 0 < x) : x = if x - 1 < 0 then 0 else x - 1 := by
  obtain ⟨n, hn, rfl⟩ := h
  have : ∀ n, n < 101 → ¬ 0 < nI n → nI n = if nI n - 1 < 0 then 0 else nI n - 1 := by decide +kernel
  exact this n (by omega) h0
theorem g4_y {x : Int32} (h : bd x 12) (h0 : x < 12) : x + 1 = if 12 < x + 1 then 12 else x + 1 := by
  obtain ⟨n, hn, rfl⟩ := h
  have : ∀ n, n < 13 → nI n < 12 → nI n + 1 = if 12 < nI n + 1 then 12 else nI n + 1 := by decide +kernel
  exact this n (by omega) h0
theorem g4_n {x : Int32} (h : bd x 12) (h0 : ¬ x < 12) : x = if 12 < x + 1 then 12 else x + 1 := by
  obtain ⟨n, hn, rfl⟩ := h
  have : ∀ n, n < 13 → ¬ nI n < 12 → nI n = if 12 < nI n + 1 then 12 else nI n + 1 := by decide +kernel
  exact this n (by omega) h0
theorem st4_t (h : turnG G v = true) : stepG G R v 4 = if 12 < G 4 + 1 then 12 else G 4 + 1 := if_pos h
theorem st4_f (h : ¬ turnG G v = true) : stepG G R v 4 = G 4 := if_neg h
theorem st9_t (h : turnG G v = true) : stepG G R v 9 = G 9 + 1 := if_pos h
theorem st9_f (h : ¬ turnG G v = true) : stepG G R v 9 = G 9 := if_neg h
/-- whether the step slips -/
def slB (z : Nat → Int32) (a : Nat) (up : Bool) : Bool := if turnG (sl z a) (wI up) = true then (if gwr (sl z a) (tW (sl z a 0) (wI up)) < z 2 then false else true) else false
theorem slB_v (h : turnG (sl z a) (wI up) = true) : (if gwr (sl z a) (tW (sl z a 0) (wI up)) < z 2 then (0 : Int32) else 1) = bI (slB z a up) := by
  unfold slB
  rw [if_pos h]
  by_cases h2 : gwr (sl z a) (tW (sl z a 0) (wI up)) < z 2
  · rw [if_pos h2, if_pos h2]; rfl
  · rw [if_neg h2, if_neg h2]; rfl
theorem slB_f (h : ¬ turnG (sl z a) (wI up) = true) : (0 : Int32) = bI (slB z a up) := by unfold slB; rw [if_neg h]; rfl
theorem slB_1 (h : slB z a up = true) : turnG (sl z a) (wI up) = true ∧ ¬ gwr (sl z a) (tW (sl z a 0) (wI up)) < z 2 := by
  unfold slB at h
  by_cases h1 : turnG (sl z a) (wI up) = true
  · rw [if_pos h1] at h
    exact ⟨h1, fun q => by rw [if_pos q] at h; exact absurd h (by decide)⟩
  · rw [if_neg h1] at h; exact absurd h (by decide)
theorem st7_y (h : slB z a up = true) : stepG (sl z a) z (wI up) 7 = sl z a 7 + 1 := (if_pos (slB_1 h).1).trans (if_neg (slB_1 h).2)
theorem st0_y (h : slB z a up = true) : stepG (sl z a) z (wI up) 0 = sl z a 0 := (if_pos (slB_1 h).1).trans (if_neg (slB_1 h).2)
theorem st7_n (h : slB z a up = false) : stepG (sl z a) z (wI up) 7 = sl z a 7 := by
  show (if turnG (sl z a) (wI up) = true then (if gwr (sl z a) (tW (sl z a 0) (wI up)) < z 2 then sl z a 7 else sl z a 7 + 1) else sl z a 7) = _
  unfold slB at h
  by_cases h1 : turnG (sl z a) (wI up) = true
  · rw [if_pos h1] at h ⊢
    by_cases h2 : gwr (sl z a) (tW (sl z a 0) (wI up)) < z 2
    · rw [if_pos h2]
    · rw [if_neg h2] at h; exact absurd h (by decide)
  · rw [if_neg h1]
theorem st0_n (h : slB z a up = false) : stepG (sl z a) z (wI up) 0 = nW (sl z a 0) (wI up) := by
  show (if turnG (sl z a) (wI up) = true then (if gwr (sl z a) (tW (sl z a 0) (wI up)) < z 2 then nW (sl z a 0) (wI up) else sl z a 0) else nW (sl z a 0) (wI up)) = _
  unfold slB at h
  by_cases h1 : turnG (sl z a) (wI up) = true
  · rw [if_pos h1] at h ⊢
    by_cases h2 : gwr (sl z a) (tW (sl z a 0) (wI up)) < z 2
    · rw [if_pos h2]
    · rw [if_neg h2] at h; exact absurd h (by decide)
  · rw [if_neg h1]
theorem st_w (et : tW (sl z a 0) (wI up) = nI t) (ht : t < 24) : stepG (sl z a) z (wI up) (t + 11) = if 99 < gwr (sl z a) (tW (sl z a 0) (wI up)) + z 0 then 99 else gwr (sl z a) (tW (sl z a 0) (wI up)) + z 0 := by
  show wsF (fun q => sl z a (q + 11)) (tW (sl z a 0) (wI up)) (if 99 < gwr (sl z a) (tW (sl z a 0) (wI up)) + z 0 then 99 else gwr (sl z a) (tW (sl z a 0) (wI up)) + z 0) t = _
  generalize (if 99 < gwr (sl z a) (tW (sl z a 0) (wI up)) + z 0 then 99 else gwr (sl z a) (tW (sl z a 0) (wI up)) + z 0) = v
  unfold wsF
  rw [et, if_neg (nI_pos (by omega)), if_pos (show nI t < 24 from (nI_ltI (b := 24) (by omega) (by omega)).mpr ht), nI_clamp (by omega)]
  exact upd_s
theorem can_f {z : Nat → Int32} {a : Nat} {T w : Int32} (hT : T = tollG (sl z a) z w) (h : z 6 < T) : (0 : Int32) = bI (canF z a w) := by unfold canF; rw [if_pos (hT ▸ h)]; rfl
theorem can_t {z : Nat → Int32} {a : Nat} {w : Int32} (h : ¬ z 6 < tollG (sl z a) z w) : (1 : Int32) = bI (canF z a w) := by unfold canF; rw [if_neg h]; rfl
end LP
