theorem hd_X4_gearAt : yX4_gearAt.cls ≠ "java/lang/invoke/MethodHandle" ∧ yX4_gearAt.cls ≠ "java/lang/invoke/VarHandle" ∧ (parseMethodDescriptor yX4_gearAt.desc).map (fun d => d.parameters.length) = some 1 := by decide +kernel
set_option maxRecDepth 100000 in
set_option maxHeartbeats 4000000 in
theorem m_X4_gearAt (l : Launch) (D : va_G) (kA : Nat → Nat) (ad : Nat → Nat) (X : Nat → Nat → Int32) (r : Nat) (a : Nat) (p0 : Int32) (hr : r < 7) (hp : p0 = nI a) (ha : a < 4) : Met l yX4_gearAt (Cond.code yX4_gearAt cX4_gearAt 2 (some (.object "ArmTolls$Gear")) :: AW) ({ frames := 0, cells := 0, slots := 0, locals := 0 } : Room) (Pz [.ref (sA ad r), .int p0] D (TY kA) (cw kA ad X)) (pQ (some (.ref (gA ad r a)))) 0 0 (fun _ => False) := by
  refine MetZ (by decide +kernel) (Nat.le_of_ble_eq_true rfl) ?_
  intro p e s m below meth c ls hx hb hrt hts hown hml hlk hnm hP hK hD hS hl
  have hl : lv_has ls 2 [(0, .ref (sA ad r)), (1, .int p0)] := hl
  refine lv_iload_n hx hb dX4_gearAt_0 rfl (lv_at hl 1 rfl) ?_
  refine lv_if_lt (tgt := 22) hx hb dX4_gearAt_1 (by decide) (fun c_1 => ?_) (fun c_1 => ?_)
  · exact absurd c_1 (neg_of hp (by omega))
  · skip
    refine lv_iload_n hx hb dX4_gearAt_4 rfl (lv_at hl 1 rfl) ?_
    refine lv_aload_n hx hb dX4_gearAt_5 rfl (lv_at hl 0 rfl) ?_
    refine va_get (ci := 4) (v := .ref (qA ad r)) (C := RX4) (T := TX4) (N := 4) hx hb hts inX4 hown hK hP _ (cw_state (kA := kA) (ad := ad) (X := X) (r := r) (by omega)) rfl 1 (by decide) (hts _ q_115) (fun _ h9 => h9) rfl dX4_gearAt_6 ?_
    refine va_alen (v := 4) hx hb hK hP _ 1 (cw_gears (kA := kA) (ad := ad) (X := X) (r := r) (by omega)) rfl rfl dX4_gearAt_9 ?_
    refine lv_icmp_ge (tgt := 22) hx hb dX4_gearAt_10 (by decide) (fun c_2 => ?_) (fun c_2 => ?_)
    · exact absurd c_2 (cnt_nge (N := 4) hp rfl (by decide) ha)
    · skip
      replace c_2 := nge_l c_2
      refine lv_aload_n hx hb dX4_gearAt_13 rfl (lv_at hl 0 rfl) ?_
      refine va_get (ci := 4) (v := .ref (qA ad r)) (C := RX4) (T := TX4) (N := 4) hx hb hts inX4 hown hK hP _ (cw_state (kA := kA) (ad := ad) (X := X) (r := r) (by omega)) rfl 1 (by decide) (hts _ q_115) (fun _ h9 => h9) rfl dX4_gearAt_14 ?_
      refine lv_iload_n hx hb dX4_gearAt_17 rfl (lv_at hl 1 rfl) ?_
      refine va_aldq (f := fun j => some (gA ad r j)) hx hb hK hP _ 1 (cw_gears (kA := kA) (ad := ad) (X := X) (r := r) (by omega)) rfl (in_nI hp ha (by decide)) dX4_gearAt_18 ?_
      rw [show va_rf ((fun j => some (gA ad r j)) p0.toNatClampNeg) = .ref (gA ad r a) from by rw [clamp_j hp (by omega)]; rfl]
      refine lv_goto (tgt := 23) hx hb dX4_gearAt_19 (by decide) ?_
      exact end_pa hx hb hrt hlk (Or.inr ⟨_, rfl⟩) (by first | rfl | (rw [Nat.zero_le]; done) | (simp only [c_1, c_2, ↓reduceIte, bI]; done) | (simp only [c_1, c_2, ↓reduceIte, bI]; rfl) | (simp [c_1, c_2, bI]; done)) dX4_gearAt_23

set_option maxRecDepth 100000 in
set_option maxHeartbeats 4000000 in
theorem m_X4_gearAt_n (l : Launch) (D : va_G) (kA : Nat → Nat) (ad : Nat → Nat) (X : Nat → Nat → Int32) (r : Nat) (p0 : Int32) (hr : r < 7) (hbad : p0 < 0 ∨ ¬ p0 < 4) : Met l yX4_gearAt (Cond.code yX4_gearAt cX4_gearAt 2 (some (.object "ArmTolls$Gear")) :: AW) ({ frames := 0, cells := 0, slots := 0, locals := 0 } : Room) (Pz [.ref (sA ad r), .int p0] D (TY kA) (cw kA ad X)) (pQ (some (.null))) 0 0 (fun _ => False) := by
  refine MetZ (by decide +kernel) (Nat.le_of_ble_eq_true rfl) ?_
  intro p e s m below meth c ls hx hb hrt hts hown hml hlk hnm hP hK hD hS hl
  have hl : lv_has ls 2 [(0, .ref (sA ad r)), (1, .int p0)] := hl
  refine lv_iload_n hx hb dX4_gearAt_0 rfl (lv_at hl 1 rfl) ?_
  refine lv_if_lt (tgt := 22) hx hb dX4_gearAt_1 (by decide) (fun c_1 => ?_) (fun c_1 => ?_)
  · skip
    refine lv_null hx hb dX4_gearAt_22 ?_
    exact end_pa hx hb hrt hlk (Or.inl rfl) (by first | rfl | (rw [Nat.zero_le]; done) | (simp only [c_1, ↓reduceIte, bI]; done) | (simp only [c_1, ↓reduceIte, bI]; rfl) | (simp [c_1, bI]; done)) dX4_gearAt_23
  · skip
    refine lv_iload_n hx hb dX4_gearAt_4 rfl (lv_at hl 1 rfl) ?_
    refine lv_aload_n hx hb dX4_gearAt_5 rfl (lv_at hl 0 rfl) ?_
    refine va_get (ci := 4) (v := .ref (qA ad r)) (C := RX4) (T := TX4) (N := 4) hx hb hts inX4 hown hK hP _ (cw_state (kA := kA) (ad := ad) (X := X) (r := r) (by omega)) rfl 1 (by decide) (hts _ q_115) (fun _ h9 => h9) rfl dX4_gearAt_6 ?_
    refine va_alen (v := 4) hx hb hK hP _ 1 (cw_gears (kA := kA) (ad := ad) (X := X) (r := r) (by omega)) rfl rfl dX4_gearAt_9 ?_
    refine lv_icmp_ge (tgt := 22) hx hb dX4_gearAt_10 (by decide) (fun c_2 => ?_) (fun c_2 => ?_)
    · skip
      replace c_2 := ge_n c_2
      refine lv_null hx hb dX4_gearAt_22 ?_
      exact end_pa hx hb hrt hlk (Or.inl rfl) (by first | rfl | (rw [Nat.zero_le]; done) | (simp only [c_1, c_2, ↓reduceIte, bI]; done) | (simp only [c_1, c_2, ↓reduceIte, bI]; rfl) | (simp [c_1, c_2, bI]; done)) dX4_gearAt_23
    · exact absurd c_2 (fun h => h (le_of_bad hbad c_1))

theorem hd_X4_payCare : yX4_payCare.cls ≠ "java/lang/invoke/MethodHandle" ∧ yX4_payCare.cls ≠ "java/lang/invoke/VarHandle" ∧ (parseMethodDescriptor yX4_payCare.desc).map (fun d => d.parameters.length) = some 1 := by decide +kernel
set_option maxRecDepth 100000 in
set_option maxHeartbeats 4000000 in
theorem m_X4_payCare (l : Launch) (D : va_G) (kA : Nat → Nat) (ad : Nat → Nat) (X : Nat → Nat → Int32) (r : Nat) (p0 : Int32) (hr : r < 7) : Met l yX4_payCare (Cond.code yX4_payCare cX4_payCare 2 none :: AW) ({ frames := 0, cells := 0, slots := 0, locals := 0 } : Room) (Pz [.ref (sA ad r), .int p0] D (TY kA) (cw kA ad X)) (fQ none D (cw kA ad X) (cw kA ad (up2 X r (payZ (X r) p0)))) 0 0 (Aw (cw kA ad X)) := by
  refine MetZ (by decide +kernel) (Nat.le_of_ble_eq_true rfl) ?_
  intro p e s m below meth c ls hx hb hrt hts hown hml hlk hnm hP hK hD hS hl
  have hl : lv_has ls 2 [(0, .ref (sA ad r)), (1, .int p0)] := hl
  refine lv_aload_n hx hb dX4_payCare_0 rfl (lv_at hl 0 rfl) ?_
  refine lv_dup hx hb dX4_payCare_1 rfl ?_
  refine va_get (ci := 4) (v := .int ((X r) 6)) (C := RX4) (T := TX4) (N := 4) hx hb hts inX4 hown hK hP _ (cw_state (kA := kA) (ad := ad) (X := X) (r := r) (by omega)) rfl 2 (by decide) (hts _ q_116) (fun _ h9 => h9) rfl dX4_payCare_2 ?_
  refine lv_iload_n hx hb dX4_payCare_5 rfl (lv_at hl 1 rfl) ?_
  refine lv_isub hx hb dX4_payCare_6 ?_
  refine va_put (ci := 4) (v := .int (((X r) 6) - p0)) (ty := tyX4 2) (C := RX4) (T := TX4) (N := 4) hx hb hts inX4 tyX4 tyX4_ok nmX4 hown hK hP hD hS _ (cw_state (kA := kA) (ad := ad) (X := X) (r := r) (by omega)) rfl 2 (by decide) (hts _ q_116) (fun _ h9 => h9) rfl (tyX4_ok 2 (by decide)) rfl rfl (Nat.le_of_ble_eq_true rfl) dX4_payCare_7 (fun H locs hP hD hS => ?_)
  have hP : va_P D vwCl (cw kA ad (up3 X r 6 (((X r) 6) - p0))) H := by rw [← st_purse (r := r) (by omega)]; exact hP
  have hD : va_D (Aw (cw kA ad X)) (cw kA ad (up3 X r 6 (((X r) 6) - p0))) := by rw [← st_purse (r := r) (by omega)]; exact hD
  refine lv_aload_n hx hb dX4_payCare_10 rfl (lv_at hl 0 rfl) ?_
  refine lv_dup hx hb dX4_payCare_11 rfl ?_
  refine va_get (ci := 4) (v := .int (((up3 X r 6 (((X r) 6) - p0)) r) 7)) (C := RX4) (T := TX4) (N := 4) hx hb hts inX4 hown hK hP _ (cw_state (kA := kA) (ad := ad) (X := up3 X r 6 (((X r) 6) - p0)) (r := r) (by omega)) rfl 3 (by decide) (hts _ q_118) (fun _ h9 => h9) rfl dX4_payCare_12 ?_
  refine lv_iload_n hx hb dX4_payCare_15 rfl (lv_at hl 1 rfl) ?_
  refine lv_iadd hx hb dX4_payCare_16 ?_
  refine va_put (ci := 4) (v := .int ((((up3 X r 6 (((X r) 6) - p0)) r) 7) + p0)) (ty := tyX4 3) (C := RX4) (T := TX4) (N := 4) hx hb hts inX4 tyX4 tyX4_ok nmX4 hown hK hP hD hS _ (cw_state (kA := kA) (ad := ad) (X := up3 X r 6 (((X r) 6) - p0)) (r := r) (by omega)) rfl 3 (by decide) (hts _ q_118) (fun _ h9 => h9) rfl (tyX4_ok 3 (by decide)) rfl rfl (Nat.le_of_ble_eq_true rfl) dX4_payCare_17 (fun H locs hP hD hS => ?_)
  have hP : va_P D vwCl (cw kA ad (up3 (up3 X r 6 (((X r) 6) - p0)) r 7 ((((up3 X r 6 (((X r) 6) - p0)) r) 7) + p0))) H := by rw [← st_care (r := r) (by omega)]; exact hP
  have hD : va_D (Aw (cw kA ad X)) (cw kA ad (up3 (up3 X r 6 (((X r) 6) - p0)) r 7 ((((up3 X r 6 (((X r) 6) - p0)) r) 7) + p0))) := by rw [← st_care (r := r) (by omega)]; exact hD
  exact end_fv hx hb hrt hlk hP hS (fun h => by rw [← payX_eq]; exact h) dX4_payCare_20

theorem hd_X4_sumOf : yX4_sumOf.cls ≠ "java/lang/invoke/MethodHandle" ∧ yX4_sumOf.cls ≠ "java/lang/invoke/VarHandle" ∧ (parseMethodDescriptor yX4_sumOf.desc).map (fun d => d.parameters.length) = some 1 := by decide +kernel
set_option maxRecDepth 100000 in
set_option maxHeartbeats 4000000 in
theorem m_X4_sumOf (l : Launch) (D : va_G) (kA : Nat → Nat) (ad : Nat → Nat) (X : Nat → Nat → Int32) (r : Nat) (p0 : Int32) (hr : r < 7) : Met l yX4_sumOf (Cond.code yX4_sumOf cX4_sumOf 5 (some .int) :: AW) ({ frames := 3, cells := 0, slots := 0, locals := 65 } : Room) (Pz [.ref (sA ad r), .int p0] D (TY kA) (cw kA ad X)) (pQ (some (.int (sumX (X r) p0)))) 0 0 (fun _ => False) := by
  refine MetZ (by decide +kernel) (Nat.le_of_ble_eq_true rfl) ?_
  intro p e s m below meth c ls hx hb hrt hts hown hml hlk hnm hP hK hD hS hl
  have hl : lv_has ls 5 [(0, .ref (sA ad r)), (1, .int p0)] := hl
  refine lv_iconst (v := 0) hx hb dX4_sumOf_0 (by decide) ?_
  refine lv_istore_n (lv' := [(2, .int 0), (0, .ref (sA ad r)), (1, .int p0)]) hx hb dX4_sumOf_1 rfl hl (by decide) rfl (fun ls hl => ?_)
  refine lv_iconst (v := 0) hx hb dX4_sumOf_2 (by decide) ?_
  refine lv_istore_n (lv' := [(3, .int 0), (2, .int 0), (0, .ref (sA ad r)), (1, .int p0)]) hx hb dX4_sumOf_3 rfl hl (by decide) rfl (fun ls hl => ?_)
  have loop_4 : ∀ (n : Nat) (j : Nat) (x2 : Int32) (x3 : Int32) (hj : j + n = 4) (e3 : x3 = nI j) (hres : foldL (fun a s => s + propG (sl (X r) a) p0) n j x2 = sumX (X r) p0), ∀ ls : Array Slot, lv_has ls 5 [(0, .ref (sA ad r)), (1, .int p0), (2, .int x2), (3, .int x3)] → W p l e ({ frames := 3, cells := 0, slots := 0, locals := 65 } : Room) s m [.ref (sA ad r), .int p0].toArray below meth c s.heap [] 0 0 (MQ below (pQ (some (.int (sumX (X r) p0)))) [.ref (sA ad r), .int p0].toArray s 0 0 (fun _ => False)) (F0 m 4 ls []) := by
    clear hl
    intro n
    induction n with
    | zero =>
      intro j x2 x3 hj e3 hres  ls hl
      refine lv_iload_n hx hb dX4_sumOf_4 rfl (lv_at hl 3 rfl) ?_
      refine lv_iconst (v := 4) hx hb dX4_sumOf_5 (by decide) ?_
      refine lv_icmp_ge (tgt := 36) hx hb dX4_sumOf_6 (by decide) (fun c_1 => ?_) (fun c_1 => ?_)
      · skip
        replace c_1 := ge_n c_1
        refine lv_iload_n hx hb dX4_sumOf_36 rfl (lv_at hl 2 rfl) ?_
        exact end_pi hx hb hrt hlk (hres) dX4_sumOf_37
      · exact absurd c_1 (fun h => h (cnt_ge (N := 4) e3 rfl (by omega) (by omega)))
    | succ n ih4 =>
      intro j x2 x3 hj e3 hres  ls hl
      refine lv_iload_n hx hb dX4_sumOf_4 rfl (lv_at hl 3 rfl) ?_
      refine lv_iconst (v := 4) hx hb dX4_sumOf_5 (by decide) ?_
      refine lv_icmp_ge (tgt := 36) hx hb dX4_sumOf_6 (by decide) (fun c_2 => ?_) (fun c_2 => ?_)
      · exact absurd c_2 (cnt_nge (N := 4) e3 rfl (by decide) (by omega))
      · skip
        replace c_2 := nge_l c_2
        refine lv_aload_n hx hb dX4_sumOf_9 rfl (lv_at hl 0 rfl) ?_
        refine lv_iload_n hx hb dX4_sumOf_10 rfl (lv_at hl 3 rfl) ?_
        refine cs_p (runV (As := [.int x3]) (rest := []) ⟨hx, hb, hml, hown, hts⟩ (m_X4_gearAt l D kA ad X r j x3 (hr) (e3) (by omega)) q_370 q_226 q_227 q_2 q_228 hd_X4_gearAt ⟨rfl, rfl⟩ ⟨Nat.le_of_ble_eq_true rfl, Nat.le_of_ble_eq_true rfl⟩ hK (ws := (cw kA ad X)) hP hD _ (ci := 4) (C := RX4) (T := TX4) (N := 4) rfl (cw_state (kA := kA) (ad := ad) (X := X) (r := r) (by omega)) rfl hl.1 rfl (Nat.le_of_ble_eq_true rfl) dX4_sumOf_11 ⟨Nat.zero_le _, Nat.zero_le _⟩) ?_
        refine lv_astore (lv' := [(4, .ref (gA ad r j)), (0, .ref (sA ad r)), (1, .int p0), (2, .int x2), (3, .int x3)]) hx hb dX4_sumOf_14 hl (by decide) rfl (fun ls hl => ?_)
        refine lv_aload hx hb dX4_sumOf_16 (lv_at hl 0 rfl) ?_
        refine lv_ifnull hx hb dX4_sumOf_18 ?_
        refine lv_iload_n hx hb dX4_sumOf_21 rfl (lv_at hl 3 rfl) ?_
        refine lv_aload hx hb dX4_sumOf_22 (lv_at hl 0 rfl) ?_
        refine lv_iload_n hx hb dX4_sumOf_24 rfl (lv_at hl 2 rfl) ?_
        refine cs_p (runV (As := [.int p0]) (rest := [.int x2]) ⟨hx, hb, hml, hown, hts⟩ (m_X0_property l D kA (gA ad r j) (wA ad r j) (sl ((X r)) j) p0 ) q_557 q_531 q_532 q_4 q_533 hd_X0_property ⟨rfl, rfl⟩ ⟨Nat.le_of_ble_eq_true rfl, Nat.le_of_ble_eq_true rfl⟩ hK (ws := [((gA ad r j), gC (wA ad r j) (sl ((X r)) j)), ((wA ad r j), wC kA (sl ((X r)) j))]) (P2 hP (cw_gear (kA := kA) (ad := ad) (X := X) (r := r) (a := j) (by omega) (by omega)) (cw_wears (kA := kA) (ad := ad) (X := X) (r := r) (a := j) (by omega) (by omega))) (D2 hD (cw_gear (kA := kA) (ad := ad) (X := X) (r := r) (a := j) (by omega) (by omega)) (cw_wears (kA := kA) (ad := ad) (X := X) (r := r) (a := j) (by omega) (by omega)) (by omega)) 0 (ci := 0) (C := RX0) (T := TX0) (N := 12) rfl rfl rfl hl.1 rfl (Nat.le_of_ble_eq_true rfl) dX4_sumOf_25 ⟨Nat.zero_le _, Nat.zero_le _⟩) ?_
        refine lv_iadd hx hb dX4_sumOf_28 ?_
        refine lv_istore_n (lv' := [(2, .int (x2 + (propG (sl ((X r)) j) p0))), (4, .ref (gA ad r j)), (0, .ref (sA ad r)), (1, .int p0), (3, .int x3)]) hx hb dX4_sumOf_29 rfl hl (by decide) rfl (fun ls hl => ?_)
        refine lv_iinc (v := x3 + 1) (lv' := [(3, .int (x3 + 1)), (2, .int (x2 + (propG (sl ((X r)) j) p0))), (4, .ref (gA ad r j)), (0, .ref (sA ad r)), (1, .int p0)]) hx hb dX4_sumOf_30 hl (k := 4) rfl (by first | rfl | exact congrArg (_ + ·) (by decide)) (by decide) rfl (fun ls hl => ?_)
        refine lv_goto (tgt := 4) hx hb dX4_sumOf_33 (by decide) ?_
        exact ih4 (j + 1) (x2 + (propG (sl ((X r)) j) p0)) (x3 + 1) (by omega) (by rw [e3]; exact nI_1 j) (hres) ls (lv_sub hl [3, 4, 1, 0] rfl)
  exact loop_4 4 0 0 0 (by omega) (nI_0.symm) (rfl) ls (lv_sub hl [2, 3, 1, 0] rfl)

theorem hd_X4_axesWhereBelieved : yX4_axesWhereBelieved.cls ≠ "java/lang/invoke/MethodHandle" ∧ yX4_axesWhereBelieved.cls ≠ "java/lang/invoke/VarHandle" ∧ (parseMethodDescriptor yX4_axesWhereBelieved.desc).map (fun d => d.parameters.length) = some 0 := by decide +kernel
set_option maxRecDepth 100000 in
set_option maxHeartbeats 4000000 in
theorem m_X4_axesWhereBelieved (l : Launch) (D : va_G) (kA : Nat → Nat) (ad : Nat → Nat) (X : Nat → Nat → Int32) (r : Nat) (hr : r < 7) : Met l yX4_axesWhereBelieved (Cond.code yX4_axesWhereBelieved cX4_axesWhereBelieved 4 (some .int) :: AW) ({ frames := 1, cells := 0, slots := 0, locals := 21 } : Room) (Pz [.ref (sA ad r)] D (TY kA) (cw kA ad X)) (pQ (some (.int (belX (X r))))) 0 0 (fun _ => False) := by
  refine MetZ (by decide +kernel) (Nat.le_of_ble_eq_true rfl) ?_
  intro p e s m below meth c ls hx hb hrt hts hown hml hlk hnm hP hK hD hS hl
  have hl : lv_has ls 4 [(0, .ref (sA ad r))] := hl
  refine lv_iconst (v := 0) hx hb dX4_axesWhereBelieved_0 (by decide) ?_
  refine lv_istore_n (lv' := [(1, .int 0), (0, .ref (sA ad r))]) hx hb dX4_axesWhereBelieved_1 rfl hl (by decide) rfl (fun ls hl => ?_)
  refine lv_iconst (v := 0) hx hb dX4_axesWhereBelieved_2 (by decide) ?_
  refine lv_istore_n (lv' := [(2, .int 0), (1, .int 0), (0, .ref (sA ad r))]) hx hb dX4_axesWhereBelieved_3 rfl hl (by decide) rfl (fun ls hl => ?_)
  have loop_4 : ∀ (n : Nat) (j : Nat) (x1 : Int32) (x2 : Int32) (hj : j + n = 4) (e3 : x2 = nI j) (hres : foldL (fun a s => if sl (X r) a 0 = sl (X r) a 1 then s + 1 else s) n j x1 = belX (X r)), ∀ ls : Array Slot, lv_has ls 4 [(0, .ref (sA ad r)), (1, .int x1), (2, .int x2)] → W p l e ({ frames := 1, cells := 0, slots := 0, locals := 21 } : Room) s m [.ref (sA ad r)].toArray below meth c s.heap [] 0 0 (MQ below (pQ (some (.int (belX (X r))))) [.ref (sA ad r)].toArray s 0 0 (fun _ => False)) (F0 m 4 ls []) := by
    clear hl
    intro n
    induction n with
    | zero =>
      intro j x1 x2 hj e3 hres  ls hl
      refine lv_iload_n hx hb dX4_axesWhereBelieved_4 rfl (lv_at hl 2 rfl) ?_
      refine lv_iconst (v := 4) hx hb dX4_axesWhereBelieved_5 (by decide) ?_
      refine lv_icmp_ge (tgt := 39) hx hb dX4_axesWhereBelieved_6 (by decide) (fun c_1 => ?_) (fun c_1 => ?_)
      · skip
        replace c_1 := ge_n c_1
        refine lv_iload_n hx hb dX4_axesWhereBelieved_39 rfl (lv_at hl 1 rfl) ?_
        exact end_pi hx hb hrt hlk (hres) dX4_axesWhereBelieved_40
      · exact absurd c_1 (fun h => h (cnt_ge (N := 4) e3 rfl (by omega) (by omega)))
    | succ n ih4 =>
      intro j x1 x2 hj e3 hres  ls hl
      refine lv_iload_n hx hb dX4_axesWhereBelieved_4 rfl (lv_at hl 2 rfl) ?_
      refine lv_iconst (v := 4) hx hb dX4_axesWhereBelieved_5 (by decide) ?_
      refine lv_icmp_ge (tgt := 39) hx hb dX4_axesWhereBelieved_6 (by decide) (fun c_2 => ?_) (fun c_2 => ?_)
      · exact absurd c_2 (cnt_nge (N := 4) e3 rfl (by decide) (by omega))
      · skip
        replace c_2 := nge_l c_2
        refine lv_aload_n hx hb dX4_axesWhereBelieved_9 rfl (lv_at hl 0 rfl) ?_
        refine lv_iload_n hx hb dX4_axesWhereBelieved_10 rfl (lv_at hl 2 rfl) ?_
        refine cs_p (runV (As := [.int x2]) (rest := []) ⟨hx, hb, hml, hown, hts⟩ (m_X4_gearAt l D kA ad X r j x2 (hr) (e3) (by omega)) q_370 q_226 q_227 q_2 q_228 hd_X4_gearAt ⟨rfl, rfl⟩ ⟨Nat.le_of_ble_eq_true rfl, Nat.le_of_ble_eq_true rfl⟩ hK (ws := (cw kA ad X)) hP hD _ (ci := 4) (C := RX4) (T := TX4) (N := 4) rfl (cw_state (kA := kA) (ad := ad) (X := X) (r := r) (by omega)) rfl hl.1 rfl (Nat.le_of_ble_eq_true rfl) dX4_axesWhereBelieved_11 ⟨Nat.zero_le _, Nat.zero_le _⟩) ?_
        refine lv_astore_n (lv' := [(3, .ref (gA ad r j)), (0, .ref (sA ad r)), (1, .int x1), (2, .int x2)]) hx hb dX4_axesWhereBelieved_14 rfl hl (by decide) rfl (fun ls hl => ?_)
        refine lv_aload_n hx hb dX4_axesWhereBelieved_15 rfl (lv_at hl 0 rfl) ?_
        refine lv_ifnull hx hb dX4_axesWhereBelieved_16 ?_
        refine lv_aload_n hx hb dX4_axesWhereBelieved_19 rfl (lv_at hl 0 rfl) ?_
        refine va_get (ci := 0) (v := .int (sl ((X r)) j 0)) (C := RX0) (T := TX0) (N := 12) hx hb hts inX0 hown hK hP _ (cw_gear (kA := kA) (ad := ad) (X := X) (r := r) (a := j) (by omega) (by omega)) rfl 1 (by decide) (hts _ q_70) (fun _ h9 => h9) rfl dX4_axesWhereBelieved_20 ?_
        refine lv_aload_n hx hb dX4_axesWhereBelieved_23 rfl (lv_at hl 0 rfl) ?_
        refine va_get (ci := 0) (v := .int (sl ((X r)) j 1)) (C := RX0) (T := TX0) (N := 12) hx hb hts inX0 hown hK hP _ (cw_gear (kA := kA) (ad := ad) (X := X) (r := r) (a := j) (by omega) (by omega)) rfl 2 (by decide) (hts _ q_72) (fun _ h9 => h9) rfl dX4_axesWhereBelieved_24 ?_
        refine lv_icmp_ne (tgt := 33) hx hb dX4_axesWhereBelieved_27 (by decide) (fun c_3 => ?_) (fun c_3 => ?_)
        · skip
          refine lv_iinc (v := x2 + 1) (lv' := [(2, .int (x2 + 1)), (3, .ref (gA ad r j)), (0, .ref (sA ad r)), (1, .int x1)]) hx hb dX4_axesWhereBelieved_33 hl (k := 3) rfl (by first | rfl | exact congrArg (_ + ·) (by decide)) (by decide) rfl (fun ls hl => ?_)
          refine lv_goto (tgt := 4) hx hb dX4_axesWhereBelieved_36 (by decide) ?_
          exact ih4 (j + 1) x1 (x2 + 1) (by omega) (by rw [e3]; exact nI_1 j) (fold_1 (if_neg c_3) hres) ls (lv_sub hl [2, 3, 0] rfl)
        · skip
          refine lv_iinc (v := x1 + 1) (lv' := [(1, .int (x1 + 1)), (3, .ref (gA ad r j)), (0, .ref (sA ad r)), (2, .int x2)]) hx hb dX4_axesWhereBelieved_30 hl (k := 2) rfl (by first | rfl | exact congrArg (_ + ·) (by decide)) (by decide) rfl (fun ls hl => ?_)
          refine lv_iinc (v := x2 + 1) (lv' := [(2, .int (x2 + 1)), (1, .int (x1 + 1)), (3, .ref (gA ad r j)), (0, .ref (sA ad r))]) hx hb dX4_axesWhereBelieved_33 hl (k := 3) rfl (by first | rfl | exact congrArg (_ + ·) (by decide)) (by decide) rfl (fun ls hl => ?_)
          refine lv_goto (tgt := 4) hx hb dX4_axesWhereBelieved_36 (by decide) ?_
          exact ih4 (j + 1) (x1 + 1) (x2 + 1) (by omega) (by rw [e3]; exact nI_1 j) (fold_1 (if_pos c_3) hres) ls (lv_sub hl [3, 1, 0] rfl)
  exact loop_4 4 0 0 0 (by omega) (nI_0.symm) (rfl) ls (lv_sub hl [2, 1, 0] rfl)

theorem hd_X4_wearOfAll : yX4_wearOfAll.cls ≠ "java/lang/invoke/MethodHandle" ∧ yX4_wearOfAll.cls ≠ "java/lang/invoke/VarHandle" ∧ (parseMethodDescriptor yX4_wearOfAll.desc).map (fun d => d.parameters.length) = some 0 := by decide +kernel
set_option maxRecDepth 100000 in
set_option maxHeartbeats 4000000 in
theorem m_X4_wearOfAll (l : Launch) (D : va_G) (kA : Nat → Nat) (ad : Nat → Nat) (X : Nat → Nat → Int32) (r : Nat) (hr : r < 7) : Met l yX4_wearOfAll (Cond.code yX4_wearOfAll cX4_wearOfAll 5 (some .int) :: AW) ({ frames := 1, cells := 0, slots := 0, locals := 21 } : Room) (Pz [.ref (sA ad r)] D (TY kA) (cw kA ad X)) (pQ (some (.int (wearX (X r))))) 0 0 (fun _ => False) := by
  refine MetZ (by decide +kernel) (Nat.le_of_ble_eq_true rfl) ?_
  intro p e s m below meth c ls hx hb hrt hts hown hml hlk hnm hP hK hD hS hl
  have hl : lv_has ls 5 [(0, .ref (sA ad r))] := hl
  refine lv_iconst (v := 0) hx hb dX4_wearOfAll_0 (by decide) ?_
  refine lv_istore_n (lv' := [(1, .int 0), (0, .ref (sA ad r))]) hx hb dX4_wearOfAll_1 rfl hl (by decide) rfl (fun ls hl => ?_)
  refine lv_iconst (v := 0) hx hb dX4_wearOfAll_2 (by decide) ?_
  refine lv_istore_n (lv' := [(2, .int 0), (1, .int 0), (0, .ref (sA ad r))]) hx hb dX4_wearOfAll_3 rfl hl (by decide) rfl (fun ls hl => ?_)
  have loop_4 : ∀ (n : Nat) (j : Nat) (x1 : Int32) (x2 : Int32) (hj : j + n = 4) (e3 : x2 = nI j) (hres : foldL (fun a s => foldL (fun t s => s + gwr (sl (X r) a) (nI t)) 24 0 s) n j x1 = wearX (X r)), ∀ ls : Array Slot, lv_has ls 5 [(0, .ref (sA ad r)), (1, .int x1), (2, .int x2)] → W p l e ({ frames := 1, cells := 0, slots := 0, locals := 21 } : Room) s m [.ref (sA ad r)].toArray below meth c s.heap [] 0 0 (MQ below (pQ (some (.int (wearX (X r))))) [.ref (sA ad r)].toArray s 0 0 (fun _ => False)) (F0 m 4 ls []) := by
    clear hl
    intro n
    induction n with
    | zero =>
      intro j x1 x2 hj e3 hres  ls hl
      refine lv_iload_n hx hb dX4_wearOfAll_4 rfl (lv_at hl 2 rfl) ?_
      refine lv_iconst (v := 4) hx hb dX4_wearOfAll_5 (by decide) ?_
      refine lv_icmp_ge (tgt := 50) hx hb dX4_wearOfAll_6 (by decide) (fun c_1 => ?_) (fun c_1 => ?_)
      · skip
        replace c_1 := ge_n c_1
        refine lv_iload_n hx hb dX4_wearOfAll_50 rfl (lv_at hl 1 rfl) ?_
        exact end_pi hx hb hrt hlk (hres) dX4_wearOfAll_51
      · exact absurd c_1 (fun h => h (cnt_ge (N := 4) e3 rfl (by omega) (by omega)))
    | succ n ih4 =>
      intro j x1 x2 hj e3 hres  ls hl
      refine lv_iload_n hx hb dX4_wearOfAll_4 rfl (lv_at hl 2 rfl) ?_
      refine lv_iconst (v := 4) hx hb dX4_wearOfAll_5 (by decide) ?_
      refine lv_icmp_ge (tgt := 50) hx hb dX4_wearOfAll_6 (by decide) (fun c_2 => ?_) (fun c_2 => ?_)
      · exact absurd c_2 (cnt_nge (N := 4) e3 rfl (by decide) (by omega))
      · skip
        replace c_2 := nge_l c_2
        refine lv_aload_n hx hb dX4_wearOfAll_9 rfl (lv_at hl 0 rfl) ?_
        refine lv_iload_n hx hb dX4_wearOfAll_10 rfl (lv_at hl 2 rfl) ?_
        refine cs_p (runV (As := [.int x2]) (rest := []) ⟨hx, hb, hml, hown, hts⟩ (m_X4_gearAt l D kA ad X r j x2 (hr) (e3) (by omega)) q_370 q_226 q_227 q_2 q_228 hd_X4_gearAt ⟨rfl, rfl⟩ ⟨Nat.le_of_ble_eq_true rfl, Nat.le_of_ble_eq_true rfl⟩ hK (ws := (cw kA ad X)) hP hD _ (ci := 4) (C := RX4) (T := TX4) (N := 4) rfl (cw_state (kA := kA) (ad := ad) (X := X) (r := r) (by omega)) rfl hl.1 rfl (Nat.le_of_ble_eq_true rfl) dX4_wearOfAll_11 ⟨Nat.zero_le _, Nat.zero_le _⟩) ?_
        refine lv_astore_n (lv' := [(3, .ref (gA ad r j)), (0, .ref (sA ad r)), (1, .int x1), (2, .int x2)]) hx hb dX4_wearOfAll_14 rfl hl (by decide) rfl (fun ls hl => ?_)
        refine lv_iconst (v := 0) hx hb dX4_wearOfAll_15 (by decide) ?_
        refine lv_istore (lv' := [(4, .int 0), (3, .ref (gA ad r j)), (0, .ref (sA ad r)), (1, .int x1), (2, .int x2)]) hx hb dX4_wearOfAll_16 hl (by decide) rfl (fun ls hl => ?_)
        have loop_18 : ∀ (n2 : Nat) (t : Nat) (y1 : Int32) (y4 : Int32) (ht : t + n2 = 24) (e4 : y4 = nI t) (hrs : foldL (fun a s => foldL (fun t s => s + gwr (sl (X r) a) (nI t)) 24 0 s) n (j + 1) (foldL (fun t s => s + gwr (sl (X r) j) (nI t)) n2 t y1) = wearX (X r)), ∀ ls : Array Slot, lv_has ls 5 [(0, .ref (sA ad r)), (1, .int y1), (2, .int x2), (3, .ref (gA ad r j)), (4, .int y4)] → W p l e ({ frames := 1, cells := 0, slots := 0, locals := 21 } : Room) s m [.ref (sA ad r)].toArray below meth c s.heap [] 0 0 (MQ below (pQ (some (.int (wearX (X r))))) [.ref (sA ad r)].toArray s 0 0 (fun _ => False)) (F0 m 18 ls []) := by
          clear hl
          intro n2
          induction n2 with
          | zero =>
            intro t y1 y4 ht e4 hrs  ls hl
            refine lv_iload hx hb dX4_wearOfAll_18 (lv_at hl 4 rfl) ?_
            refine lv_bipush (v := 24) hx hb dX4_wearOfAll_20 (by decide) ?_
            refine lv_icmp_ge (tgt := 44) hx hb dX4_wearOfAll_22 (by decide) (fun c_3 => ?_) (fun c_3 => ?_)
            · skip
              replace c_3 := ge_n c_3
              refine lv_iinc (v := x2 + 1) (lv' := [(2, .int (x2 + 1)), (0, .ref (sA ad r)), (1, .int y1), (3, .ref (gA ad r j)), (4, .int y4)]) hx hb dX4_wearOfAll_44 hl (k := 2) rfl (by first | rfl | exact congrArg (_ + ·) (by decide)) (by decide) rfl (fun ls hl => ?_)
              refine lv_goto (tgt := 4) hx hb dX4_wearOfAll_47 (by decide) ?_
              exact ih4 (j + 1) y1 (x2 + 1) (by omega) (by rw [e3]; exact nI_1 j) (hrs) ls (lv_sub hl [1, 2, 0] rfl)
            · exact absurd c_3 (fun h => h (cnt_ge (N := 24) e4 rfl (by omega) (by omega)))
          | succ n2 ih18 =>
            intro t y1 y4 ht e4 hrs  ls hl
            refine lv_iload hx hb dX4_wearOfAll_18 (lv_at hl 4 rfl) ?_
            refine lv_bipush (v := 24) hx hb dX4_wearOfAll_20 (by decide) ?_
            refine lv_icmp_ge (tgt := 44) hx hb dX4_wearOfAll_22 (by decide) (fun c_4 => ?_) (fun c_4 => ?_)
            · exact absurd c_4 (cnt_nge (N := 24) e4 rfl (by decide) (by omega))
            · skip
              replace c_4 := nge_l c_4
              refine lv_aload_n hx hb dX4_wearOfAll_25 rfl (lv_at hl 3 rfl) ?_
              refine lv_ifnull hx hb dX4_wearOfAll_26 ?_
              refine lv_iload_n hx hb dX4_wearOfAll_29 rfl (lv_at hl 1 rfl) ?_
              refine lv_aload_n hx hb dX4_wearOfAll_30 rfl (lv_at hl 3 rfl) ?_
              refine lv_iload hx hb dX4_wearOfAll_31 (lv_at hl 4 rfl) ?_
              refine cs_p (runV (As := [.int y4]) (rest := [.int y1]) ⟨hx, hb, hml, hown, hts⟩ (m_X0_wearOf l D kA (gA ad r j) (wA ad r j) ((sl ((X r)) j) 0) ((sl ((X r)) j) 1) ((sl ((X r)) j) 2) ((sl ((X r)) j) 3) ((sl ((X r)) j) 4) ((sl ((X r)) j) 5) ((sl ((X r)) j) 6) ((sl ((X r)) j) 7) ((sl ((X r)) j) 8) ((sl ((X r)) j) 9) ((sl ((X r)) j) 10) (fun t => (sl ((X r)) j) (t + 11)) y4 ) q_562 q_328 q_329 q_4 q_330 hd_X0_wearOf ⟨rfl, rfl⟩ ⟨Nat.le_of_ble_eq_true rfl, Nat.le_of_ble_eq_true rfl⟩ hK (ws := [((gA ad r j), .inr (0, [.ref (wA ad r j), .int ((sl ((X r)) j) 0), .int ((sl ((X r)) j) 1), .int ((sl ((X r)) j) 2), .int ((sl ((X r)) j) 3), .int ((sl ((X r)) j) 4), .int ((sl ((X r)) j) 5), .int ((sl ((X r)) j) 6), .int ((sl ((X r)) j) 7), .int ((sl ((X r)) j) 8), .int ((sl ((X r)) j) 9), .int ((sl ((X r)) j) 10)])), ((wA ad r j), .inl (kA 0, 24, .inl (fun t => (sl ((X r)) j) (t + 11))))]) (P2 hP (cw_gear (kA := kA) (ad := ad) (X := X) (r := r) (a := j) (by omega) (by omega)) (cw_wears (kA := kA) (ad := ad) (X := X) (r := r) (a := j) (by omega) (by omega))) (D2 hD (cw_gear (kA := kA) (ad := ad) (X := X) (r := r) (a := j) (by omega) (by omega)) (cw_wears (kA := kA) (ad := ad) (X := X) (r := r) (a := j) (by omega) (by omega)) (by omega)) 0 (ci := 0) (C := RX0) (T := TX0) (N := 12) rfl rfl rfl hl.1 rfl (Nat.le_of_ble_eq_true rfl) dX4_wearOfAll_33 ⟨Nat.zero_le _, Nat.zero_le _⟩) ?_
              refine lv_iadd hx hb dX4_wearOfAll_36 ?_
              refine lv_istore_n (lv' := [(1, .int (y1 + (wrF (fun t => (sl ((X r)) j) (t + 11)) y4))), (0, .ref (sA ad r)), (2, .int x2), (3, .ref (gA ad r j)), (4, .int y4)]) hx hb dX4_wearOfAll_37 rfl hl (by decide) rfl (fun ls hl => ?_)
              refine lv_iinc (v := y4 + 1) (lv' := [(4, .int (y4 + 1)), (1, .int (y1 + (wrF (fun t => (sl ((X r)) j) (t + 11)) y4))), (0, .ref (sA ad r)), (2, .int x2), (3, .ref (gA ad r j))]) hx hb dX4_wearOfAll_38 hl (k := 4) rfl (by first | rfl | exact congrArg (_ + ·) (by decide)) (by decide) rfl (fun ls hl => ?_)
              refine lv_goto (tgt := 18) hx hb dX4_wearOfAll_41 (by decide) ?_
              exact ih18 (t + 1) (y1 + (wrF (fun t => (sl ((X r)) j) (t + 11)) y4)) (y4 + 1) (by omega) (by rw [e4]; exact nI_1 t) (fold_2 (by show y1 + gwr (sl (X r) j) (nI t) = _; rw [← e4]; rfl) hrs) ls (lv_sub hl [2, 1, 3, 4, 0] rfl)
        exact loop_18 24 0 x1 0 (by omega) (nI_0.symm) (by rw [← hres]; rfl) ls (lv_sub hl [2, 3, 4, 1, 0] rfl)
  exact loop_4 4 0 0 0 (by omega) (nI_0.symm) (rfl) ls (lv_sub hl [2, 1, 0] rfl)

theorem hd_X4_teethWornTo : yX4_teethWornTo.cls ≠ "java/lang/invoke/MethodHandle" ∧ yX4_teethWornTo.cls ≠ "java/lang/invoke/VarHandle" ∧ (parseMethodDescriptor yX4_teethWornTo.desc).map (fun d => d.parameters.length) = some 1 := by decide +kernel
set_option maxRecDepth 100000 in
set_option maxHeartbeats 4000000 in
theorem m_X4_teethWornTo (l : Launch) (D : va_G) (kA : Nat → Nat) (ad : Nat → Nat) (X : Nat → Nat → Int32) (r : Nat) (p0 : Int32) (hr : r < 7) : Met l yX4_teethWornTo (Cond.code yX4_teethWornTo cX4_teethWornTo 6 (some .int) :: AW) ({ frames := 1, cells := 0, slots := 0, locals := 21 } : Room) (Pz [.ref (sA ad r), .int p0] D (TY kA) (cw kA ad X)) (pQ (some (.int (wornX (X r) p0)))) 0 0 (fun _ => False) := by
  refine MetZ (by decide +kernel) (Nat.le_of_ble_eq_true rfl) ?_
  intro p e s m below meth c ls hx hb hrt hts hown hml hlk hnm hP hK hD hS hl
  have hl : lv_has ls 6 [(0, .ref (sA ad r)), (1, .int p0)] := hl
  refine lv_iconst (v := 0) hx hb dX4_teethWornTo_0 (by decide) ?_
  refine lv_istore_n (lv' := [(2, .int 0), (0, .ref (sA ad r)), (1, .int p0)]) hx hb dX4_teethWornTo_1 rfl hl (by decide) rfl (fun ls hl => ?_)
  refine lv_iconst (v := 0) hx hb dX4_teethWornTo_2 (by decide) ?_
  refine lv_istore_n (lv' := [(3, .int 0), (2, .int 0), (0, .ref (sA ad r)), (1, .int p0)]) hx hb dX4_teethWornTo_3 rfl hl (by decide) rfl (fun ls hl => ?_)
  have loop_4 : ∀ (n : Nat) (j : Nat) (x2 : Int32) (x3 : Int32) (hj : j + n = 4) (e3 : x3 = nI j) (hres : foldL (fun a s => foldL (fun t s => if gwr (sl (X r) a) (nI t) < p0 then s else s + 1) 24 0 s) n j x2 = wornX (X r) p0), ∀ ls : Array Slot, lv_has ls 6 [(0, .ref (sA ad r)), (1, .int p0), (2, .int x2), (3, .int x3)] → W p l e ({ frames := 1, cells := 0, slots := 0, locals := 21 } : Room) s m [.ref (sA ad r), .int p0].toArray below meth c s.heap [] 0 0 (MQ below (pQ (some (.int (wornX (X r) p0)))) [.ref (sA ad r), .int p0].toArray s 0 0 (fun _ => False)) (F0 m 4 ls []) := by
    clear hl
    intro n
    induction n with
    | zero =>
      intro j x2 x3 hj e3 hres  ls hl
      refine lv_iload_n hx hb dX4_teethWornTo_4 rfl (lv_at hl 3 rfl) ?_
      refine lv_iconst (v := 4) hx hb dX4_teethWornTo_5 (by decide) ?_
      refine lv_icmp_ge (tgt := 57) hx hb dX4_teethWornTo_6 (by decide) (fun c_1 => ?_) (fun c_1 => ?_)
      · skip
        replace c_1 := ge_n c_1
        refine lv_iload_n hx hb dX4_teethWornTo_57 rfl (lv_at hl 2 rfl) ?_
        exact end_pi hx hb hrt hlk (hres) dX4_teethWornTo_58
      · exact absurd c_1 (fun h => h (cnt_ge (N := 4) e3 rfl (by omega) (by omega)))
    | succ n ih4 =>
      intro j x2 x3 hj e3 hres  ls hl
      refine lv_iload_n hx hb dX4_teethWornTo_4 rfl (lv_at hl 3 rfl) ?_
      refine lv_iconst (v := 4) hx hb dX4_teethWornTo_5 (by decide) ?_
      refine lv_icmp_ge (tgt := 57) hx hb dX4_teethWornTo_6 (by decide) (fun c_2 => ?_) (fun c_2 => ?_)
      · exact absurd c_2 (cnt_nge (N := 4) e3 rfl (by decide) (by omega))
      · skip
        replace c_2 := nge_l c_2
        refine lv_aload_n hx hb dX4_teethWornTo_9 rfl (lv_at hl 0 rfl) ?_
        refine lv_iload_n hx hb dX4_teethWornTo_10 rfl (lv_at hl 3 rfl) ?_
        refine cs_p (runV (As := [.int x3]) (rest := []) ⟨hx, hb, hml, hown, hts⟩ (m_X4_gearAt l D kA ad X r j x3 (hr) (e3) (by omega)) q_370 q_226 q_227 q_2 q_228 hd_X4_gearAt ⟨rfl, rfl⟩ ⟨Nat.le_of_ble_eq_true rfl, Nat.le_of_ble_eq_true rfl⟩ hK (ws := (cw kA ad X)) hP hD _ (ci := 4) (C := RX4) (T := TX4) (N := 4) rfl (cw_state (kA := kA) (ad := ad) (X := X) (r := r) (by omega)) rfl hl.1 rfl (Nat.le_of_ble_eq_true rfl) dX4_teethWornTo_11 ⟨Nat.zero_le _, Nat.zero_le _⟩) ?_
        refine lv_astore (lv' := [(4, .ref (gA ad r j)), (0, .ref (sA ad r)), (1, .int p0), (2, .int x2), (3, .int x3)]) hx hb dX4_teethWornTo_14 hl (by decide) rfl (fun ls hl => ?_)
        refine lv_iconst (v := 0) hx hb dX4_teethWornTo_16 (by decide) ?_
        refine lv_istore (lv' := [(5, .int 0), (4, .ref (gA ad r j)), (0, .ref (sA ad r)), (1, .int p0), (2, .int x2), (3, .int x3)]) hx hb dX4_teethWornTo_17 hl (by decide) rfl (fun ls hl => ?_)
        have loop_19 : ∀ (n2 : Nat) (t : Nat) (y2 : Int32) (y5 : Int32) (ht : t + n2 = 24) (e4 : y5 = nI t) (hrs : foldL (fun a s => foldL (fun t s => if gwr (sl (X r) a) (nI t) < p0 then s else s + 1) 24 0 s) n (j + 1) (foldL (fun t s => if gwr (sl (X r) j) (nI t) < p0 then s else s + 1) n2 t y2) = wornX (X r) p0), ∀ ls : Array Slot, lv_has ls 6 [(0, .ref (sA ad r)), (1, .int p0), (2, .int y2), (3, .int x3), (4, .ref (gA ad r j)), (5, .int y5)] → W p l e ({ frames := 1, cells := 0, slots := 0, locals := 21 } : Room) s m [.ref (sA ad r), .int p0].toArray below meth c s.heap [] 0 0 (MQ below (pQ (some (.int (wornX (X r) p0)))) [.ref (sA ad r), .int p0].toArray s 0 0 (fun _ => False)) (F0 m 19 ls []) := by
          clear hl
          intro n2
          induction n2 with
          | zero =>
            intro t y2 y5 ht e4 hrs  ls hl
            refine lv_iload hx hb dX4_teethWornTo_19 (lv_at hl 5 rfl) ?_
            refine lv_bipush (v := 24) hx hb dX4_teethWornTo_21 (by decide) ?_
            refine lv_icmp_ge (tgt := 51) hx hb dX4_teethWornTo_23 (by decide) (fun c_3 => ?_) (fun c_3 => ?_)
            · skip
              replace c_3 := ge_n c_3
              refine lv_iinc (v := x3 + 1) (lv' := [(3, .int (x3 + 1)), (0, .ref (sA ad r)), (1, .int p0), (2, .int y2), (4, .ref (gA ad r j)), (5, .int y5)]) hx hb dX4_teethWornTo_51 hl (k := 3) rfl (by first | rfl | exact congrArg (_ + ·) (by decide)) (by decide) rfl (fun ls hl => ?_)
              refine lv_goto (tgt := 4) hx hb dX4_teethWornTo_54 (by decide) ?_
              exact ih4 (j + 1) y2 (x3 + 1) (by omega) (by rw [e3]; exact nI_1 j) (hrs) ls (lv_sub hl [1, 2, 3, 0] rfl)
            · exact absurd c_3 (fun h => h (cnt_ge (N := 24) e4 rfl (by omega) (by omega)))
          | succ n2 ih19 =>
            intro t y2 y5 ht e4 hrs  ls hl
            refine lv_iload hx hb dX4_teethWornTo_19 (lv_at hl 5 rfl) ?_
            refine lv_bipush (v := 24) hx hb dX4_teethWornTo_21 (by decide) ?_
            refine lv_icmp_ge (tgt := 51) hx hb dX4_teethWornTo_23 (by decide) (fun c_4 => ?_) (fun c_4 => ?_)
            · exact absurd c_4 (cnt_nge (N := 24) e4 rfl (by decide) (by omega))
            · skip
              replace c_4 := nge_l c_4
              refine lv_aload hx hb dX4_teethWornTo_26 (lv_at hl 4 rfl) ?_
              refine lv_ifnull hx hb dX4_teethWornTo_28 ?_
              refine lv_aload hx hb dX4_teethWornTo_31 (lv_at hl 4 rfl) ?_
              refine lv_iload hx hb dX4_teethWornTo_33 (lv_at hl 5 rfl) ?_
              refine cs_p (runV (As := [.int y5]) (rest := []) ⟨hx, hb, hml, hown, hts⟩ (m_X0_wearOf l D kA (gA ad r j) (wA ad r j) ((sl ((X r)) j) 0) ((sl ((X r)) j) 1) ((sl ((X r)) j) 2) ((sl ((X r)) j) 3) ((sl ((X r)) j) 4) ((sl ((X r)) j) 5) ((sl ((X r)) j) 6) ((sl ((X r)) j) 7) ((sl ((X r)) j) 8) ((sl ((X r)) j) 9) ((sl ((X r)) j) 10) (fun t => (sl ((X r)) j) (t + 11)) y5 ) q_562 q_328 q_329 q_4 q_330 hd_X0_wearOf ⟨rfl, rfl⟩ ⟨Nat.le_of_ble_eq_true rfl, Nat.le_of_ble_eq_true rfl⟩ hK (ws := [((gA ad r j), .inr (0, [.ref (wA ad r j), .int ((sl ((X r)) j) 0), .int ((sl ((X r)) j) 1), .int ((sl ((X r)) j) 2), .int ((sl ((X r)) j) 3), .int ((sl ((X r)) j) 4), .int ((sl ((X r)) j) 5), .int ((sl ((X r)) j) 6), .int ((sl ((X r)) j) 7), .int ((sl ((X r)) j) 8), .int ((sl ((X r)) j) 9), .int ((sl ((X r)) j) 10)])), ((wA ad r j), .inl (kA 0, 24, .inl (fun t => (sl ((X r)) j) (t + 11))))]) (P2 hP (cw_gear (kA := kA) (ad := ad) (X := X) (r := r) (a := j) (by omega) (by omega)) (cw_wears (kA := kA) (ad := ad) (X := X) (r := r) (a := j) (by omega) (by omega))) (D2 hD (cw_gear (kA := kA) (ad := ad) (X := X) (r := r) (a := j) (by omega) (by omega)) (cw_wears (kA := kA) (ad := ad) (X := X) (r := r) (a := j) (by omega) (by omega)) (by omega)) 0 (ci := 0) (C := RX0) (T := TX0) (N := 12) rfl rfl rfl hl.1 rfl (Nat.le_of_ble_eq_true rfl) dX4_teethWornTo_35 ⟨Nat.zero_le _, Nat.zero_le _⟩) ?_
              refine lv_iload_n hx hb dX4_teethWornTo_38 rfl (lv_at hl 1 rfl) ?_
              refine lv_icmp_lt (tgt := 45) hx hb dX4_teethWornTo_39 (by decide) (fun c_5 => ?_) (fun c_5 => ?_)
              · skip
                refine lv_iinc (v := y5 + 1) (lv' := [(5, .int (y5 + 1)), (0, .ref (sA ad r)), (1, .int p0), (2, .int y2), (3, .int x3), (4, .ref (gA ad r j))]) hx hb dX4_teethWornTo_45 hl (k := 5) rfl (by first | rfl | exact congrArg (_ + ·) (by decide)) (by decide) rfl (fun ls hl => ?_)
                refine lv_goto (tgt := 19) hx hb dX4_teethWornTo_48 (by decide) ?_
                exact ih19 (t + 1) y2 (y5 + 1) (by omega) (by rw [e4]; exact nI_1 t) (fold_2 (by show (if gwr (sl (X r) j) (nI t) < p0 then y2 else y2 + 1) = _; rw [← e4]; exact if_pos c_5) hrs) ls (lv_sub hl [1, 2, 3, 4, 5, 0] rfl)
              · skip
                refine lv_iinc (v := y2 + 1) (lv' := [(2, .int (y2 + 1)), (0, .ref (sA ad r)), (1, .int p0), (3, .int x3), (4, .ref (gA ad r j)), (5, .int y5)]) hx hb dX4_teethWornTo_42 hl (k := 2) rfl (by first | rfl | exact congrArg (_ + ·) (by decide)) (by decide) rfl (fun ls hl => ?_)
                refine lv_iinc (v := y5 + 1) (lv' := [(5, .int (y5 + 1)), (2, .int (y2 + 1)), (0, .ref (sA ad r)), (1, .int p0), (3, .int x3), (4, .ref (gA ad r j))]) hx hb dX4_teethWornTo_45 hl (k := 5) rfl (by first | rfl | exact congrArg (_ + ·) (by decide)) (by decide) rfl (fun ls hl => ?_)
                refine lv_goto (tgt := 19) hx hb dX4_teethWornTo_48 (by decide) ?_
                exact ih19 (t + 1) (y2 + 1) (y5 + 1) (by omega) (by rw [e4]; exact nI_1 t) (fold_2 (by show (if gwr (sl (X r) j) (nI t) < p0 then y2 else y2 + 1) = _; rw [← e4]; exact if_neg c_5) hrs) ls (lv_sub hl [2, 3, 1, 4, 5, 0] rfl)
        exact loop_19 24 0 x2 0 (by omega) (nI_0.symm) (by rw [← hres]; rfl) ls (lv_sub hl [2, 3, 4, 5, 1, 0] rfl)
  exact loop_4 4 0 0 0 (by omega) (nI_0.symm) (rfl) ls (lv_sub hl [2, 3, 1, 0] rfl)

theorem hd_X4_copyFrom : yX4_copyFrom.cls ≠ "java/lang/invoke/MethodHandle" ∧ yX4_copyFrom.cls ≠ "java/lang/invoke/VarHandle" ∧ (parseMethodDescriptor yX4_copyFrom.desc).map (fun d => d.parameters.length) = some 1 := by decide +kernel
set_option maxRecDepth 100000 in
set_option maxHeartbeats 4000000 in
theorem m_X4_copyFrom (l : Launch) (D : va_G) (kA : Nat → Nat) (ad : Nat → Nat) (X : Nat → Nat → Int32) (r : Nat) (r2 : Nat) (hr : r < 7) (hr2 : r2 < 7) (hne : r ≠ r2) : Met l yX4_copyFrom (Cond.code yX4_copyFrom cX4_copyFrom 5 none :: AW) ({ frames := 2, cells := 0, slots := 0, locals := 81 } : Room) (Pz [.ref (sA ad r), .ref (sA ad r2)] D (TY kA) (cw kA ad X)) (fQ none D (cw kA ad X) (cw kA ad (up2 X r (X r2)))) 0 0 (Aw (cw kA ad X)) := by
  refine MetZ (by decide +kernel) (Nat.le_of_ble_eq_true rfl) ?_
  intro p e s m below meth c ls hx hb hrt hts hown hml hlk hnm hP hK hD hS hl
  have hl : lv_has ls 5 [(0, .ref (sA ad r)), (1, .ref (sA ad r2))] := hl
  refine lv_aload_n hx hb dX4_copyFrom_0 rfl (lv_at hl 0 rfl) ?_
  refine va_get (ci := 4) (v := .ref (rA ad r)) (C := RX4) (T := TX4) (N := 4) hx hb hts inX4 hown hK hP _ (cw_state (kA := kA) (ad := ad) (X := X) (r := r) (by omega)) rfl 0 (by decide) (hts _ q_113) (fun _ h9 => h9) rfl dX4_copyFrom_1 ?_
  refine lv_aload_n hx hb dX4_copyFrom_4 rfl (lv_at hl 1 rfl) ?_
  refine va_get (ci := 4) (v := .ref (rA ad r2)) (C := RX4) (T := TX4) (N := 4) hx hb hts inX4 hown hK hP _ (cw_state (kA := kA) (ad := ad) (X := X) (r := r2) (by omega)) rfl 0 (by decide) (hts _ q_113) (fun _ h9 => h9) rfl dX4_copyFrom_5 ?_
  refine cs_fn (runV (As := [.ref (rA ad r2)]) (rest := []) ⟨hx, hb, hml, hown, hts⟩ (m_X3_copyFrom l D kA (rA ad r) (X r) (rA ad r2) (X r2) ) q_366 q_367 q_368 q_3 q_369 hd_X3_copyFrom ⟨rfl, rfl⟩ ⟨Nat.le_of_ble_eq_true rfl, Nat.le_of_ble_eq_true rfl⟩ hK (ws := [((rA ad r), rC (X r)), ((rA ad r2), rC (X r2))]) (P2 hP (cw_rules (kA := kA) (ad := ad) (X := X) (r := r) (by omega)) (cw_rules (kA := kA) (ad := ad) (X := X) (r := r2) (by omega))) (D2 hD (cw_rules (kA := kA) (ad := ad) (X := X) (r := r) (by omega)) (cw_rules (kA := kA) (ad := ad) (X := X) (r := r2) (by omega)) (by omega)) 0 (ci := 3) (C := RX3) (T := TX3) (N := 6) rfl rfl rfl hl.1 rfl (Nat.le_of_ble_eq_true rfl) dX4_copyFrom_8 ⟨Nat.zero_le _, Nat.zero_le _⟩) hS (cw_sub (fun q hq => by simp only [List.mem_cons, List.not_mem_nil, or_false] at hq; rcases hq with rfl | rfl <;> first | exact ⟨3 * r + 64, by omega, rfl⟩ | exact ⟨3 * r2 + 64, by omega, rfl⟩)) (fun H locs hP1 hk1 hS => ?_)
  obtain ⟨hP, hD⟩ := jn_RR (r := r) (r' := r2) (by omega) (by omega) (by omega) hP hD hk1 hP1
  clear hk1 hP1
  refine lv_aload_n hx hb dX4_copyFrom_11 rfl (lv_at hl 0 rfl) ?_
  refine lv_aload_n hx hb dX4_copyFrom_12 rfl (lv_at hl 1 rfl) ?_
  refine va_get (ci := 4) (v := .int (((cpR X r r2) r2) 6)) (C := RX4) (T := TX4) (N := 4) hx hb hts inX4 hown hK hP _ (cw_state (kA := kA) (ad := ad) (X := cpR X r r2) (r := r2) (by omega)) rfl 2 (by decide) (hts _ q_116) (fun _ h9 => h9) rfl dX4_copyFrom_13 ?_
  refine va_put (ci := 4) (v := .int (((cpR X r r2) r2) 6)) (ty := tyX4 2) (C := RX4) (T := TX4) (N := 4) hx hb hts inX4 tyX4 tyX4_ok nmX4 hown hK hP hD hS _ (cw_state (kA := kA) (ad := ad) (X := cpR X r r2) (r := r) (by omega)) rfl 2 (by decide) (hts _ q_116) (fun _ h9 => h9) rfl (tyX4_ok 2 (by decide)) rfl rfl (Nat.le_of_ble_eq_true rfl) dX4_copyFrom_16 (fun H locs hP hD hS => ?_)
  have hP : va_P D vwCl (cw kA ad (up3 (cpR X r r2) r 6 (((cpR X r r2) r2) 6))) H := by rw [← st_purse (r := r) (by omega)]; exact hP
  have hD : va_D (Aw (cw kA ad X)) (cw kA ad (up3 (cpR X r r2) r 6 (((cpR X r r2) r2) 6))) := by rw [← st_purse (r := r) (by omega)]; exact hD
  refine lv_aload_n hx hb dX4_copyFrom_19 rfl (lv_at hl 0 rfl) ?_
  refine lv_aload_n hx hb dX4_copyFrom_20 rfl (lv_at hl 1 rfl) ?_
  refine va_get (ci := 4) (v := .int (((up3 (cpR X r r2) r 6 (((cpR X r r2) r2) 6)) r2) 7)) (C := RX4) (T := TX4) (N := 4) hx hb hts inX4 hown hK hP _ (cw_state (kA := kA) (ad := ad) (X := up3 (cpR X r r2) r 6 (((cpR X r r2) r2) 6)) (r := r2) (by omega)) rfl 3 (by decide) (hts _ q_118) (fun _ h9 => h9) rfl dX4_copyFrom_21 ?_
  refine va_put (ci := 4) (v := .int (((up3 (cpR X r r2) r 6 (((cpR X r r2) r2) 6)) r2) 7)) (ty := tyX4 3) (C := RX4) (T := TX4) (N := 4) hx hb hts inX4 tyX4 tyX4_ok nmX4 hown hK hP hD hS _ (cw_state (kA := kA) (ad := ad) (X := up3 (cpR X r r2) r 6 (((cpR X r r2) r2) 6)) (r := r) (by omega)) rfl 3 (by decide) (hts _ q_118) (fun _ h9 => h9) rfl (tyX4_ok 3 (by decide)) rfl rfl (Nat.le_of_ble_eq_true rfl) dX4_copyFrom_24 (fun H locs hP hD hS => ?_)
  have hP : va_P D vwCl (cw kA ad (up3 (up3 (cpR X r r2) r 6 (((cpR X r r2) r2) 6)) r 7 (((up3 (cpR X r r2) r 6 (((cpR X r r2) r2) 6)) r2) 7))) H := by rw [← st_care (r := r) (by omega)]; exact hP
  have hD : va_D (Aw (cw kA ad X)) (cw kA ad (up3 (up3 (cpR X r r2) r 6 (((cpR X r r2) r2) 6)) r 7 (((up3 (cpR X r r2) r 6 (((cpR X r r2) r2) 6)) r2) 7))) := by rw [← st_care (r := r) (by omega)]; exact hD
  refine lv_iconst (v := 0) hx hb dX4_copyFrom_27 (by decide) ?_
  refine lv_istore_n (lv' := [(2, .int 0), (0, .ref (sA ad r)), (1, .ref (sA ad r2))]) hx hb dX4_copyFrom_28 rfl hl (by decide) rfl (fun ls hl => ?_)
  have loop_29 : ∀ (n : Nat) (j : Nat) (Y : Nat → Nat → Int32) (x2 : Int32) (hj : j + n = 4) (e3 : x2 = nI j) (hY : (∀ q i, q ≠ r → Y q i = X q i) ∧ ∀ i, i < 8 + 35 * j → Y r i = X r2 i), ∀ (H : Heap) (locs : List Loc), va_P D vwCl (cw kA ad Y) H → va_D (Aw (cw kA ad X)) (cw kA ad Y) → va_S (Aw (cw kA ad X)) s.heap H locs → ∀ ls : Array Slot, lv_has ls 5 [(0, .ref (sA ad r)), (1, .ref (sA ad r2)), (2, .int x2)] → W p l e ({ frames := 2, cells := 0, slots := 0, locals := 81 } : Room) s m [.ref (sA ad r), .ref (sA ad r2)].toArray below meth c H locs 0 0 (MQ below (fQ none D (cw kA ad X) (cw kA ad (up2 X r (X r2)))) [.ref (sA ad r), .ref (sA ad r2)].toArray s 0 0 (Aw (cw kA ad X))) (F0 m 29 ls []) := by
    clear hl
    clear hP hD hS
    intro n
    induction n with
    | zero =>
      intro j Y x2 hj e3 hY H locs hP hD hS ls hl
      refine lv_iload_n hx hb dX4_copyFrom_29 rfl (lv_at hl 2 rfl) ?_
      refine lv_iconst (v := 4) hx hb dX4_copyFrom_30 (by decide) ?_
      refine lv_icmp_ge (tgt := 68) hx hb dX4_copyFrom_31 (by decide) (fun c_1 => ?_) (fun c_1 => ?_)
      · skip
        replace c_1 := ge_n c_1
        exact end_fv hx hb hrt hlk hP hS (fun h => by rw [cw_congr (X := Y) (X' := up2 X r (X r2)) (cp_2 (by omega) hY hr)]; exact h) dX4_copyFrom_68
      · exact absurd c_1 (fun h => h (cnt_ge (N := 4) e3 rfl (by omega) (by omega)))
    | succ n ih29 =>
      intro j Y x2 hj e3 hY H locs hP hD hS ls hl
      refine lv_iload_n hx hb dX4_copyFrom_29 rfl (lv_at hl 2 rfl) ?_
      refine lv_iconst (v := 4) hx hb dX4_copyFrom_30 (by decide) ?_
      refine lv_icmp_ge (tgt := 68) hx hb dX4_copyFrom_31 (by decide) (fun c_2 => ?_) (fun c_2 => ?_)
      · exact absurd c_2 (cnt_nge (N := 4) e3 rfl (by decide) (by omega))
      · skip
        replace c_2 := nge_l c_2
        refine lv_aload_n hx hb dX4_copyFrom_34 rfl (lv_at hl 0 rfl) ?_
        refine lv_iload_n hx hb dX4_copyFrom_35 rfl (lv_at hl 2 rfl) ?_
        refine cs_p (runV (As := [.int x2]) (rest := []) ⟨hx, hb, hml, hown, hts⟩ (m_X4_gearAt l D kA ad Y r j x2 (hr) (e3) (by omega)) q_370 q_226 q_227 q_2 q_228 hd_X4_gearAt ⟨rfl, rfl⟩ ⟨Nat.le_of_ble_eq_true rfl, Nat.le_of_ble_eq_true rfl⟩ hK (ws := (cw kA ad Y)) hP hD _ (ci := 4) (C := RX4) (T := TX4) (N := 4) rfl (cw_state (kA := kA) (ad := ad) (X := Y) (r := r) (by omega)) rfl hl.1 rfl (Nat.le_of_ble_eq_true rfl) dX4_copyFrom_36 ⟨Nat.zero_le _, Nat.zero_le _⟩) ?_
        refine lv_astore_n (lv' := [(3, .ref (gA ad r j)), (0, .ref (sA ad r)), (1, .ref (sA ad r2)), (2, .int x2)]) hx hb dX4_copyFrom_39 rfl hl (by decide) rfl (fun ls hl => ?_)
        refine lv_aload_n hx hb dX4_copyFrom_40 rfl (lv_at hl 2 rfl) ?_
        refine lv_iload_n hx hb dX4_copyFrom_41 rfl (lv_at hl 3 rfl) ?_
        refine cs_p (runV (As := [.int x2]) (rest := []) ⟨hx, hb, hml, hown, hts⟩ (m_X4_gearAt l D kA ad Y r2 j x2 (hr2) (e3) (by omega)) q_370 q_226 q_227 q_2 q_228 hd_X4_gearAt ⟨rfl, rfl⟩ ⟨Nat.le_of_ble_eq_true rfl, Nat.le_of_ble_eq_true rfl⟩ hK (ws := (cw kA ad Y)) hP hD _ (ci := 4) (C := RX4) (T := TX4) (N := 4) rfl (cw_state (kA := kA) (ad := ad) (X := Y) (r := r2) (by omega)) rfl hl.1 rfl (Nat.le_of_ble_eq_true rfl) dX4_copyFrom_42 ⟨Nat.zero_le _, Nat.zero_le _⟩) ?_
        refine lv_astore (lv' := [(4, .ref (gA ad r2 j)), (3, .ref (gA ad r j)), (0, .ref (sA ad r)), (1, .ref (sA ad r2)), (2, .int x2)]) hx hb dX4_copyFrom_45 hl (by decide) rfl (fun ls hl => ?_)
        refine lv_aload_n hx hb dX4_copyFrom_47 rfl (lv_at hl 1 rfl) ?_
        refine lv_ifnull hx hb dX4_copyFrom_48 ?_
        refine lv_aload hx hb dX4_copyFrom_51 (lv_at hl 0 rfl) ?_
        refine lv_ifnull hx hb dX4_copyFrom_53 ?_
        refine lv_aload_n hx hb dX4_copyFrom_56 rfl (lv_at hl 1 rfl) ?_
        refine lv_aload hx hb dX4_copyFrom_57 (lv_at hl 0 rfl) ?_
        refine cs_fn (runV (As := [.ref (gA ad r2 j)]) (rest := []) ⟨hx, hb, hml, hown, hts⟩ (m_X0_copyFrom l D kA (gA ad r j) (wA ad r j) (sl ((Y r)) j) (gA ad r2 j) (wA ad r2 j) (sl ((Y r2)) j) ) q_371 q_372 q_373 q_4 q_374 hd_X0_copyFrom ⟨rfl, rfl⟩ ⟨Nat.le_of_ble_eq_true rfl, Nat.le_of_ble_eq_true rfl⟩ hK (ws := [((gA ad r j), gC (wA ad r j) (sl ((Y r)) j)), ((wA ad r j), wC kA (sl ((Y r)) j)), ((gA ad r2 j), gC (wA ad r2 j) (sl ((Y r2)) j)), ((wA ad r2 j), wC kA (sl ((Y r2)) j))]) (P4 hP (cw_gear (kA := kA) (ad := ad) (X := Y) (r := r) (a := j) (by omega) (by omega)) (cw_wears (kA := kA) (ad := ad) (X := Y) (r := r) (a := j) (by omega) (by omega)) (cw_gear (kA := kA) (ad := ad) (X := Y) (r := r2) (a := j) (by omega) (by omega)) (cw_wears (kA := kA) (ad := ad) (X := Y) (r := r2) (a := j) (by omega) (by omega))) (D4 hD (cw_gear (kA := kA) (ad := ad) (X := Y) (r := r) (a := j) (by omega) (by omega)) (cw_wears (kA := kA) (ad := ad) (X := Y) (r := r) (a := j) (by omega) (by omega)) (cw_gear (kA := kA) (ad := ad) (X := Y) (r := r2) (a := j) (by omega) (by omega)) (cw_wears (kA := kA) (ad := ad) (X := Y) (r := r2) (a := j) (by omega) (by omega)) (by omega) (by omega) (by omega) (by omega) (by omega) (by omega)) 0 (ci := 0) (C := RX0) (T := TX0) (N := 12) rfl rfl rfl hl.1 rfl (Nat.le_of_ble_eq_true rfl) dX4_copyFrom_59 ⟨Nat.zero_le _, Nat.zero_le _⟩) hS (cw_sub (fun q hq => by simp only [List.mem_cons, List.not_mem_nil, or_false] at hq; rcases hq with rfl | rfl | rfl | rfl <;> first | exact ⟨2 * (4 * r + j) + 5, by omega, rfl⟩ | exact ⟨2 * (4 * r + j) + 6, by omega, rfl⟩ | exact ⟨2 * (4 * r2 + j) + 5, by omega, rfl⟩ | exact ⟨2 * (4 * r2 + j) + 6, by omega, rfl⟩)) (fun H locs hP1 hk1 hS => ?_)
        obtain ⟨hP, hD⟩ := jn_G4 (r := r) (a := j) (by omega) (by omega) (r' := r2) (a' := j) (by omega) (by omega) (by omega) (G' := (sl ((Y r2)) j)) hP hD hk1 hP1
        clear hk1 hP1
        refine lv_iinc (v := x2 + 1) (lv' := [(2, .int (x2 + 1)), (4, .ref (gA ad r2 j)), (3, .ref (gA ad r j)), (0, .ref (sA ad r)), (1, .ref (sA ad r2))]) hx hb dX4_copyFrom_62 hl (k := 4) rfl (by first | rfl | exact congrArg (_ + ·) (by decide)) (by decide) rfl (fun ls hl => ?_)
        refine lv_goto (tgt := 29) hx hb dX4_copyFrom_65 (by decide) ?_
        exact ih29 (j + 1) (upG Y r j (sl ((Y r2)) j)) (x2 + 1) (by omega) (by rw [e3]; exact nI_1 j) (cp_1 hne hY) _ _ hP hD hS ls (lv_sub hl [3, 4, 0] rfl)
  exact loop_29 4 0 (up3 (up3 (cpR X r r2) r 6 (((cpR X r r2) r2) 6)) r 7 (((up3 (cpR X r r2) r 6 (((cpR X r r2) r2) 6)) r2) 7)) 0 (by omega) (nI_0.symm) (cp_0 hne) _ _ hP hD hS ls (lv_sub hl [1, 2, 0] rfl)

theorem hd_X1_newestRow : yX1_newestRow.cls ≠ "java/lang/invoke/MethodHandle" ∧ yX1_newestRow.cls ≠ "java/lang/invoke/VarHandle" ∧ (parseMethodDescriptor yX1_newestRow.desc).map (fun d => d.parameters.length) = some 0 := by decide +kernel
set_option maxRecDepth 100000 in
set_option maxHeartbeats 4000000 in
theorem m_X1_newestRow (l : Launch) (D : va_G) (kA : Nat → Nat) (ad : Nat → Nat) (X : Nat → Nat → Int32) (w : Nat) (hw : X 8 0 = nI w) (hw6 : w < 6) : Met l yX1_newestRow (Cond.code yX1_newestRow cX1_newestRow 1 (some (.object "ArmTolls$State")) :: AW) ({ frames := 0, cells := 0, slots := 0, locals := 0 } : Room) (Pz [.ref (ad 1)] D (TY kA) (cw kA ad X)) (pQ (some (.ref (sA ad (w + 1))))) 0 0 (fun _ => False) := by
  refine MetZ (by decide +kernel) (Nat.le_of_ble_eq_true rfl) ?_
  intro p e s m below meth c ls hx hb hrt hts hown hml hlk hnm hP hK hD hS hl
  have hl : lv_has ls 1 [(0, .ref (ad 1))] := hl
  refine lv_aload_n hx hb dX1_newestRow_0 rfl (lv_at hl 0 rfl) ?_
  refine va_get (ci := 1) (v := .int ((X 8) 0)) (C := RX1) (T := TX1) (N := 3) hx hb hts inX1 hown hK hP _ (cw_hist (kA := kA) (ad := ad) (X := X)) rfl 1 (by decide) (hts _ q_139) (fun _ h9 => h9) rfl dX1_newestRow_1 ?_
  refine lv_if_lt (tgt := 31) hx hb dX1_newestRow_4 (by decide) (fun c_1 => ?_) (fun c_1 => ?_)
  · exact absurd c_1 (neg_of hw (by omega))
  · skip
    refine lv_aload_n hx hb dX1_newestRow_7 rfl (lv_at hl 0 rfl) ?_
    refine va_get (ci := 1) (v := .int ((X 8) 0)) (C := RX1) (T := TX1) (N := 3) hx hb hts inX1 hown hK hP _ (cw_hist (kA := kA) (ad := ad) (X := X)) rfl 1 (by decide) (hts _ q_139) (fun _ h9 => h9) rfl dX1_newestRow_8 ?_
    refine lv_aload_n hx hb dX1_newestRow_11 rfl (lv_at hl 0 rfl) ?_
    refine va_get (ci := 1) (v := .ref (ad 2)) (C := RX1) (T := TX1) (N := 3) hx hb hts inX1 hown hK hP _ (cw_hist (kA := kA) (ad := ad) (X := X)) rfl 0 (by decide) (hts _ q_138) (fun _ h9 => h9) rfl dX1_newestRow_12 ?_
    refine va_alen (v := 6) hx hb hK hP _ 2 (cw_rows (kA := kA) (ad := ad) (X := X)) rfl rfl dX1_newestRow_15 ?_
    refine lv_icmp_ge (tgt := 31) hx hb dX1_newestRow_16 (by decide) (fun c_2 => ?_) (fun c_2 => ?_)
    · exact absurd c_2 (cnt_nge (N := 6) hw rfl (by decide) hw6)
    · skip
      replace c_2 := nge_l c_2
      refine lv_aload_n hx hb dX1_newestRow_19 rfl (lv_at hl 0 rfl) ?_
      refine va_get (ci := 1) (v := .ref (ad 2)) (C := RX1) (T := TX1) (N := 3) hx hb hts inX1 hown hK hP _ (cw_hist (kA := kA) (ad := ad) (X := X)) rfl 0 (by decide) (hts _ q_138) (fun _ h9 => h9) rfl dX1_newestRow_20 ?_
      refine lv_aload_n hx hb dX1_newestRow_23 rfl (lv_at hl 0 rfl) ?_
      refine va_get (ci := 1) (v := .int ((X 8) 0)) (C := RX1) (T := TX1) (N := 3) hx hb hts inX1 hown hK hP _ (cw_hist (kA := kA) (ad := ad) (X := X)) rfl 1 (by decide) (hts _ q_139) (fun _ h9 => h9) rfl dX1_newestRow_24 ?_
      refine va_aldq (f := fun j => some (sA ad (j + 1))) hx hb hK hP _ 2 (cw_rows (kA := kA) (ad := ad) (X := X)) rfl (in_nI hw hw6 (by decide)) dX1_newestRow_27 ?_
      rw [show va_rf ((fun j => some (sA ad (j + 1))) ((X 8) 0).toNatClampNeg) = .ref (sA ad (w + 1)) from by rw [clamp_j hw (by omega)]; rfl]
      refine lv_goto (tgt := 32) hx hb dX1_newestRow_28 (by decide) ?_
      exact end_pa hx hb hrt hlk (Or.inr ⟨_, rfl⟩) (by first | rfl | (rw [Nat.zero_le]; done) | (simp only [c_1, c_2, ↓reduceIte, bI]; done) | (simp only [c_1, c_2, ↓reduceIte, bI]; rfl) | (simp [c_1, c_2, bI]; done)) dX1_newestRow_32

theorem hd_X1_save : yX1_save.cls ≠ "java/lang/invoke/MethodHandle" ∧ yX1_save.cls ≠ "java/lang/invoke/VarHandle" ∧ (parseMethodDescriptor yX1_save.desc).map (fun d => d.parameters.length) = some 1 := by decide +kernel
set_option maxRecDepth 100000 in
set_option maxHeartbeats 4000000 in
theorem m_X1_save (l : Launch) (D : va_G) (kA : Nat → Nat) (ad : Nat → Nat) (X : Nat → Nat → Int32) (w : Nat) (hw : X 8 0 = nI w) (hw6 : w < 6) : Met l yX1_save (Cond.code yX1_save cX1_save 3 none :: AW) ({ frames := 3, cells := 0, slots := 0, locals := 105 } : Room) (Pz [.ref (ad 1), .ref (sA ad 0)] D (TY kA) (cw kA ad X)) (fQ none D (cw kA ad X) (cw kA ad (svX X w))) 0 0 (Aw (cw kA ad X)) := by
  refine MetZ (by decide +kernel) (Nat.le_of_ble_eq_true rfl) ?_
  intro p e s m below meth c ls hx hb hrt hts hown hml hlk hnm hP hK hD hS hl
  have hl : lv_has ls 3 [(0, .ref (ad 1)), (1, .ref (sA ad 0))] := hl
  have hnx := nx6_lt w
  refine lv_aload_n hx hb dX1_save_0 rfl (lv_at hl 0 rfl) ?_
  refine lv_aload_n hx hb dX1_save_1 rfl (lv_at hl 0 rfl) ?_
  refine va_get (ci := 1) (v := .int ((X 8) 0)) (C := RX1) (T := TX1) (N := 3) hx hb hts inX1 hown hK hP _ (cw_hist (kA := kA) (ad := ad) (X := X)) rfl 1 (by decide) (hts _ q_139) (fun _ h9 => h9) rfl dX1_save_2 ?_
  refine lv_iconst (v := 1) hx hb dX1_save_5 (by decide) ?_
  refine lv_iadd hx hb dX1_save_6 ?_
  refine lv_bipush (v := 6) hx hb dX1_save_7 (by decide) ?_
  refine lv_icmp_ge (tgt := 21) hx hb dX1_save_9 (by decide) (fun c_1 => ?_) (fun c_1 => ?_)
  · skip
    replace c_1 := ge_n c_1
    refine lv_iconst (v := 0) hx hb dX1_save_21 (by decide) ?_
    refine lv_topi (fun nv e_nv => ?_)
    have e_n2 := e_nv.trans (by first | exact sv_w1 hw hw6 c_1 | exact sv_w0 hw hw6 c_1)
    subst e_n2
    refine va_put (ci := 1) (v := .int (nI (nx6 w))) (ty := tyX1 1) (C := RX1) (T := TX1) (N := 3) hx hb hts inX1 tyX1 tyX1_ok nmX1 hown hK hP hD hS _ (cw_hist (kA := kA) (ad := ad) (X := X)) rfl 1 (by decide) (hts _ q_139) (fun _ h9 => h9) rfl (tyX1_ok 1 (by decide)) rfl rfl (Nat.le_of_ble_eq_true rfl) dX1_save_22 (fun H locs hP hD hS => ?_)
    have hP : va_P D vwCl (cw kA ad (up3 X 8 0 (nI (nx6 w)))) H := by rw [← st_new ]; exact hP
    have hD : va_D (Aw (cw kA ad X)) (cw kA ad (up3 X 8 0 (nI (nx6 w)))) := by rw [← st_new ]; exact hD
    refine lv_aload_n hx hb dX1_save_25 rfl (lv_at hl 0 rfl) ?_
    refine lv_aload_n hx hb dX1_save_26 rfl (lv_at hl 0 rfl) ?_
    refine va_get (ci := 1) (v := .int (((up3 X 8 0 (nI (nx6 w))) 8) 1)) (C := RX1) (T := TX1) (N := 3) hx hb hts inX1 hown hK hP _ (cw_hist (kA := kA) (ad := ad) (X := up3 X 8 0 (nI (nx6 w)))) rfl 2 (by decide) (hts _ q_140) (fun _ h9 => h9) rfl dX1_save_27 ?_
    refine lv_iconst (v := 1) hx hb dX1_save_30 (by decide) ?_
    refine lv_iadd hx hb dX1_save_31 ?_
    refine lv_bipush (v := 6) hx hb dX1_save_32 (by decide) ?_
    refine va_mmin hx hb (hml.trans hl.1.symm) hown (hts _ q_355) (hts _ q_356) (hts _ q_12) (hts _ q_357) (Nat.le_of_ble_eq_true rfl) (Nat.le_of_ble_eq_true rfl) (Nat.zero_le _) (Nat.zero_le _) dX1_save_34 ?_
    refine va_put (ci := 1) (v := .int (if 6 < (((up3 X 8 0 (nI (nx6 w))) 8) 1) + 1 then 6 else (((up3 X 8 0 (nI (nx6 w))) 8) 1) + 1)) (ty := tyX1 2) (C := RX1) (T := TX1) (N := 3) hx hb hts inX1 tyX1 tyX1_ok nmX1 hown hK hP hD hS _ (cw_hist (kA := kA) (ad := ad) (X := up3 X 8 0 (nI (nx6 w)))) rfl 2 (by decide) (hts _ q_140) (fun _ h9 => h9) rfl (tyX1_ok 2 (by decide)) rfl rfl (Nat.le_of_ble_eq_true rfl) dX1_save_37 (fun H locs hP hD hS => ?_)
    have hP : va_P D vwCl (cw kA ad (up3 (up3 X 8 0 (nI (nx6 w))) 8 1 (if 6 < (((up3 X 8 0 (nI (nx6 w))) 8) 1) + 1 then 6 else (((up3 X 8 0 (nI (nx6 w))) 8) 1) + 1))) H := by rw [← st_kept ]; exact hP
    have hD : va_D (Aw (cw kA ad X)) (cw kA ad (up3 (up3 X 8 0 (nI (nx6 w))) 8 1 (if 6 < (((up3 X 8 0 (nI (nx6 w))) 8) 1) + 1 then 6 else (((up3 X 8 0 (nI (nx6 w))) 8) 1) + 1))) := by rw [← st_kept ]; exact hD
    refine lv_aload_n hx hb dX1_save_40 rfl (lv_at hl 0 rfl) ?_
    refine cs_p (runV (As := []) (rest := []) ⟨hx, hb, hml, hown, hts⟩ (m_X1_newestRow l D kA ad (up3 (up3 X 8 0 (nI (nx6 w))) 8 1 (if 6 < (((up3 X 8 0 (nI (nx6 w))) 8) 1) + 1 then 6 else (((up3 X 8 0 (nI (nx6 w))) 8) 1) + 1)) (nx6 w) (by rw [up3_ne (Or.inr (by omega)), up3_s]) (hnx)) q_358 q_359 q_360 q_5 q_361 hd_X1_newestRow ⟨rfl, rfl⟩ ⟨Nat.le_of_ble_eq_true rfl, Nat.le_of_ble_eq_true rfl⟩ hK (ws := (cw kA ad (up3 (up3 X 8 0 (nI (nx6 w))) 8 1 (if 6 < (((up3 X 8 0 (nI (nx6 w))) 8) 1) + 1 then 6 else (((up3 X 8 0 (nI (nx6 w))) 8) 1) + 1)))) hP hD _ (ci := 1) (C := RX1) (T := TX1) (N := 3) rfl (cw_hist (kA := kA) (ad := ad) (X := up3 (up3 X 8 0 (nI (nx6 w))) 8 1 (if 6 < (((up3 X 8 0 (nI (nx6 w))) 8) 1) + 1 then 6 else (((up3 X 8 0 (nI (nx6 w))) 8) 1) + 1))) rfl hl.1 rfl (Nat.le_of_ble_eq_true rfl) dX1_save_41 ⟨Nat.zero_le _, Nat.zero_le _⟩) ?_
    refine lv_astore_n (lv' := [(2, .ref (sA ad ((nx6 w) + 1))), (0, .ref (ad 1)), (1, .ref (sA ad 0))]) hx hb dX1_save_44 rfl hl (by decide) rfl (fun ls hl => ?_)
    refine lv_aload_n hx hb dX1_save_45 rfl (lv_at hl 0 rfl) ?_
    refine lv_ifnull hx hb dX1_save_46 ?_
    refine lv_aload_n hx hb dX1_save_49 rfl (lv_at hl 0 rfl) ?_
    refine lv_aload_n hx hb dX1_save_50 rfl (lv_at hl 2 rfl) ?_
    refine cs_fn (runV (As := [.ref (sA ad 0)]) (rest := []) ⟨hx, hb, hml, hown, hts⟩ (m_X4_copyFrom l D kA ad (up3 (up3 X 8 0 (nI (nx6 w))) 8 1 (if 6 < (((up3 X 8 0 (nI (nx6 w))) 8) 1) + 1 then 6 else (((up3 X 8 0 (nI (nx6 w))) 8) 1) + 1)) ((nx6 w) + 1) 0 (by omega) (by omega) (by omega)) q_362 q_363 q_364 q_2 q_365 hd_X4_copyFrom ⟨rfl, rfl⟩ ⟨Nat.le_of_ble_eq_true rfl, Nat.le_of_ble_eq_true rfl⟩ hK (ws := (cw kA ad (up3 (up3 X 8 0 (nI (nx6 w))) 8 1 (if 6 < (((up3 X 8 0 (nI (nx6 w))) 8) 1) + 1 then 6 else (((up3 X 8 0 (nI (nx6 w))) 8) 1) + 1)))) hP hD _ (ci := 4) (C := RX4) (T := TX4) (N := 4) rfl (cw_state (kA := kA) (ad := ad) (X := up3 (up3 X 8 0 (nI (nx6 w))) 8 1 (if 6 < (((up3 X 8 0 (nI (nx6 w))) 8) 1) + 1 then 6 else (((up3 X 8 0 (nI (nx6 w))) 8) 1) + 1)) (r := ((nx6 w) + 1)) (by omega)) rfl hl.1 rfl (Nat.le_of_ble_eq_true rfl) dX1_save_51 ⟨Nat.zero_le _, Nat.zero_le _⟩) hS (fun _ h => cw_Aw h) (fun H locs hP _ hS => ?_)
    have hD := cw_D (X' := up2 (up3 (up3 X 8 0 (nI (nx6 w))) 8 1 (if 6 < (((up3 X 8 0 (nI (nx6 w))) 8) 1) + 1 then 6 else (((up3 X 8 0 (nI (nx6 w))) 8) 1) + 1)) ((nx6 w) + 1) ((up3 (up3 X 8 0 (nI (nx6 w))) 8 1 (if 6 < (((up3 X 8 0 (nI (nx6 w))) 8) 1) + 1 then 6 else (((up3 X 8 0 (nI (nx6 w))) 8) 1) + 1)) 0)) hD
    exact end_fv hx hb hrt hlk hP hS (fun h => by rw [sv_eq] at h; exact h) dX1_save_54
  · skip
    replace c_1 := nge_l c_1
    refine lv_aload_n hx hb dX1_save_12 rfl (lv_at hl 0 rfl) ?_
    refine va_get (ci := 1) (v := .int ((X 8) 0)) (C := RX1) (T := TX1) (N := 3) hx hb hts inX1 hown hK hP _ (cw_hist (kA := kA) (ad := ad) (X := X)) rfl 1 (by decide) (hts _ q_139) (fun _ h9 => h9) rfl dX1_save_13 ?_
    refine lv_iconst (v := 1) hx hb dX1_save_16 (by decide) ?_
    refine lv_iadd hx hb dX1_save_17 ?_
    refine lv_goto (tgt := 22) hx hb dX1_save_18 (by decide) ?_
    refine lv_topi (fun nv e_nv => ?_)
    have e_n2 := e_nv.trans (by first | exact sv_w1 hw hw6 c_1 | exact sv_w0 hw hw6 c_1)
    subst e_n2
    refine va_put (ci := 1) (v := .int (nI (nx6 w))) (ty := tyX1 1) (C := RX1) (T := TX1) (N := 3) hx hb hts inX1 tyX1 tyX1_ok nmX1 hown hK hP hD hS _ (cw_hist (kA := kA) (ad := ad) (X := X)) rfl 1 (by decide) (hts _ q_139) (fun _ h9 => h9) rfl (tyX1_ok 1 (by decide)) rfl rfl (Nat.le_of_ble_eq_true rfl) dX1_save_22 (fun H locs hP hD hS => ?_)
    have hP : va_P D vwCl (cw kA ad (up3 X 8 0 (nI (nx6 w)))) H := by rw [← st_new ]; exact hP
    have hD : va_D (Aw (cw kA ad X)) (cw kA ad (up3 X 8 0 (nI (nx6 w)))) := by rw [← st_new ]; exact hD
    refine lv_aload_n hx hb dX1_save_25 rfl (lv_at hl 0 rfl) ?_
    refine lv_aload_n hx hb dX1_save_26 rfl (lv_at hl 0 rfl) ?_
    refine va_get (ci := 1) (v := .int (((up3 X 8 0 (nI (nx6 w))) 8) 1)) (C := RX1) (T := TX1) (N := 3) hx hb hts inX1 hown hK hP _ (cw_hist (kA := kA) (ad := ad) (X := up3 X 8 0 (nI (nx6 w)))) rfl 2 (by decide) (hts _ q_140) (fun _ h9 => h9) rfl dX1_save_27 ?_
    refine lv_iconst (v := 1) hx hb dX1_save_30 (by decide) ?_
    refine lv_iadd hx hb dX1_save_31 ?_
    refine lv_bipush (v := 6) hx hb dX1_save_32 (by decide) ?_
    refine va_mmin hx hb (hml.trans hl.1.symm) hown (hts _ q_355) (hts _ q_356) (hts _ q_12) (hts _ q_357) (Nat.le_of_ble_eq_true rfl) (Nat.le_of_ble_eq_true rfl) (Nat.zero_le _) (Nat.zero_le _) dX1_save_34 ?_
    refine va_put (ci := 1) (v := .int (if 6 < (((up3 X 8 0 (nI (nx6 w))) 8) 1) + 1 then 6 else (((up3 X 8 0 (nI (nx6 w))) 8) 1) + 1)) (ty := tyX1 2) (C := RX1) (T := TX1) (N := 3) hx hb hts inX1 tyX1 tyX1_ok nmX1 hown hK hP hD hS _ (cw_hist (kA := kA) (ad := ad) (X := up3 X 8 0 (nI (nx6 w)))) rfl 2 (by decide) (hts _ q_140) (fun _ h9 => h9) rfl (tyX1_ok 2 (by decide)) rfl rfl (Nat.le_of_ble_eq_true rfl) dX1_save_37 (fun H locs hP hD hS => ?_)
    have hP : va_P D vwCl (cw kA ad (up3 (up3 X 8 0 (nI (nx6 w))) 8 1 (if 6 < (((up3 X 8 0 (nI (nx6 w))) 8) 1) + 1 then 6 else (((up3 X 8 0 (nI (nx6 w))) 8) 1) + 1))) H := by rw [← st_kept ]; exact hP
    have hD : va_D (Aw (cw kA ad X)) (cw kA ad (up3 (up3 X 8 0 (nI (nx6 w))) 8 1 (if 6 < (((up3 X 8 0 (nI (nx6 w))) 8) 1) + 1 then 6 else (((up3 X 8 0 (nI (nx6 w))) 8) 1) + 1))) := by rw [← st_kept ]; exact hD
    refine lv_aload_n hx hb dX1_save_40 rfl (lv_at hl 0 rfl) ?_
    refine cs_p (runV (As := []) (rest := []) ⟨hx, hb, hml, hown, hts⟩ (m_X1_newestRow l D kA ad (up3 (up3 X 8 0 (nI (nx6 w))) 8 1 (if 6 < (((up3 X 8 0 (nI (nx6 w))) 8) 1) + 1 then 6 else (((up3 X 8 0 (nI (nx6 w))) 8) 1) + 1)) (nx6 w) (by rw [up3_ne (Or.inr (by omega)), up3_s]) (hnx)) q_358 q_359 q_360 q_5 q_361 hd_X1_newestRow ⟨rfl, rfl⟩ ⟨Nat.le_of_ble_eq_true rfl, Nat.le_of_ble_eq_true rfl⟩ hK (ws := (cw kA ad (up3 (up3 X 8 0 (nI (nx6 w))) 8 1 (if 6 < (((up3 X 8 0 (nI (nx6 w))) 8) 1) + 1 then 6 else (((up3 X 8 0 (nI (nx6 w))) 8) 1) + 1)))) hP hD _ (ci := 1) (C := RX1) (T := TX1) (N := 3) rfl (cw_hist (kA := kA) (ad := ad) (X := up3 (up3 X 8 0 (nI (nx6 w))) 8 1 (if 6 < (((up3 X 8 0 (nI (nx6 w))) 8) 1) + 1 then 6 else (((up3 X 8 0 (nI (nx6 w))) 8) 1) + 1))) rfl hl.1 rfl (Nat.le_of_ble_eq_true rfl) dX1_save_41 ⟨Nat.zero_le _, Nat.zero_le _⟩) ?_
    refine lv_astore_n (lv' := [(2, .ref (sA ad ((nx6 w) + 1))), (0, .ref (ad 1)), (1, .ref (sA ad 0))]) hx hb dX1_save_44 rfl hl (by decide) rfl (fun ls hl => ?_)
    refine lv_aload_n hx hb dX1_save_45 rfl (lv_at hl 0 rfl) ?_
    refine lv_ifnull hx hb dX1_save_46 ?_
    refine lv_aload_n hx hb dX1_save_49 rfl (lv_at hl 0 rfl) ?_
    refine lv_aload_n hx hb dX1_save_50 rfl (lv_at hl 2 rfl) ?_
    refine cs_fn (runV (As := [.ref (sA ad 0)]) (rest := []) ⟨hx, hb, hml, hown, hts⟩ (m_X4_copyFrom l D kA ad (up3 (up3 X 8 0 (nI (nx6 w))) 8 1 (if 6 < (((up3 X 8 0 (nI (nx6 w))) 8) 1) + 1 then 6 else (((up3 X 8 0 (nI (nx6 w))) 8) 1) + 1)) ((nx6 w) + 1) 0 (by omega) (by omega) (by omega)) q_362 q_363 q_364 q_2 q_365 hd_X4_copyFrom ⟨rfl, rfl⟩ ⟨Nat.le_of_ble_eq_true rfl, Nat.le_of_ble_eq_true rfl⟩ hK (ws := (cw kA ad (up3 (up3 X 8 0 (nI (nx6 w))) 8 1 (if 6 < (((up3 X 8 0 (nI (nx6 w))) 8) 1) + 1 then 6 else (((up3 X 8 0 (nI (nx6 w))) 8) 1) + 1)))) hP hD _ (ci := 4) (C := RX4) (T := TX4) (N := 4) rfl (cw_state (kA := kA) (ad := ad) (X := up3 (up3 X 8 0 (nI (nx6 w))) 8 1 (if 6 < (((up3 X 8 0 (nI (nx6 w))) 8) 1) + 1 then 6 else (((up3 X 8 0 (nI (nx6 w))) 8) 1) + 1)) (r := ((nx6 w) + 1)) (by omega)) rfl hl.1 rfl (Nat.le_of_ble_eq_true rfl) dX1_save_51 ⟨Nat.zero_le _, Nat.zero_le _⟩) hS (fun _ h => cw_Aw h) (fun H locs hP _ hS => ?_)
    have hD := cw_D (X' := up2 (up3 (up3 X 8 0 (nI (nx6 w))) 8 1 (if 6 < (((up3 X 8 0 (nI (nx6 w))) 8) 1) + 1 then 6 else (((up3 X 8 0 (nI (nx6 w))) 8) 1) + 1)) ((nx6 w) + 1) ((up3 (up3 X 8 0 (nI (nx6 w))) 8 1 (if 6 < (((up3 X 8 0 (nI (nx6 w))) 8) 1) + 1 then 6 else (((up3 X 8 0 (nI (nx6 w))) 8) 1) + 1)) 0)) hD
    exact end_fv hx hb hrt hlk hP hS (fun h => by rw [sv_eq] at h; exact h) dX1_save_54

