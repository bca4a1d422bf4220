theorem hd_X3_valueOf : yX3_valueOf.cls ≠ "java/lang/invoke/MethodHandle" ∧ yX3_valueOf.cls ≠ "java/lang/invoke/VarHandle" ∧ (parseMethodDescriptor yX3_valueOf.desc).map (fun d => d.parameters.length) = some 1 := by decide +kernel
set_option maxRecDepth 100000 in
set_option maxHeartbeats 4000000 in
theorem m_X3_valueOf (l : Launch) (D : va_G) (kA : Nat → Nat) (h9 : Nat) (R : Nat → Int32) (p0 : Int32) : Met l yX3_valueOf (Cond.code yX3_valueOf cX3_valueOf 2 (some .int) :: AW) ({ frames := 0, cells := 0, slots := 0, locals := 0 } : Room) (Pz [.ref h9, .int p0] D (TY kA) [(h9, rC R)]) (pQ (some (.int (rvF R p0)))) 0 0 (fun _ => False) := by
  refine MetZ (by decide +kernel) (Nat.le_of_ble_eq_true rfl) ?_
  intro p e s m below meth c ls hx hb hrt hts hown hml hlk hnm hP hK hD hS hl
  have hl : lv_has ls 2 [(0, .ref h9), (1, .int p0)] := hl
  refine lv_iload_n hx hb dX3_valueOf_0 rfl (lv_at hl 1 rfl) ?_
  by_cases c_1 : p0 = 0
  · skip
    refine lv_tableIn (off := 35) (tgt := 36) hx hb dX3_valueOf_1 (by rw [c_1]; decide) (by rw [c_1]; decide) (by rw [c_1]; decide +kernel) (by decide) ?_
    refine lv_aload_n hx hb dX3_valueOf_36 rfl (lv_at hl 0 rfl) ?_
    refine va_get (ci := 3) (v := .int (R 0)) (C := RX3) (T := TX3) (N := 6) hx hb hts inX3 hown hK hP 0 rfl rfl 0 (by decide) (hts _ q_37) (fun _ h9 => h9) rfl dX3_valueOf_37 ?_
    exact end_pi hx hb hrt hlk (by rw [rvF, if_pos c_1]) dX3_valueOf_40
  by_cases c_2 : p0 = 1
  · skip
    refine lv_tableIn (off := 40) (tgt := 41) hx hb dX3_valueOf_1 (by rw [c_2]; decide) (by rw [c_2]; decide) (by rw [c_2]; decide +kernel) (by decide) ?_
    refine lv_aload_n hx hb dX3_valueOf_41 rfl (lv_at hl 0 rfl) ?_
    refine va_get (ci := 3) (v := .int (R 1)) (C := RX3) (T := TX3) (N := 6) hx hb hts inX3 hown hK hP 0 rfl rfl 1 (by decide) (hts _ q_39) (fun _ h9 => h9) rfl dX3_valueOf_42 ?_
    exact end_pi hx hb hrt hlk (by rw [rvF, if_neg c_1, if_pos c_2]) dX3_valueOf_45
  by_cases c_3 : p0 = 2
  · skip
    refine lv_tableIn (off := 45) (tgt := 46) hx hb dX3_valueOf_1 (by rw [c_3]; decide) (by rw [c_3]; decide) (by rw [c_3]; decide +kernel) (by decide) ?_
    refine lv_aload_n hx hb dX3_valueOf_46 rfl (lv_at hl 0 rfl) ?_
    refine va_get (ci := 3) (v := .int (R 2)) (C := RX3) (T := TX3) (N := 6) hx hb hts inX3 hown hK hP 0 rfl rfl 2 (by decide) (hts _ q_41) (fun _ h9 => h9) rfl dX3_valueOf_47 ?_
    exact end_pi hx hb hrt hlk (by rw [rvF, if_neg c_1, if_neg c_2, if_pos c_3]) dX3_valueOf_50
  by_cases c_4 : p0 = 3
  · skip
    refine lv_tableIn (off := 50) (tgt := 51) hx hb dX3_valueOf_1 (by rw [c_4]; decide) (by rw [c_4]; decide) (by rw [c_4]; decide +kernel) (by decide) ?_
    refine lv_aload_n hx hb dX3_valueOf_51 rfl (lv_at hl 0 rfl) ?_
    refine va_get (ci := 3) (v := .int (R 3)) (C := RX3) (T := TX3) (N := 6) hx hb hts inX3 hown hK hP 0 rfl rfl 3 (by decide) (hts _ q_44) (fun _ h9 => h9) rfl dX3_valueOf_52 ?_
    exact end_pi hx hb hrt hlk (by rw [rvF, if_neg c_1, if_neg c_2, if_neg c_3, if_pos c_4]) dX3_valueOf_55
  by_cases c_5 : p0 = 4
  · skip
    refine lv_tableIn (off := 55) (tgt := 56) hx hb dX3_valueOf_1 (by rw [c_5]; decide) (by rw [c_5]; decide) (by rw [c_5]; decide +kernel) (by decide) ?_
    refine lv_aload_n hx hb dX3_valueOf_56 rfl (lv_at hl 0 rfl) ?_
    refine va_get (ci := 3) (v := .int (R 4)) (C := RX3) (T := TX3) (N := 6) hx hb hts inX3 hown hK hP 0 rfl rfl 4 (by decide) (hts _ q_46) (fun _ h9 => h9) rfl dX3_valueOf_57 ?_
    exact end_pi hx hb hrt hlk (by rw [rvF, if_neg c_1, if_neg c_2, if_neg c_3, if_neg c_4, if_pos c_5]) dX3_valueOf_60
  refine lv_tableOut (tgt := 61) hx hb dX3_valueOf_1 (sw_out 0 4 (by intro k h1 h2; rcases (show k = 0 ∨ k = 1 ∨ k = 2 ∨ k = 3 ∨ k = 4 by omega) with rfl | rfl | rfl | rfl | rfl <;> first | exact lv_neT c_1 (by decide) | exact lv_neT c_2 (by decide) | exact lv_neT c_3 (by decide) | exact lv_neT c_4 (by decide) | exact lv_neT c_5 (by decide))) (by decide) ?_
  refine lv_aload_n hx hb dX3_valueOf_61 rfl (lv_at hl 0 rfl) ?_
  refine va_get (ci := 3) (v := .int (R 5)) (C := RX3) (T := TX3) (N := 6) hx hb hts inX3 hown hK hP 0 rfl rfl 5 (by decide) (hts _ q_48) (fun _ h9 => h9) rfl dX3_valueOf_62 ?_
  exact end_pi hx hb hrt hlk (by rw [rvF, if_neg c_1, if_neg c_2, if_neg c_3, if_neg c_4, if_neg c_5]) dX3_valueOf_65

theorem hd_X3_put : yX3_put.cls ≠ "java/lang/invoke/MethodHandle" ∧ yX3_put.cls ≠ "java/lang/invoke/VarHandle" ∧ (parseMethodDescriptor yX3_put.desc).map (fun d => d.parameters.length) = some 2 := by decide +kernel
set_option maxRecDepth 100000 in
set_option maxHeartbeats 4000000 in
theorem m_X3_put (l : Launch) (D : va_G) (kA : Nat → Nat) (h9 : Nat) (R : Nat → Int32) (p0 : Int32) (p1 : Int32) : Met l yX3_put (Cond.code yX3_put cX3_put 3 none :: AW) ({ frames := 0, cells := 0, slots := 0, locals := 0 } : Room) (Pz [.ref h9, .int p0, .int p1] D (TY kA) [(h9, rC R)]) (fQ none D [(h9, rC R)] [(h9, rC (rpF R p0 p1))]) 0 0 (Aw [(h9, rC R)]) := by
  refine MetZ (by decide +kernel) (Nat.le_of_ble_eq_true rfl) ?_
  intro p e s m below meth c ls hx hb hrt hts hown hml hlk hnm hP hK hD hS hl
  have hl : lv_has ls 3 [(0, .ref h9), (1, .int p0), (2, .int p1)] := hl
  refine lv_iload_n hx hb dX3_put_0 rfl (lv_at hl 1 rfl) ?_
  by_cases c_1 : p0 = 0
  · skip
    refine lv_tableIn (off := 35) (tgt := 36) hx hb dX3_put_1 (by rw [c_1]; decide) (by rw [c_1]; decide) (by rw [c_1]; decide +kernel) (by decide) ?_
    refine lv_aload_n hx hb dX3_put_36 rfl (lv_at hl 0 rfl) ?_
    refine lv_iload_n hx hb dX3_put_37 rfl (lv_at hl 2 rfl) ?_
    refine va_put (ci := 3) (v := .int p1) (ty := tyX3 0) (C := RX3) (T := TX3) (N := 6) hx hb hts inX3 tyX3 tyX3_ok nmX3 hown hK hP hD hS 0 rfl rfl 0 (by decide) (hts _ q_37) (fun _ h9 => h9) rfl (tyX3_ok 0 (by decide)) rfl rfl (Nat.le_of_ble_eq_true rfl) dX3_put_38 (fun H locs hP hD hS => ?_)
    have hP : va_P D vwCl [(h9, .inr (3, [.int p1, .int (R 1), .int (R 2), .int (R 3), .int (R 4), .int (R 5)]))] H := hP
    have hD : va_D (Aw [(h9, rC R)]) [(h9, .inr (3, [.int p1, .int (R 1), .int (R 2), .int (R 3), .int (R 4), .int (R 5)]))] := hD
    refine lv_goto (tgt := 81) hx hb dX3_put_41 (by decide) ?_
    have hP : va_P D vwCl [(h9, .inr (3, [.int p1, .int (R 1), .int (R 2), .int (R 3), .int (R 4), .int (R 5)]))] _ := hP.sub [0] rfl
    exact end_fv hx hb hrt hlk hP hS (by intro h; rw [rpF, if_pos c_1]; exact h) dX3_put_81
  by_cases c_2 : p0 = 1
  · skip
    refine lv_tableIn (off := 43) (tgt := 44) hx hb dX3_put_1 (by rw [c_2]; decide) (by rw [c_2]; decide) (by rw [c_2]; decide +kernel) (by decide) ?_
    refine lv_aload_n hx hb dX3_put_44 rfl (lv_at hl 0 rfl) ?_
    refine lv_iload_n hx hb dX3_put_45 rfl (lv_at hl 2 rfl) ?_
    refine va_put (ci := 3) (v := .int p1) (ty := tyX3 1) (C := RX3) (T := TX3) (N := 6) hx hb hts inX3 tyX3 tyX3_ok nmX3 hown hK hP hD hS 0 rfl rfl 1 (by decide) (hts _ q_39) (fun _ h9 => h9) rfl (tyX3_ok 1 (by decide)) rfl rfl (Nat.le_of_ble_eq_true rfl) dX3_put_46 (fun H locs hP hD hS => ?_)
    have hP : va_P D vwCl [(h9, .inr (3, [.int (R 0), .int p1, .int (R 2), .int (R 3), .int (R 4), .int (R 5)]))] H := hP
    have hD : va_D (Aw [(h9, rC R)]) [(h9, .inr (3, [.int (R 0), .int p1, .int (R 2), .int (R 3), .int (R 4), .int (R 5)]))] := hD
    refine lv_goto (tgt := 81) hx hb dX3_put_49 (by decide) ?_
    have hP : va_P D vwCl [(h9, .inr (3, [.int (R 0), .int p1, .int (R 2), .int (R 3), .int (R 4), .int (R 5)]))] _ := hP.sub [0] rfl
    exact end_fv hx hb hrt hlk hP hS (by intro h; rw [rpF, if_neg c_1, if_pos c_2]; exact h) dX3_put_81
  by_cases c_3 : p0 = 2
  · skip
    refine lv_tableIn (off := 51) (tgt := 52) hx hb dX3_put_1 (by rw [c_3]; decide) (by rw [c_3]; decide) (by rw [c_3]; decide +kernel) (by decide) ?_
    refine lv_aload_n hx hb dX3_put_52 rfl (lv_at hl 0 rfl) ?_
    refine lv_iload_n hx hb dX3_put_53 rfl (lv_at hl 2 rfl) ?_
    refine va_put (ci := 3) (v := .int p1) (ty := tyX3 2) (C := RX3) (T := TX3) (N := 6) hx hb hts inX3 tyX3 tyX3_ok nmX3 hown hK hP hD hS 0 rfl rfl 2 (by decide) (hts _ q_41) (fun _ h9 => h9) rfl (tyX3_ok 2 (by decide)) rfl rfl (Nat.le_of_ble_eq_true rfl) dX3_put_54 (fun H locs hP hD hS => ?_)
    have hP : va_P D vwCl [(h9, .inr (3, [.int (R 0), .int (R 1), .int p1, .int (R 3), .int (R 4), .int (R 5)]))] H := hP
    have hD : va_D (Aw [(h9, rC R)]) [(h9, .inr (3, [.int (R 0), .int (R 1), .int p1, .int (R 3), .int (R 4), .int (R 5)]))] := hD
    refine lv_goto (tgt := 81) hx hb dX3_put_57 (by decide) ?_
    have hP : va_P D vwCl [(h9, .inr (3, [.int (R 0), .int (R 1), .int p1, .int (R 3), .int (R 4), .int (R 5)]))] _ := hP.sub [0] rfl
    exact end_fv hx hb hrt hlk hP hS (by intro h; rw [rpF, if_neg c_1, if_neg c_2, if_pos c_3]; exact h) dX3_put_81
  by_cases c_4 : p0 = 3
  · skip
    refine lv_tableIn (off := 59) (tgt := 60) hx hb dX3_put_1 (by rw [c_4]; decide) (by rw [c_4]; decide) (by rw [c_4]; decide +kernel) (by decide) ?_
    refine lv_aload_n hx hb dX3_put_60 rfl (lv_at hl 0 rfl) ?_
    refine lv_iload_n hx hb dX3_put_61 rfl (lv_at hl 2 rfl) ?_
    refine va_put (ci := 3) (v := .int p1) (ty := tyX3 3) (C := RX3) (T := TX3) (N := 6) hx hb hts inX3 tyX3 tyX3_ok nmX3 hown hK hP hD hS 0 rfl rfl 3 (by decide) (hts _ q_44) (fun _ h9 => h9) rfl (tyX3_ok 3 (by decide)) rfl rfl (Nat.le_of_ble_eq_true rfl) dX3_put_62 (fun H locs hP hD hS => ?_)
    have hP : va_P D vwCl [(h9, .inr (3, [.int (R 0), .int (R 1), .int (R 2), .int p1, .int (R 4), .int (R 5)]))] H := hP
    have hD : va_D (Aw [(h9, rC R)]) [(h9, .inr (3, [.int (R 0), .int (R 1), .int (R 2), .int p1, .int (R 4), .int (R 5)]))] := hD
    refine lv_goto (tgt := 81) hx hb dX3_put_65 (by decide) ?_
    have hP : va_P D vwCl [(h9, .inr (3, [.int (R 0), .int (R 1), .int (R 2), .int p1, .int (R 4), .int (R 5)]))] _ := hP.sub [0] rfl
    exact end_fv hx hb hrt hlk hP hS (by intro h; rw [rpF, if_neg c_1, if_neg c_2, if_neg c_3, if_pos c_4]; exact h) dX3_put_81
  by_cases c_5 : p0 = 4
  · skip
    refine lv_tableIn (off := 67) (tgt := 68) hx hb dX3_put_1 (by rw [c_5]; decide) (by rw [c_5]; decide) (by rw [c_5]; decide +kernel) (by decide) ?_
    refine lv_aload_n hx hb dX3_put_68 rfl (lv_at hl 0 rfl) ?_
    refine lv_iload_n hx hb dX3_put_69 rfl (lv_at hl 2 rfl) ?_
    refine va_put (ci := 3) (v := .int p1) (ty := tyX3 4) (C := RX3) (T := TX3) (N := 6) hx hb hts inX3 tyX3 tyX3_ok nmX3 hown hK hP hD hS 0 rfl rfl 4 (by decide) (hts _ q_46) (fun _ h9 => h9) rfl (tyX3_ok 4 (by decide)) rfl rfl (Nat.le_of_ble_eq_true rfl) dX3_put_70 (fun H locs hP hD hS => ?_)
    have hP : va_P D vwCl [(h9, .inr (3, [.int (R 0), .int (R 1), .int (R 2), .int (R 3), .int p1, .int (R 5)]))] H := hP
    have hD : va_D (Aw [(h9, rC R)]) [(h9, .inr (3, [.int (R 0), .int (R 1), .int (R 2), .int (R 3), .int p1, .int (R 5)]))] := hD
    refine lv_goto (tgt := 81) hx hb dX3_put_73 (by decide) ?_
    have hP : va_P D vwCl [(h9, .inr (3, [.int (R 0), .int (R 1), .int (R 2), .int (R 3), .int p1, .int (R 5)]))] _ := hP.sub [0] rfl
    exact end_fv hx hb hrt hlk hP hS (by intro h; rw [rpF, if_neg c_1, if_neg c_2, if_neg c_3, if_neg c_4, if_pos c_5]; exact h) dX3_put_81
  refine lv_tableOut (tgt := 76) hx hb dX3_put_1 (sw_out 0 4 (by intro k h1 h2; rcases (show k = 0 ∨ k = 1 ∨ k = 2 ∨ k = 3 ∨ k = 4 by omega) with rfl | rfl | rfl | rfl | rfl <;> first | exact lv_neT c_1 (by decide) | exact lv_neT c_2 (by decide) | exact lv_neT c_3 (by decide) | exact lv_neT c_4 (by decide) | exact lv_neT c_5 (by decide))) (by decide) ?_
  refine lv_aload_n hx hb dX3_put_76 rfl (lv_at hl 0 rfl) ?_
  refine lv_iload_n hx hb dX3_put_77 rfl (lv_at hl 2 rfl) ?_
  refine va_put (ci := 3) (v := .int p1) (ty := tyX3 5) (C := RX3) (T := TX3) (N := 6) hx hb hts inX3 tyX3 tyX3_ok nmX3 hown hK hP hD hS 0 rfl rfl 5 (by decide) (hts _ q_48) (fun _ h9 => h9) rfl (tyX3_ok 5 (by decide)) rfl rfl (Nat.le_of_ble_eq_true rfl) dX3_put_78 (fun H locs hP hD hS => ?_)
  have hP : va_P D vwCl [(h9, .inr (3, [.int (R 0), .int (R 1), .int (R 2), .int (R 3), .int (R 4), .int p1]))] H := hP
  have hD : va_D (Aw [(h9, rC R)]) [(h9, .inr (3, [.int (R 0), .int (R 1), .int (R 2), .int (R 3), .int (R 4), .int p1]))] := hD
  have hP : va_P D vwCl [(h9, .inr (3, [.int (R 0), .int (R 1), .int (R 2), .int (R 3), .int (R 4), .int p1]))] _ := hP.sub [0] rfl
  exact end_fv hx hb hrt hlk hP hS (by intro h; rw [rpF, if_neg c_1, if_neg c_2, if_neg c_3, if_neg c_4, if_neg c_5]; exact h) dX3_put_81

theorem hd_X3_copyFrom : yX3_copyFrom.cls ≠ "java/lang/invoke/MethodHandle" ∧ yX3_copyFrom.cls ≠ "java/lang/invoke/VarHandle" ∧ (parseMethodDescriptor yX3_copyFrom.desc).map (fun d => d.parameters.length) = some 1 := by decide +kernel
set_option maxRecDepth 100000 in
set_option maxHeartbeats 4000000 in
theorem m_X3_copyFrom (l : Launch) (D : va_G) (kA : Nat → Nat) (h9 : Nat) (R : Nat → Int32) (h8 : Nat) (R1 : Nat → Int32) : Met l yX3_copyFrom (Cond.code yX3_copyFrom cX3_copyFrom 2 none :: AW) ({ frames := 0, cells := 0, slots := 0, locals := 0 } : Room) (Pz [.ref h9, .ref h8] D (TY kA) [(h9, rC R), (h8, rC R1)]) (fQ none D [(h9, rC R), (h8, rC R1)] [(h9, rC R1), (h8, rC R1)]) 0 0 (Aw [(h9, rC R), (h8, rC R1)]) := by
  refine MetZ (by decide +kernel) (Nat.le_of_ble_eq_true rfl) ?_
  intro p e s m below meth c ls hx hb hrt hts hown hml hlk hnm hP hK hD hS hl
  have hl : lv_has ls 2 [(0, .ref h9), (1, .ref h8)] := hl
  refine lv_aload_n hx hb dX3_copyFrom_0 rfl (lv_at hl 0 rfl) ?_
  refine lv_aload_n hx hb dX3_copyFrom_1 rfl (lv_at hl 1 rfl) ?_
  refine va_get (ci := 3) (v := .int (R1 0)) (C := RX3) (T := TX3) (N := 6) hx hb hts inX3 hown hK hP 1 rfl rfl 0 (by decide) (hts _ q_37) (fun _ h9 => h9) rfl dX3_copyFrom_2 ?_
  refine va_put (ci := 3) (v := .int (R1 0)) (ty := tyX3 0) (C := RX3) (T := TX3) (N := 6) hx hb hts inX3 tyX3 tyX3_ok nmX3 hown hK hP hD hS 0 rfl rfl 0 (by decide) (hts _ q_37) (fun _ h9 => h9) rfl (tyX3_ok 0 (by decide)) rfl rfl (Nat.le_of_ble_eq_true rfl) dX3_copyFrom_5 (fun H locs hP hD hS => ?_)
  have hP : va_P D vwCl [(h9, .inr (3, [.int (R1 0), .int (R 1), .int (R 2), .int (R 3), .int (R 4), .int (R 5)])), (h8, rC R1)] H := hP
  have hD : va_D (Aw [(h9, rC R), (h8, rC R1)]) [(h9, .inr (3, [.int (R1 0), .int (R 1), .int (R 2), .int (R 3), .int (R 4), .int (R 5)])), (h8, rC R1)] := hD
  refine lv_aload_n hx hb dX3_copyFrom_8 rfl (lv_at hl 0 rfl) ?_
  refine lv_aload_n hx hb dX3_copyFrom_9 rfl (lv_at hl 1 rfl) ?_
  refine va_get (ci := 3) (v := .int (R1 1)) (C := RX3) (T := TX3) (N := 6) hx hb hts inX3 hown hK hP 1 rfl rfl 1 (by decide) (hts _ q_39) (fun _ h9 => h9) rfl dX3_copyFrom_10 ?_
  refine va_put (ci := 3) (v := .int (R1 1)) (ty := tyX3 1) (C := RX3) (T := TX3) (N := 6) hx hb hts inX3 tyX3 tyX3_ok nmX3 hown hK hP hD hS 0 rfl rfl 1 (by decide) (hts _ q_39) (fun _ h9 => h9) rfl (tyX3_ok 1 (by decide)) rfl rfl (Nat.le_of_ble_eq_true rfl) dX3_copyFrom_13 (fun H locs hP hD hS => ?_)
  have hP : va_P D vwCl [(h9, .inr (3, [.int (R1 0), .int (R1 1), .int (R 2), .int (R 3), .int (R 4), .int (R 5)])), (h8, rC R1)] H := hP
  have hD : va_D (Aw [(h9, rC R), (h8, rC R1)]) [(h9, .inr (3, [.int (R1 0), .int (R1 1), .int (R 2), .int (R 3), .int (R 4), .int (R 5)])), (h8, rC R1)] := hD
  refine lv_aload_n hx hb dX3_copyFrom_16 rfl (lv_at hl 0 rfl) ?_
  refine lv_aload_n hx hb dX3_copyFrom_17 rfl (lv_at hl 1 rfl) ?_
  refine va_get (ci := 3) (v := .int (R1 2)) (C := RX3) (T := TX3) (N := 6) hx hb hts inX3 hown hK hP 1 rfl rfl 2 (by decide) (hts _ q_41) (fun _ h9 => h9) rfl dX3_copyFrom_18 ?_
  refine va_put (ci := 3) (v := .int (R1 2)) (ty := tyX3 2) (C := RX3) (T := TX3) (N := 6) hx hb hts inX3 tyX3 tyX3_ok nmX3 hown hK hP hD hS 0 rfl rfl 2 (by decide) (hts _ q_41) (fun _ h9 => h9) rfl (tyX3_ok 2 (by decide)) rfl rfl (Nat.le_of_ble_eq_true rfl) dX3_copyFrom_21 (fun H locs hP hD hS => ?_)
  have hP : va_P D vwCl [(h9, .inr (3, [.int (R1 0), .int (R1 1), .int (R1 2), .int (R 3), .int (R 4), .int (R 5)])), (h8, rC R1)] H := hP
  have hD : va_D (Aw [(h9, rC R), (h8, rC R1)]) [(h9, .inr (3, [.int (R1 0), .int (R1 1), .int (R1 2), .int (R 3), .int (R 4), .int (R 5)])), (h8, rC R1)] := hD
  refine lv_aload_n hx hb dX3_copyFrom_24 rfl (lv_at hl 0 rfl) ?_
  refine lv_aload_n hx hb dX3_copyFrom_25 rfl (lv_at hl 1 rfl) ?_
  refine va_get (ci := 3) (v := .int (R1 3)) (C := RX3) (T := TX3) (N := 6) hx hb hts inX3 hown hK hP 1 rfl rfl 3 (by decide) (hts _ q_44) (fun _ h9 => h9) rfl dX3_copyFrom_26 ?_
  refine va_put (ci := 3) (v := .int (R1 3)) (ty := tyX3 3) (C := RX3) (T := TX3) (N := 6) hx hb hts inX3 tyX3 tyX3_ok nmX3 hown hK hP hD hS 0 rfl rfl 3 (by decide) (hts _ q_44) (fun _ h9 => h9) rfl (tyX3_ok 3 (by decide)) rfl rfl (Nat.le_of_ble_eq_true rfl) dX3_copyFrom_29 (fun H locs hP hD hS => ?_)
  have hP : va_P D vwCl [(h9, .inr (3, [.int (R1 0), .int (R1 1), .int (R1 2), .int (R1 3), .int (R 4), .int (R 5)])), (h8, rC R1)] H := hP
  have hD : va_D (Aw [(h9, rC R), (h8, rC R1)]) [(h9, .inr (3, [.int (R1 0), .int (R1 1), .int (R1 2), .int (R1 3), .int (R 4), .int (R 5)])), (h8, rC R1)] := hD
  refine lv_aload_n hx hb dX3_copyFrom_32 rfl (lv_at hl 0 rfl) ?_
  refine lv_aload_n hx hb dX3_copyFrom_33 rfl (lv_at hl 1 rfl) ?_
  refine va_get (ci := 3) (v := .int (R1 4)) (C := RX3) (T := TX3) (N := 6) hx hb hts inX3 hown hK hP 1 rfl rfl 4 (by decide) (hts _ q_46) (fun _ h9 => h9) rfl dX3_copyFrom_34 ?_
  refine va_put (ci := 3) (v := .int (R1 4)) (ty := tyX3 4) (C := RX3) (T := TX3) (N := 6) hx hb hts inX3 tyX3 tyX3_ok nmX3 hown hK hP hD hS 0 rfl rfl 4 (by decide) (hts _ q_46) (fun _ h9 => h9) rfl (tyX3_ok 4 (by decide)) rfl rfl (Nat.le_of_ble_eq_true rfl) dX3_copyFrom_37 (fun H locs hP hD hS => ?_)
  have hP : va_P D vwCl [(h9, .inr (3, [.int (R1 0), .int (R1 1), .int (R1 2), .int (R1 3), .int (R1 4), .int (R 5)])), (h8, rC R1)] H := hP
  have hD : va_D (Aw [(h9, rC R), (h8, rC R1)]) [(h9, .inr (3, [.int (R1 0), .int (R1 1), .int (R1 2), .int (R1 3), .int (R1 4), .int (R 5)])), (h8, rC R1)] := hD
  refine lv_aload_n hx hb dX3_copyFrom_40 rfl (lv_at hl 0 rfl) ?_
  refine lv_aload_n hx hb dX3_copyFrom_41 rfl (lv_at hl 1 rfl) ?_
  refine va_get (ci := 3) (v := .int (R1 5)) (C := RX3) (T := TX3) (N := 6) hx hb hts inX3 hown hK hP 1 rfl rfl 5 (by decide) (hts _ q_48) (fun _ h9 => h9) rfl dX3_copyFrom_42 ?_
  refine va_put (ci := 3) (v := .int (R1 5)) (ty := tyX3 5) (C := RX3) (T := TX3) (N := 6) hx hb hts inX3 tyX3 tyX3_ok nmX3 hown hK hP hD hS 0 rfl rfl 5 (by decide) (hts _ q_48) (fun _ h9 => h9) rfl (tyX3_ok 5 (by decide)) rfl rfl (Nat.le_of_ble_eq_true rfl) dX3_copyFrom_45 (fun H locs hP hD hS => ?_)
  have hP : va_P D vwCl [(h9, .inr (3, [.int (R1 0), .int (R1 1), .int (R1 2), .int (R1 3), .int (R1 4), .int (R1 5)])), (h8, rC R1)] H := hP
  have hD : va_D (Aw [(h9, rC R), (h8, rC R1)]) [(h9, .inr (3, [.int (R1 0), .int (R1 1), .int (R1 2), .int (R1 3), .int (R1 4), .int (R1 5)])), (h8, rC R1)] := hD
  have hP : va_P D vwCl [(h9, .inr (3, [.int (R1 0), .int (R1 1), .int (R1 2), .int (R1 3), .int (R1 4), .int (R1 5)])), (h8, rC R1)] _ := hP.sub [0, 1] rfl
  exact end_fv hx hb hrt hlk hP hS (fun h => h) dX3_copyFrom_48

theorem hd_X2_begin : yX2_begin.cls ≠ "java/lang/invoke/MethodHandle" ∧ yX2_begin.cls ≠ "java/lang/invoke/VarHandle" ∧ (parseMethodDescriptor yX2_begin.desc).map (fun d => d.parameters.length) = some 0 := by decide +kernel
set_option maxRecDepth 100000 in
set_option maxHeartbeats 4000000 in
theorem m_X2_begin (l : Launch) (D : va_G) (kA : Nat → Nat) (h0 : Nat) (Q : Nat → Int32) : Met l yX2_begin (Cond.code yX2_begin cX2_begin 1 none :: AW) ({ frames := 0, cells := 0, slots := 0, locals := 0 } : Room) (Pz [.ref h0] D (TY kA) [(h0, dC Q)]) (fQ none D [(h0, dC Q)] [(h0, dC (mkQ 0 (Q 1) (Q 2) (Q 3)))]) 0 0 (Aw [(h0, dC Q)]) := by
  refine MetZ (by decide +kernel) (Nat.le_of_ble_eq_true rfl) ?_
  intro p e s m below meth c ls hx hb hrt hts hown hml hlk hnm hP hK hD hS hl
  have hl : lv_has ls 1 [(0, .ref h0)] := hl
  refine lv_aload_n hx hb dX2_begin_0 rfl (lv_at hl 0 rfl) ?_
  refine lv_iconst (v := 0) hx hb dX2_begin_1 (by decide) ?_
  refine va_put (ci := 2) (v := .int 0) (ty := tyX2 0) (C := RX2) (T := TX2) (N := 4) hx hb hts inX2 tyX2 tyX2_ok nmX2 hown hK hP hD hS 0 rfl rfl 0 (by decide) (hts _ q_160) (fun _ h9 => h9) rfl (tyX2_ok 0 (by decide)) rfl rfl (Nat.le_of_ble_eq_true rfl) dX2_begin_2 (fun H locs hP hD hS => ?_)
  have hP : va_P D vwCl [(h0, .inr (2, [.int 0, .int (Q 1), .int (Q 2), .int (Q 3)]))] H := hP
  have hD : va_D (Aw [(h0, dC Q)]) [(h0, .inr (2, [.int 0, .int (Q 1), .int (Q 2), .int (Q 3)]))] := hD
  have hP : va_P D vwCl [(h0, .inr (2, [.int 0, .int (Q 1), .int (Q 2), .int (Q 3)]))] _ := hP.sub [0] rfl
  exact end_fv hx hb hrt hlk hP hS (fun h => h) dX2_begin_5

theorem hd_X2_isAtEndOfCommand : yX2_isAtEndOfCommand.cls ≠ "java/lang/invoke/MethodHandle" ∧ yX2_isAtEndOfCommand.cls ≠ "java/lang/invoke/VarHandle" ∧ (parseMethodDescriptor yX2_isAtEndOfCommand.desc).map (fun d => d.parameters.length) = some 0 := by decide +kernel
set_option maxRecDepth 100000 in
set_option maxHeartbeats 4000000 in
theorem m_X2_isAtEndOfCommand (l : Launch) (D : va_G) (kA : Nat → Nat) (h0 : Nat) (Q : Nat → Int32) : Met l yX2_isAtEndOfCommand (Cond.code yX2_isAtEndOfCommand cX2_isAtEndOfCommand 1 (some .boolean) :: AW) ({ frames := 0, cells := 0, slots := 0, locals := 0 } : Room) (Pz [.ref h0] D (TY kA) [(h0, dC Q)]) (pQ (some (.int (bI (tkEnd Q))))) 0 0 (fun _ => False) := by
  refine MetZ (by decide +kernel) (Nat.le_of_ble_eq_true rfl) ?_
  intro p e s m below meth c ls hx hb hrt hts hown hml hlk hnm hP hK hD hS hl
  have hl : lv_has ls 1 [(0, .ref h0)] := hl
  refine lv_aload_n hx hb dX2_isAtEndOfCommand_0 rfl (lv_at hl 0 rfl) ?_
  refine va_get (ci := 2) (v := .int (Q 0)) (C := RX2) (T := TX2) (N := 4) hx hb hts inX2 hown hK hP 0 rfl rfl 0 (by decide) (hts _ q_160) (fun _ h9 => h9) rfl dX2_isAtEndOfCommand_1 ?_
  refine lv_iconst (v := 3) hx hb dX2_isAtEndOfCommand_4 (by decide) ?_
  refine lv_icmp_eq (tgt := 16) hx hb dX2_isAtEndOfCommand_5 (by decide) (fun c_1 => ?_) (fun c_1 => ?_)
  · skip
    refine lv_iconst (v := 1) hx hb dX2_isAtEndOfCommand_16 (by decide) ?_
    refine lv_goto (tgt := 21) hx hb dX2_isAtEndOfCommand_17 (by decide) ?_
    exact end_pz hx hb hrt hlk (by decide) (by first | (rw [tkEnd, if_pos c_1]; done) | (rw [tkEnd, if_pos c_1]; rfl) | (simp only [tkEnd, c_1, ↓reduceIte, Bool.false_eq_true, bI]; done)) dX2_isAtEndOfCommand_21
  · skip
    refine lv_aload_n hx hb dX2_isAtEndOfCommand_8 rfl (lv_at hl 0 rfl) ?_
    refine va_get (ci := 2) (v := .int (Q 0)) (C := RX2) (T := TX2) (N := 4) hx hb hts inX2 hown hK hP 0 rfl rfl 0 (by decide) (hts _ q_160) (fun _ h9 => h9) rfl dX2_isAtEndOfCommand_9 ?_
    refine lv_iconst (v := 4) hx hb dX2_isAtEndOfCommand_12 (by decide) ?_
    refine lv_icmp_ne (tgt := 20) hx hb dX2_isAtEndOfCommand_13 (by decide) (fun c_2 => ?_) (fun c_2 => ?_)
    · skip
      refine lv_iconst (v := 0) hx hb dX2_isAtEndOfCommand_20 (by decide) ?_
      exact end_pz hx hb hrt hlk (by decide) (by first | (rw [tkEnd, if_neg c_1, if_neg c_2]; done) | (rw [tkEnd, if_neg c_1, if_neg c_2]; rfl) | (rw [tkEnd, if_neg c_1]; rw [c_2]; rfl)) dX2_isAtEndOfCommand_21
    · skip
      refine lv_iconst (v := 1) hx hb dX2_isAtEndOfCommand_16 (by decide) ?_
      refine lv_goto (tgt := 21) hx hb dX2_isAtEndOfCommand_17 (by decide) ?_
      exact end_pz hx hb hrt hlk (by decide) (by first | (rw [tkEnd, if_neg c_1, if_pos c_2]; done) | (rw [tkEnd, if_neg c_1, if_pos c_2]; rfl) | (rw [tkEnd, if_neg c_1]; rw [c_2]; rfl)) dX2_isAtEndOfCommand_21

theorem hd_X2_takeLetter : yX2_takeLetter.cls ≠ "java/lang/invoke/MethodHandle" ∧ yX2_takeLetter.cls ≠ "java/lang/invoke/VarHandle" ∧ (parseMethodDescriptor yX2_takeLetter.desc).map (fun d => d.parameters.length) = some 1 := by decide +kernel
set_option maxRecDepth 100000 in
set_option maxHeartbeats 4000000 in
theorem m_X2_takeLetter (l : Launch) (D : va_G) (kA : Nat → Nat) (h0 : Nat) (Q : Nat → Int32) (p0 : Int32) : Met l yX2_takeLetter (Cond.code yX2_takeLetter cX2_takeLetter 2 (some .boolean) :: AW) ({ frames := 0, cells := 0, slots := 0, locals := 0 } : Room) (Pz [.ref h0, .int p0] D (TY kA) [(h0, dC Q)]) (fQ (some (.int (bI (tkLetter Q p0).1))) D [(h0, dC Q)] [(h0, dC ((tkLetter Q p0).2))]) 0 0 (Aw [(h0, dC Q)]) := by
  refine MetZ (by decide +kernel) (Nat.le_of_ble_eq_true rfl) ?_
  intro p e s m below meth c ls hx hb hrt hts hown hml hlk hnm hP hK hD hS hl
  have hl : lv_has ls 2 [(0, .ref h0), (1, .int p0)] := hl
  refine lv_iload_n hx hb dX2_takeLetter_0 rfl (lv_at hl 1 rfl) ?_
  refine lv_bipush (v := 97) hx hb dX2_takeLetter_1 (by decide) ?_
  refine lv_icmp_lt (tgt := 12) hx hb dX2_takeLetter_3 (by decide) (fun c_1 => ?_) (fun c_1 => ?_)
  · skip
    refine lv_iconst (v := 0) hx hb dX2_takeLetter_12 (by decide) ?_
    have hP : va_P D vwCl [(h0, dC Q)] _ := hP.sub [0] rfl
    exact end_fz hx hb hrt hlk (by decide) hP hS (by first | (rw [tkLetter, if_pos c_1]; done) | (rw [tkLetter, if_pos c_1]; rfl) | (simp only [tkLetter, c_1, ↓reduceIte, Bool.false_eq_true, bI]; done)) (by intro h; have e9 : (tkLetter Q p0).2 = Q := (by first | rfl | (rw [tkLetter, if_pos c_1]; done) | (rw [tkLetter, if_pos c_1]; rfl) | (rw [tkLetter]; done)); rw [e9]; exact h) dX2_takeLetter_13
  · skip
    refine lv_iload_n hx hb dX2_takeLetter_6 rfl (lv_at hl 1 rfl) ?_
    refine lv_bipush (v := 101) hx hb dX2_takeLetter_7 (by decide) ?_
    refine lv_icmp_lt (tgt := 14) hx hb dX2_takeLetter_9 (by decide) (fun c_2 => ?_) (fun c_2 => ?_)
    · skip
      refine lv_aload_n hx hb dX2_takeLetter_14 rfl (lv_at hl 0 rfl) ?_
      refine lv_iload_n hx hb dX2_takeLetter_15 rfl (lv_at hl 1 rfl) ?_
      refine lv_bipush (v := 97) hx hb dX2_takeLetter_16 (by decide) ?_
      refine lv_isub hx hb dX2_takeLetter_18 ?_
      refine va_put (ci := 2) (v := .int (p0 - 97)) (ty := tyX2 1) (C := RX2) (T := TX2) (N := 4) hx hb hts inX2 tyX2 tyX2_ok nmX2 hown hK hP hD hS 0 rfl rfl 1 (by decide) (hts _ q_161) (fun _ h9 => h9) rfl (tyX2_ok 1 (by decide)) rfl rfl (Nat.le_of_ble_eq_true rfl) dX2_takeLetter_19 (fun H locs hP hD hS => ?_)
      have hP : va_P D vwCl [(h0, .inr (2, [.int (Q 0), .int (p0 - 97), .int (Q 2), .int (Q 3)]))] H := hP
      have hD : va_D (Aw [(h0, dC Q)]) [(h0, .inr (2, [.int (Q 0), .int (p0 - 97), .int (Q 2), .int (Q 3)]))] := hD
      refine lv_aload_n hx hb dX2_takeLetter_22 rfl (lv_at hl 0 rfl) ?_
      refine lv_iconst (v := 1) hx hb dX2_takeLetter_23 (by decide) ?_
      refine va_put (ci := 2) (v := .int 1) (ty := tyX2 0) (C := RX2) (T := TX2) (N := 4) hx hb hts inX2 tyX2 tyX2_ok nmX2 hown hK hP hD hS 0 rfl rfl 0 (by decide) (hts _ q_160) (fun _ h9 => h9) rfl (tyX2_ok 0 (by decide)) rfl rfl (Nat.le_of_ble_eq_true rfl) dX2_takeLetter_24 (fun H locs hP hD hS => ?_)
      have hP : va_P D vwCl [(h0, .inr (2, [.int 1, .int (p0 - 97), .int (Q 2), .int (Q 3)]))] H := hP
      have hD : va_D (Aw [(h0, dC Q)]) [(h0, .inr (2, [.int 1, .int (p0 - 97), .int (Q 2), .int (Q 3)]))] := hD
      refine lv_iconst (v := 1) hx hb dX2_takeLetter_27 (by decide) ?_
      have hP : va_P D vwCl [(h0, .inr (2, [.int 1, .int (p0 - 97), .int (Q 2), .int (Q 3)]))] _ := hP.sub [0] rfl
      exact end_fz hx hb hrt hlk (by decide) hP hS (by first | (rw [tkLetter, if_neg c_1, if_pos c_2]; done) | (rw [tkLetter, if_neg c_1, if_pos c_2]; rfl) | (rw [tkLetter, if_neg c_1]; rw [c_2]; rfl)) (by intro h; have e9 : (tkLetter Q p0).2 = mkQ 1 (p0 - 97) (Q 2) (Q 3) := (by first | rfl | (rw [tkLetter, if_neg c_1, if_pos c_2]; done) | (rw [tkLetter, if_neg c_1, if_pos c_2]; rfl) | (rw [tkLetter, if_neg c_1]; done)); rw [e9]; exact h) dX2_takeLetter_28
    · skip
      refine lv_iconst (v := 0) hx hb dX2_takeLetter_12 (by decide) ?_
      have hP : va_P D vwCl [(h0, dC Q)] _ := hP.sub [0] rfl
      exact end_fz hx hb hrt hlk (by decide) hP hS (by first | (rw [tkLetter, if_neg c_1, if_neg c_2]; done) | (rw [tkLetter, if_neg c_1, if_neg c_2]; rfl) | (rw [tkLetter, if_neg c_1]; rw [c_2]; rfl)) (by intro h; have e9 : (tkLetter Q p0).2 = Q := (by first | rfl | (rw [tkLetter, if_neg c_1, if_neg c_2]; done) | (rw [tkLetter, if_neg c_1, if_neg c_2]; rfl) | (rw [tkLetter, if_neg c_1]; done)); rw [e9]; exact h) dX2_takeLetter_13

theorem hd_X2_takeKind : yX2_takeKind.cls ≠ "java/lang/invoke/MethodHandle" ∧ yX2_takeKind.cls ≠ "java/lang/invoke/VarHandle" ∧ (parseMethodDescriptor yX2_takeKind.desc).map (fun d => d.parameters.length) = some 1 := by decide +kernel
set_option maxRecDepth 100000 in
set_option maxHeartbeats 4000000 in
theorem m_X2_takeKind (l : Launch) (D : va_G) (kA : Nat → Nat) (h0 : Nat) (Q : Nat → Int32) (p0 : Int32) : Met l yX2_takeKind (Cond.code yX2_takeKind cX2_takeKind 3 (some .boolean) :: AW) ({ frames := 0, cells := 0, slots := 0, locals := 0 } : Room) (Pz [.ref h0, .int p0] D (TY kA) [(h0, dC Q)]) (fQ (some (.int (bI (tkKind Q p0).1))) D [(h0, dC Q)] [(h0, dC ((tkKind Q p0).2))]) 0 0 (Aw [(h0, dC Q)]) := by
  refine MetZ (by decide +kernel) (Nat.le_of_ble_eq_true rfl) ?_
  intro p e s m below meth c ls hx hb hrt hts hown hml hlk hnm hP hK hD hS hl
  have hl : lv_has ls 3 [(0, .ref h0), (1, .int p0)] := hl
  refine lv_iload_n hx hb dX2_takeKind_0 rfl (lv_at hl 1 rfl) ?_
  refine lv_bipush (v := 43) hx hb dX2_takeKind_1 (by decide) ?_
  refine lv_icmp_eq (tgt := 18) hx hb dX2_takeKind_3 (by decide) (fun c_1 => ?_) (fun c_1 => ?_)
  · skip
    refine lv_iconst (v := 1) hx hb dX2_takeKind_18 (by decide) ?_
    refine lv_goto (tgt := 23) hx hb dX2_takeKind_19 (by decide) ?_
    refine lv_istore_n (lv' := [(2, .int 1), (0, .ref h0), (1, .int p0)]) hx hb dX2_takeKind_23 rfl hl (by decide) rfl (fun ls hl => ?_)
    refine lv_iload_n hx hb dX2_takeKind_24 rfl (lv_at hl 0 rfl) ?_
    refine lv_if_ne (tgt := 42) hx hb dX2_takeKind_25 (by decide) (fun c_2 => ?_) (fun c_2 => ?_)
    · skip
      refine lv_aload_n hx hb dX2_takeKind_42 rfl (lv_at hl 1 rfl) ?_
      refine lv_iload_n hx hb dX2_takeKind_43 rfl (lv_at hl 2 rfl) ?_
      refine va_put (ci := 2) (v := .int p0) (ty := tyX2 2) (C := RX2) (T := TX2) (N := 4) hx hb hts inX2 tyX2 tyX2_ok nmX2 hown hK hP hD hS 0 rfl rfl 2 (by decide) (hts _ q_163) (fun _ h9 => h9) rfl (tyX2_ok 2 (by decide)) rfl rfl (Nat.le_of_ble_eq_true rfl) dX2_takeKind_44 (fun H locs hP hD hS => ?_)
      have hP : va_P D vwCl [(h0, .inr (2, [.int (Q 0), .int (Q 1), .int p0, .int (Q 3)]))] H := hP
      have hD : va_D (Aw [(h0, dC Q)]) [(h0, .inr (2, [.int (Q 0), .int (Q 1), .int p0, .int (Q 3)]))] := hD
      refine lv_aload_n hx hb dX2_takeKind_47 rfl (lv_at hl 1 rfl) ?_
      refine lv_iload_n hx hb dX2_takeKind_48 rfl (lv_at hl 0 rfl) ?_
      refine lv_if_eq (tgt := 56) hx hb dX2_takeKind_49 (by decide) (fun c_3 => ?_) (fun c_3 => ?_)
      · exact absurd c_3 (by decide)
      · skip
        refine lv_iconst (v := 2) hx hb dX2_takeKind_52 (by decide) ?_
        refine lv_goto (tgt := 57) hx hb dX2_takeKind_53 (by decide) ?_
        refine va_put (ci := 2) (v := .int 2) (ty := tyX2 0) (C := RX2) (T := TX2) (N := 4) hx hb hts inX2 tyX2 tyX2_ok nmX2 hown hK hP hD hS 0 rfl rfl 0 (by decide) (hts _ q_160) (fun _ h9 => h9) rfl (tyX2_ok 0 (by decide)) rfl rfl (Nat.le_of_ble_eq_true rfl) dX2_takeKind_57 (fun H locs hP hD hS => ?_)
        have hP : va_P D vwCl [(h0, .inr (2, [.int 2, .int (Q 1), .int p0, .int (Q 3)]))] H := hP
        have hD : va_D (Aw [(h0, dC Q)]) [(h0, .inr (2, [.int 2, .int (Q 1), .int p0, .int (Q 3)]))] := hD
        refine lv_iconst (v := 1) hx hb dX2_takeKind_60 (by decide) ?_
        have hP : va_P D vwCl [(h0, .inr (2, [.int 2, .int (Q 1), .int p0, .int (Q 3)]))] _ := hP.sub [0] rfl
        exact end_fz hx hb hrt hlk (by decide) hP hS (by first | (rw [tkKind, if_pos c_1]; done) | (rw [tkKind, if_pos c_1]; rfl) | (simp only [tkKind, c_1, c_2, c_3, ↓reduceIte, Bool.false_eq_true, bI]; done)) (by intro h; have e9 : (tkKind Q p0).2 = mkQ 2 (Q 1) p0 (Q 3) := (by first | rfl | (rw [tkKind, if_pos c_1]; done) | (rw [tkKind, if_pos c_1]; rfl) | (rw [tkKind]; done)); rw [e9]; exact h) dX2_takeKind_61
    · exact absurd c_2 (by decide)
  · skip
    refine lv_iload_n hx hb dX2_takeKind_6 rfl (lv_at hl 1 rfl) ?_
    refine lv_bipush (v := 45) hx hb dX2_takeKind_7 (by decide) ?_
    refine lv_icmp_eq (tgt := 18) hx hb dX2_takeKind_9 (by decide) (fun c_4 => ?_) (fun c_4 => ?_)
    · skip
      refine lv_iconst (v := 1) hx hb dX2_takeKind_18 (by decide) ?_
      refine lv_goto (tgt := 23) hx hb dX2_takeKind_19 (by decide) ?_
      refine lv_istore_n (lv' := [(2, .int 1), (0, .ref h0), (1, .int p0)]) hx hb dX2_takeKind_23 rfl hl (by decide) rfl (fun ls hl => ?_)
      refine lv_iload_n hx hb dX2_takeKind_24 rfl (lv_at hl 0 rfl) ?_
      refine lv_if_ne (tgt := 42) hx hb dX2_takeKind_25 (by decide) (fun c_5 => ?_) (fun c_5 => ?_)
      · skip
        refine lv_aload_n hx hb dX2_takeKind_42 rfl (lv_at hl 1 rfl) ?_
        refine lv_iload_n hx hb dX2_takeKind_43 rfl (lv_at hl 2 rfl) ?_
        refine va_put (ci := 2) (v := .int p0) (ty := tyX2 2) (C := RX2) (T := TX2) (N := 4) hx hb hts inX2 tyX2 tyX2_ok nmX2 hown hK hP hD hS 0 rfl rfl 2 (by decide) (hts _ q_163) (fun _ h9 => h9) rfl (tyX2_ok 2 (by decide)) rfl rfl (Nat.le_of_ble_eq_true rfl) dX2_takeKind_44 (fun H locs hP hD hS => ?_)
        have hP : va_P D vwCl [(h0, .inr (2, [.int (Q 0), .int (Q 1), .int p0, .int (Q 3)]))] H := hP
        have hD : va_D (Aw [(h0, dC Q)]) [(h0, .inr (2, [.int (Q 0), .int (Q 1), .int p0, .int (Q 3)]))] := hD
        refine lv_aload_n hx hb dX2_takeKind_47 rfl (lv_at hl 1 rfl) ?_
        refine lv_iload_n hx hb dX2_takeKind_48 rfl (lv_at hl 0 rfl) ?_
        refine lv_if_eq (tgt := 56) hx hb dX2_takeKind_49 (by decide) (fun c_6 => ?_) (fun c_6 => ?_)
        · exact absurd c_6 (by decide)
        · skip
          refine lv_iconst (v := 2) hx hb dX2_takeKind_52 (by decide) ?_
          refine lv_goto (tgt := 57) hx hb dX2_takeKind_53 (by decide) ?_
          refine va_put (ci := 2) (v := .int 2) (ty := tyX2 0) (C := RX2) (T := TX2) (N := 4) hx hb hts inX2 tyX2 tyX2_ok nmX2 hown hK hP hD hS 0 rfl rfl 0 (by decide) (hts _ q_160) (fun _ h9 => h9) rfl (tyX2_ok 0 (by decide)) rfl rfl (Nat.le_of_ble_eq_true rfl) dX2_takeKind_57 (fun H locs hP hD hS => ?_)
          have hP : va_P D vwCl [(h0, .inr (2, [.int 2, .int (Q 1), .int p0, .int (Q 3)]))] H := hP
          have hD : va_D (Aw [(h0, dC Q)]) [(h0, .inr (2, [.int 2, .int (Q 1), .int p0, .int (Q 3)]))] := hD
          refine lv_iconst (v := 1) hx hb dX2_takeKind_60 (by decide) ?_
          have hP : va_P D vwCl [(h0, .inr (2, [.int 2, .int (Q 1), .int p0, .int (Q 3)]))] _ := hP.sub [0] rfl
          exact end_fz hx hb hrt hlk (by decide) hP hS (by first | (rw [tkKind, if_neg c_1, if_pos c_4]; done) | (rw [tkKind, if_neg c_1, if_pos c_4]; rfl) | (rw [tkKind, if_neg c_1]; rw [c_6]; rfl)) (by intro h; have e9 : (tkKind Q p0).2 = mkQ 2 (Q 1) p0 (Q 3) := (by first | rfl | (rw [tkKind, if_neg c_1, if_pos c_4]; done) | (rw [tkKind, if_neg c_1, if_pos c_4]; rfl) | (rw [tkKind, if_neg c_1]; done)); rw [e9]; exact h) dX2_takeKind_61
      · exact absurd c_5 (by decide)
    · skip
      refine lv_iload_n hx hb dX2_takeKind_12 rfl (lv_at hl 1 rfl) ?_
      refine lv_bipush (v := 61) hx hb dX2_takeKind_13 (by decide) ?_
      refine lv_icmp_ne (tgt := 22) hx hb dX2_takeKind_15 (by decide) (fun c_7 => ?_) (fun c_7 => ?_)
      · skip
        refine lv_iconst (v := 0) hx hb dX2_takeKind_22 (by decide) ?_
        refine lv_istore_n (lv' := [(2, .int 0), (0, .ref h0), (1, .int p0)]) hx hb dX2_takeKind_23 rfl hl (by decide) rfl (fun ls hl => ?_)
        refine lv_iload_n hx hb dX2_takeKind_24 rfl (lv_at hl 0 rfl) ?_
        refine lv_if_ne (tgt := 42) hx hb dX2_takeKind_25 (by decide) (fun c_8 => ?_) (fun c_8 => ?_)
        · exact absurd c_8 (by decide)
        · skip
          refine lv_iload_n hx hb dX2_takeKind_28 rfl (lv_at hl 2 rfl) ?_
          refine lv_bipush (v := 104) hx hb dX2_takeKind_29 (by decide) ?_
          refine lv_icmp_eq (tgt := 42) hx hb dX2_takeKind_31 (by decide) (fun c_9 => ?_) (fun c_9 => ?_)
          · skip
            refine lv_aload_n hx hb dX2_takeKind_42 rfl (lv_at hl 1 rfl) ?_
            refine lv_iload_n hx hb dX2_takeKind_43 rfl (lv_at hl 2 rfl) ?_
            refine va_put (ci := 2) (v := .int p0) (ty := tyX2 2) (C := RX2) (T := TX2) (N := 4) hx hb hts inX2 tyX2 tyX2_ok nmX2 hown hK hP hD hS 0 rfl rfl 2 (by decide) (hts _ q_163) (fun _ h9 => h9) rfl (tyX2_ok 2 (by decide)) rfl rfl (Nat.le_of_ble_eq_true rfl) dX2_takeKind_44 (fun H locs hP hD hS => ?_)
            have hP : va_P D vwCl [(h0, .inr (2, [.int (Q 0), .int (Q 1), .int p0, .int (Q 3)]))] H := hP
            have hD : va_D (Aw [(h0, dC Q)]) [(h0, .inr (2, [.int (Q 0), .int (Q 1), .int p0, .int (Q 3)]))] := hD
            refine lv_aload_n hx hb dX2_takeKind_47 rfl (lv_at hl 1 rfl) ?_
            refine lv_iload_n hx hb dX2_takeKind_48 rfl (lv_at hl 0 rfl) ?_
            refine lv_if_eq (tgt := 56) hx hb dX2_takeKind_49 (by decide) (fun c_10 => ?_) (fun c_10 => ?_)
            · skip
              refine lv_iconst (v := 4) hx hb dX2_takeKind_56 (by decide) ?_
              refine va_put (ci := 2) (v := .int 4) (ty := tyX2 0) (C := RX2) (T := TX2) (N := 4) hx hb hts inX2 tyX2 tyX2_ok nmX2 hown hK hP hD hS 0 rfl rfl 0 (by decide) (hts _ q_160) (fun _ h9 => h9) rfl (tyX2_ok 0 (by decide)) rfl rfl (Nat.le_of_ble_eq_true rfl) dX2_takeKind_57 (fun H locs hP hD hS => ?_)
              have hP : va_P D vwCl [(h0, .inr (2, [.int 4, .int (Q 1), .int p0, .int (Q 3)]))] H := hP
              have hD : va_D (Aw [(h0, dC Q)]) [(h0, .inr (2, [.int 4, .int (Q 1), .int p0, .int (Q 3)]))] := hD
              refine lv_iconst (v := 1) hx hb dX2_takeKind_60 (by decide) ?_
              have hP : va_P D vwCl [(h0, .inr (2, [.int 4, .int (Q 1), .int p0, .int (Q 3)]))] _ := hP.sub [0] rfl
              exact end_fz hx hb hrt hlk (by decide) hP hS (by first | (rw [tkKind, if_neg c_1, if_neg c_4, if_neg c_7, if_pos c_9]; done) | (rw [tkKind, if_neg c_1, if_neg c_4, if_neg c_7, if_pos c_9]; rfl) | (rw [tkKind, if_neg c_1, if_neg c_4, if_neg c_7]; rw [c_10]; rfl)) (by intro h; have e9 : (tkKind Q p0).2 = mkQ 4 (Q 1) p0 (Q 3) := (by first | rfl | (rw [tkKind, if_neg c_1, if_neg c_4, if_neg c_7, if_pos c_9]; done) | (rw [tkKind, if_neg c_1, if_neg c_4, if_neg c_7, if_pos c_9]; rfl) | (rw [tkKind, if_neg c_1, if_neg c_4, if_neg c_7]; done)); rw [e9]; exact h) dX2_takeKind_61
            · exact absurd c_10 (by decide)
          · skip
            refine lv_iload_n hx hb dX2_takeKind_34 rfl (lv_at hl 2 rfl) ?_
            refine lv_bipush (v := 103) hx hb dX2_takeKind_35 (by decide) ?_
            refine lv_icmp_eq (tgt := 42) hx hb dX2_takeKind_37 (by decide) (fun c_11 => ?_) (fun c_11 => ?_)
            · skip
              refine lv_aload_n hx hb dX2_takeKind_42 rfl (lv_at hl 1 rfl) ?_
              refine lv_iload_n hx hb dX2_takeKind_43 rfl (lv_at hl 2 rfl) ?_
              refine va_put (ci := 2) (v := .int p0) (ty := tyX2 2) (C := RX2) (T := TX2) (N := 4) hx hb hts inX2 tyX2 tyX2_ok nmX2 hown hK hP hD hS 0 rfl rfl 2 (by decide) (hts _ q_163) (fun _ h9 => h9) rfl (tyX2_ok 2 (by decide)) rfl rfl (Nat.le_of_ble_eq_true rfl) dX2_takeKind_44 (fun H locs hP hD hS => ?_)
              have hP : va_P D vwCl [(h0, .inr (2, [.int (Q 0), .int (Q 1), .int p0, .int (Q 3)]))] H := hP
              have hD : va_D (Aw [(h0, dC Q)]) [(h0, .inr (2, [.int (Q 0), .int (Q 1), .int p0, .int (Q 3)]))] := hD
              refine lv_aload_n hx hb dX2_takeKind_47 rfl (lv_at hl 1 rfl) ?_
              refine lv_iload_n hx hb dX2_takeKind_48 rfl (lv_at hl 0 rfl) ?_
              refine lv_if_eq (tgt := 56) hx hb dX2_takeKind_49 (by decide) (fun c_12 => ?_) (fun c_12 => ?_)
              · skip
                refine lv_iconst (v := 4) hx hb dX2_takeKind_56 (by decide) ?_
                refine va_put (ci := 2) (v := .int 4) (ty := tyX2 0) (C := RX2) (T := TX2) (N := 4) hx hb hts inX2 tyX2 tyX2_ok nmX2 hown hK hP hD hS 0 rfl rfl 0 (by decide) (hts _ q_160) (fun _ h9 => h9) rfl (tyX2_ok 0 (by decide)) rfl rfl (Nat.le_of_ble_eq_true rfl) dX2_takeKind_57 (fun H locs hP hD hS => ?_)
                have hP : va_P D vwCl [(h0, .inr (2, [.int 4, .int (Q 1), .int p0, .int (Q 3)]))] H := hP
                have hD : va_D (Aw [(h0, dC Q)]) [(h0, .inr (2, [.int 4, .int (Q 1), .int p0, .int (Q 3)]))] := hD
                refine lv_iconst (v := 1) hx hb dX2_takeKind_60 (by decide) ?_
                have hP : va_P D vwCl [(h0, .inr (2, [.int 4, .int (Q 1), .int p0, .int (Q 3)]))] _ := hP.sub [0] rfl
                exact end_fz hx hb hrt hlk (by decide) hP hS (by first | (rw [tkKind, if_neg c_1, if_neg c_4, if_neg c_7, if_neg c_9, if_pos c_11]; done) | (rw [tkKind, if_neg c_1, if_neg c_4, if_neg c_7, if_neg c_9, if_pos c_11]; rfl) | (rw [tkKind, if_neg c_1, if_neg c_4, if_neg c_7, if_neg c_9]; rw [c_12]; rfl)) (by intro h; have e9 : (tkKind Q p0).2 = mkQ 4 (Q 1) p0 (Q 3) := (by first | rfl | (rw [tkKind, if_neg c_1, if_neg c_4, if_neg c_7, if_neg c_9, if_pos c_11]; done) | (rw [tkKind, if_neg c_1, if_neg c_4, if_neg c_7, if_neg c_9, if_pos c_11]; rfl) | (rw [tkKind, if_neg c_1, if_neg c_4, if_neg c_7, if_neg c_9]; done)); rw [e9]; exact h) dX2_takeKind_61
              · exact absurd c_12 (by decide)
            · skip
              refine lv_iconst (v := 0) hx hb dX2_takeKind_40 (by decide) ?_
              have hP : va_P D vwCl [(h0, dC Q)] _ := hP.sub [0] rfl
              exact end_fz hx hb hrt hlk (by decide) hP hS (by first | (rw [tkKind, if_neg c_1, if_neg c_4, if_neg c_7, if_neg c_9, if_neg c_11]; done) | (rw [tkKind, if_neg c_1, if_neg c_4, if_neg c_7, if_neg c_9, if_neg c_11]; rfl) | (rw [tkKind, if_neg c_1, if_neg c_4, if_neg c_7, if_neg c_9]; rw [c_11]; rfl)) (by intro h; have e9 : (tkKind Q p0).2 = Q := (by first | rfl | (rw [tkKind, if_neg c_1, if_neg c_4, if_neg c_7, if_neg c_9, if_neg c_11]; done) | (rw [tkKind, if_neg c_1, if_neg c_4, if_neg c_7, if_neg c_9, if_neg c_11]; rfl) | (rw [tkKind, if_neg c_1, if_neg c_4, if_neg c_7, if_neg c_9]; done)); rw [e9]; exact h) dX2_takeKind_41
      · skip
        refine lv_iconst (v := 1) hx hb dX2_takeKind_18 (by decide) ?_
        refine lv_goto (tgt := 23) hx hb dX2_takeKind_19 (by decide) ?_
        refine lv_istore_n (lv' := [(2, .int 1), (0, .ref h0), (1, .int p0)]) hx hb dX2_takeKind_23 rfl hl (by decide) rfl (fun ls hl => ?_)
        refine lv_iload_n hx hb dX2_takeKind_24 rfl (lv_at hl 0 rfl) ?_
        refine lv_if_ne (tgt := 42) hx hb dX2_takeKind_25 (by decide) (fun c_13 => ?_) (fun c_13 => ?_)
        · skip
          refine lv_aload_n hx hb dX2_takeKind_42 rfl (lv_at hl 1 rfl) ?_
          refine lv_iload_n hx hb dX2_takeKind_43 rfl (lv_at hl 2 rfl) ?_
          refine va_put (ci := 2) (v := .int p0) (ty := tyX2 2) (C := RX2) (T := TX2) (N := 4) hx hb hts inX2 tyX2 tyX2_ok nmX2 hown hK hP hD hS 0 rfl rfl 2 (by decide) (hts _ q_163) (fun _ h9 => h9) rfl (tyX2_ok 2 (by decide)) rfl rfl (Nat.le_of_ble_eq_true rfl) dX2_takeKind_44 (fun H locs hP hD hS => ?_)
          have hP : va_P D vwCl [(h0, .inr (2, [.int (Q 0), .int (Q 1), .int p0, .int (Q 3)]))] H := hP
          have hD : va_D (Aw [(h0, dC Q)]) [(h0, .inr (2, [.int (Q 0), .int (Q 1), .int p0, .int (Q 3)]))] := hD
          refine lv_aload_n hx hb dX2_takeKind_47 rfl (lv_at hl 1 rfl) ?_
          refine lv_iload_n hx hb dX2_takeKind_48 rfl (lv_at hl 0 rfl) ?_
          refine lv_if_eq (tgt := 56) hx hb dX2_takeKind_49 (by decide) (fun c_14 => ?_) (fun c_14 => ?_)
          · exact absurd c_14 (by decide)
          · skip
            refine lv_iconst (v := 2) hx hb dX2_takeKind_52 (by decide) ?_
            refine lv_goto (tgt := 57) hx hb dX2_takeKind_53 (by decide) ?_
            refine va_put (ci := 2) (v := .int 2) (ty := tyX2 0) (C := RX2) (T := TX2) (N := 4) hx hb hts inX2 tyX2 tyX2_ok nmX2 hown hK hP hD hS 0 rfl rfl 0 (by decide) (hts _ q_160) (fun _ h9 => h9) rfl (tyX2_ok 0 (by decide)) rfl rfl (Nat.le_of_ble_eq_true rfl) dX2_takeKind_57 (fun H locs hP hD hS => ?_)
            have hP : va_P D vwCl [(h0, .inr (2, [.int 2, .int (Q 1), .int p0, .int (Q 3)]))] H := hP
            have hD : va_D (Aw [(h0, dC Q)]) [(h0, .inr (2, [.int 2, .int (Q 1), .int p0, .int (Q 3)]))] := hD
            refine lv_iconst (v := 1) hx hb dX2_takeKind_60 (by decide) ?_
            have hP : va_P D vwCl [(h0, .inr (2, [.int 2, .int (Q 1), .int p0, .int (Q 3)]))] _ := hP.sub [0] rfl
            exact end_fz hx hb hrt hlk (by decide) hP hS (by first | (rw [tkKind, if_neg c_1, if_neg c_4, if_pos c_7]; done) | (rw [tkKind, if_neg c_1, if_neg c_4, if_pos c_7]; rfl) | (rw [tkKind, if_neg c_1, if_neg c_4]; rw [c_14]; rfl)) (by intro h; have e9 : (tkKind Q p0).2 = mkQ 2 (Q 1) p0 (Q 3) := (by first | rfl | (rw [tkKind, if_neg c_1, if_neg c_4, if_pos c_7]; done) | (rw [tkKind, if_neg c_1, if_neg c_4, if_pos c_7]; rfl) | (rw [tkKind, if_neg c_1, if_neg c_4]; done)); rw [e9]; exact h) dX2_takeKind_61
        · exact absurd c_13 (by decide)

theorem hd_X2_takeFirstDigit : yX2_takeFirstDigit.cls ≠ "java/lang/invoke/MethodHandle" ∧ yX2_takeFirstDigit.cls ≠ "java/lang/invoke/VarHandle" ∧ (parseMethodDescriptor yX2_takeFirstDigit.desc).map (fun d => d.parameters.length) = some 1 := by decide +kernel
set_option maxRecDepth 100000 in
set_option maxHeartbeats 4000000 in
theorem m_X2_takeFirstDigit (l : Launch) (D : va_G) (kA : Nat → Nat) (h0 : Nat) (Q : Nat → Int32) (p0 : Int32) : Met l yX2_takeFirstDigit (Cond.code yX2_takeFirstDigit cX2_takeFirstDigit 3 (some .boolean) :: AW) ({ frames := 0, cells := 0, slots := 0, locals := 0 } : Room) (Pz [.ref h0, .int p0] D (TY kA) [(h0, dC Q)]) (fQ (some (.int (bI (tkFirst Q p0).1))) D [(h0, dC Q)] [(h0, dC ((tkFirst Q p0).2))]) 0 0 (Aw [(h0, dC Q)]) := by
  refine MetZ (by decide +kernel) (Nat.le_of_ble_eq_true rfl) ?_
  intro p e s m below meth c ls hx hb hrt hts hown hml hlk hnm hP hK hD hS hl
  have hl : lv_has ls 3 [(0, .ref h0), (1, .int p0)] := hl
  refine lv_aload_n hx hb dX2_takeFirstDigit_0 rfl (lv_at hl 0 rfl) ?_
  refine va_get (ci := 2) (v := .int (Q 2)) (C := RX2) (T := TX2) (N := 4) hx hb hts inX2 hown hK hP 0 rfl rfl 2 (by decide) (hts _ q_163) (fun _ h9 => h9) rfl dX2_takeFirstDigit_1 ?_
  refine lv_bipush (v := 61) hx hb dX2_takeFirstDigit_4 (by decide) ?_
  refine lv_icmp_ne (tgt := 14) hx hb dX2_takeFirstDigit_6 (by decide) (fun c_1 => ?_) (fun c_1 => ?_)
  · skip
    refine lv_bipush (v := 49) hx hb dX2_takeFirstDigit_14 (by decide) ?_
    refine lv_istore_n (lv' := [(2, .int 49), (0, .ref h0), (1, .int p0)]) hx hb dX2_takeFirstDigit_16 rfl hl (by decide) rfl (fun ls hl => ?_)
    refine lv_iload_n hx hb dX2_takeFirstDigit_17 rfl (lv_at hl 2 rfl) ?_
    refine lv_iload_n hx hb dX2_takeFirstDigit_18 rfl (lv_at hl 0 rfl) ?_
    refine lv_icmp_lt (tgt := 28) hx hb dX2_takeFirstDigit_19 (by decide) (fun c_2 => ?_) (fun c_2 => ?_)
    · skip
      refine lv_iconst (v := 0) hx hb dX2_takeFirstDigit_28 (by decide) ?_
      have hP : va_P D vwCl [(h0, dC Q)] _ := hP.sub [0] rfl
      exact end_fz hx hb hrt hlk (by decide) hP hS (by first | (rw [tkFirst, if_neg c_1, if_pos c_2]; done) | (rw [tkFirst, if_neg c_1, if_pos c_2]; rfl) | (rw [tkFirst, if_neg c_1]; rw [c_2]; rfl)) (by intro h; have e9 : (tkFirst Q p0).2 = Q := (by first | rfl | (rw [tkFirst, if_neg c_1, if_pos c_2]; done) | (rw [tkFirst, if_neg c_1, if_pos c_2]; rfl) | (rw [tkFirst, if_neg c_1]; done)); rw [e9]; exact h) dX2_takeFirstDigit_29
    · skip
      refine lv_iload_n hx hb dX2_takeFirstDigit_22 rfl (lv_at hl 2 rfl) ?_
      refine lv_bipush (v := 57) hx hb dX2_takeFirstDigit_23 (by decide) ?_
      refine lv_icmp_le (tgt := 30) hx hb dX2_takeFirstDigit_25 (by decide) (fun c_3 => ?_) (fun c_3 => ?_)
      · skip
        replace c_3 := ge_n c_3
        refine lv_aload_n hx hb dX2_takeFirstDigit_30 rfl (lv_at hl 1 rfl) ?_
        refine lv_iload_n hx hb dX2_takeFirstDigit_31 rfl (lv_at hl 2 rfl) ?_
        refine lv_bipush (v := 48) hx hb dX2_takeFirstDigit_32 (by decide) ?_
        refine lv_isub hx hb dX2_takeFirstDigit_34 ?_
        refine va_put (ci := 2) (v := .int (p0 - 48)) (ty := tyX2 3) (C := RX2) (T := TX2) (N := 4) hx hb hts inX2 tyX2 tyX2_ok nmX2 hown hK hP hD hS 0 rfl rfl 3 (by decide) (hts _ q_165) (fun _ h9 => h9) rfl (tyX2_ok 3 (by decide)) rfl rfl (Nat.le_of_ble_eq_true rfl) dX2_takeFirstDigit_35 (fun H locs hP hD hS => ?_)
        have hP : va_P D vwCl [(h0, .inr (2, [.int (Q 0), .int (Q 1), .int (Q 2), .int (p0 - 48)]))] H := hP
        have hD : va_D (Aw [(h0, dC Q)]) [(h0, .inr (2, [.int (Q 0), .int (Q 1), .int (Q 2), .int (p0 - 48)]))] := hD
        refine lv_aload_n hx hb dX2_takeFirstDigit_38 rfl (lv_at hl 1 rfl) ?_
        refine lv_iconst (v := 3) hx hb dX2_takeFirstDigit_39 (by decide) ?_
        refine va_put (ci := 2) (v := .int 3) (ty := tyX2 0) (C := RX2) (T := TX2) (N := 4) hx hb hts inX2 tyX2 tyX2_ok nmX2 hown hK hP hD hS 0 rfl rfl 0 (by decide) (hts _ q_160) (fun _ h9 => h9) rfl (tyX2_ok 0 (by decide)) rfl rfl (Nat.le_of_ble_eq_true rfl) dX2_takeFirstDigit_40 (fun H locs hP hD hS => ?_)
        have hP : va_P D vwCl [(h0, .inr (2, [.int 3, .int (Q 1), .int (Q 2), .int (p0 - 48)]))] H := hP
        have hD : va_D (Aw [(h0, dC Q)]) [(h0, .inr (2, [.int 3, .int (Q 1), .int (Q 2), .int (p0 - 48)]))] := hD
        refine lv_iconst (v := 1) hx hb dX2_takeFirstDigit_43 (by decide) ?_
        have hP : va_P D vwCl [(h0, .inr (2, [.int 3, .int (Q 1), .int (Q 2), .int (p0 - 48)]))] _ := hP.sub [0] rfl
        exact end_fz hx hb hrt hlk (by decide) hP hS (by first | (rw [tkFirst, if_neg c_1, if_neg c_2, if_neg c_3]; done) | (rw [tkFirst, if_neg c_1, if_neg c_2, if_neg c_3]; rfl) | (rw [tkFirst, if_neg c_1, if_neg c_2]; rw [c_3]; rfl)) (by intro h; have e9 : (tkFirst Q p0).2 = mkQ 3 (Q 1) (Q 2) (p0 - 48) := (by first | rfl | (rw [tkFirst, if_neg c_1, if_neg c_2, if_neg c_3]; done) | (rw [tkFirst, if_neg c_1, if_neg c_2, if_neg c_3]; rfl) | (rw [tkFirst, if_neg c_1, if_neg c_2]; done)); rw [e9]; exact h) dX2_takeFirstDigit_44
      · skip
        replace c_3 := nge_l c_3
        refine lv_iconst (v := 0) hx hb dX2_takeFirstDigit_28 (by decide) ?_
        have hP : va_P D vwCl [(h0, dC Q)] _ := hP.sub [0] rfl
        exact end_fz hx hb hrt hlk (by decide) hP hS (by first | (rw [tkFirst, if_neg c_1, if_neg c_2, if_pos c_3]; done) | (rw [tkFirst, if_neg c_1, if_neg c_2, if_pos c_3]; rfl) | (rw [tkFirst, if_neg c_1, if_neg c_2]; rw [c_3]; rfl)) (by intro h; have e9 : (tkFirst Q p0).2 = Q := (by first | rfl | (rw [tkFirst, if_neg c_1, if_neg c_2, if_pos c_3]; done) | (rw [tkFirst, if_neg c_1, if_neg c_2, if_pos c_3]; rfl) | (rw [tkFirst, if_neg c_1, if_neg c_2]; done)); rw [e9]; exact h) dX2_takeFirstDigit_29
  · skip
    refine lv_bipush (v := 48) hx hb dX2_takeFirstDigit_9 (by decide) ?_
    refine lv_goto (tgt := 16) hx hb dX2_takeFirstDigit_11 (by decide) ?_
    refine lv_istore_n (lv' := [(2, .int 48), (0, .ref h0), (1, .int p0)]) hx hb dX2_takeFirstDigit_16 rfl hl (by decide) rfl (fun ls hl => ?_)
    refine lv_iload_n hx hb dX2_takeFirstDigit_17 rfl (lv_at hl 2 rfl) ?_
    refine lv_iload_n hx hb dX2_takeFirstDigit_18 rfl (lv_at hl 0 rfl) ?_
    refine lv_icmp_lt (tgt := 28) hx hb dX2_takeFirstDigit_19 (by decide) (fun c_4 => ?_) (fun c_4 => ?_)
    · skip
      refine lv_iconst (v := 0) hx hb dX2_takeFirstDigit_28 (by decide) ?_
      have hP : va_P D vwCl [(h0, dC Q)] _ := hP.sub [0] rfl
      exact end_fz hx hb hrt hlk (by decide) hP hS (by first | (rw [tkFirst, if_pos c_1, if_pos c_4]; done) | (rw [tkFirst, if_pos c_1, if_pos c_4]; rfl) | (rw [tkFirst, if_pos c_1]; rw [c_4]; rfl)) (by intro h; have e9 : (tkFirst Q p0).2 = Q := (by first | rfl | (rw [tkFirst, if_pos c_1, if_pos c_4]; done) | (rw [tkFirst, if_pos c_1, if_pos c_4]; rfl) | (rw [tkFirst, if_pos c_1]; done)); rw [e9]; exact h) dX2_takeFirstDigit_29
    · skip
      refine lv_iload_n hx hb dX2_takeFirstDigit_22 rfl (lv_at hl 2 rfl) ?_
      refine lv_bipush (v := 57) hx hb dX2_takeFirstDigit_23 (by decide) ?_
      refine lv_icmp_le (tgt := 30) hx hb dX2_takeFirstDigit_25 (by decide) (fun c_5 => ?_) (fun c_5 => ?_)
      · skip
        replace c_5 := ge_n c_5
        refine lv_aload_n hx hb dX2_takeFirstDigit_30 rfl (lv_at hl 1 rfl) ?_
        refine lv_iload_n hx hb dX2_takeFirstDigit_31 rfl (lv_at hl 2 rfl) ?_
        refine lv_bipush (v := 48) hx hb dX2_takeFirstDigit_32 (by decide) ?_
        refine lv_isub hx hb dX2_takeFirstDigit_34 ?_
        refine va_put (ci := 2) (v := .int (p0 - 48)) (ty := tyX2 3) (C := RX2) (T := TX2) (N := 4) hx hb hts inX2 tyX2 tyX2_ok nmX2 hown hK hP hD hS 0 rfl rfl 3 (by decide) (hts _ q_165) (fun _ h9 => h9) rfl (tyX2_ok 3 (by decide)) rfl rfl (Nat.le_of_ble_eq_true rfl) dX2_takeFirstDigit_35 (fun H locs hP hD hS => ?_)
        have hP : va_P D vwCl [(h0, .inr (2, [.int (Q 0), .int (Q 1), .int (Q 2), .int (p0 - 48)]))] H := hP
        have hD : va_D (Aw [(h0, dC Q)]) [(h0, .inr (2, [.int (Q 0), .int (Q 1), .int (Q 2), .int (p0 - 48)]))] := hD
        refine lv_aload_n hx hb dX2_takeFirstDigit_38 rfl (lv_at hl 1 rfl) ?_
        refine lv_iconst (v := 3) hx hb dX2_takeFirstDigit_39 (by decide) ?_
        refine va_put (ci := 2) (v := .int 3) (ty := tyX2 0) (C := RX2) (T := TX2) (N := 4) hx hb hts inX2 tyX2 tyX2_ok nmX2 hown hK hP hD hS 0 rfl rfl 0 (by decide) (hts _ q_160) (fun _ h9 => h9) rfl (tyX2_ok 0 (by decide)) rfl rfl (Nat.le_of_ble_eq_true rfl) dX2_takeFirstDigit_40 (fun H locs hP hD hS => ?_)
        have hP : va_P D vwCl [(h0, .inr (2, [.int 3, .int (Q 1), .int (Q 2), .int (p0 - 48)]))] H := hP
        have hD : va_D (Aw [(h0, dC Q)]) [(h0, .inr (2, [.int 3, .int (Q 1), .int (Q 2), .int (p0 - 48)]))] := hD
        refine lv_iconst (v := 1) hx hb dX2_takeFirstDigit_43 (by decide) ?_
        have hP : va_P D vwCl [(h0, .inr (2, [.int 3, .int (Q 1), .int (Q 2), .int (p0 - 48)]))] _ := hP.sub [0] rfl
        exact end_fz hx hb hrt hlk (by decide) hP hS (by first | (rw [tkFirst, if_pos c_1, if_neg c_4, if_neg c_5]; done) | (rw [tkFirst, if_pos c_1, if_neg c_4, if_neg c_5]; rfl) | (rw [tkFirst, if_pos c_1, if_neg c_4]; rw [c_5]; rfl)) (by intro h; have e9 : (tkFirst Q p0).2 = mkQ 3 (Q 1) (Q 2) (p0 - 48) := (by first | rfl | (rw [tkFirst, if_pos c_1, if_neg c_4, if_neg c_5]; done) | (rw [tkFirst, if_pos c_1, if_neg c_4, if_neg c_5]; rfl) | (rw [tkFirst, if_pos c_1, if_neg c_4]; done)); rw [e9]; exact h) dX2_takeFirstDigit_44
      · skip
        replace c_5 := nge_l c_5
        refine lv_iconst (v := 0) hx hb dX2_takeFirstDigit_28 (by decide) ?_
        have hP : va_P D vwCl [(h0, dC Q)] _ := hP.sub [0] rfl
        exact end_fz hx hb hrt hlk (by decide) hP hS (by first | (rw [tkFirst, if_pos c_1, if_neg c_4, if_pos c_5]; done) | (rw [tkFirst, if_pos c_1, if_neg c_4, if_pos c_5]; rfl) | (rw [tkFirst, if_pos c_1, if_neg c_4]; rw [c_5]; rfl)) (by intro h; have e9 : (tkFirst Q p0).2 = Q := (by first | rfl | (rw [tkFirst, if_pos c_1, if_neg c_4, if_pos c_5]; done) | (rw [tkFirst, if_pos c_1, if_neg c_4, if_pos c_5]; rfl) | (rw [tkFirst, if_pos c_1, if_neg c_4]; done)); rw [e9]; exact h) dX2_takeFirstDigit_29

theorem hd_X2_takeSecondDigit : yX2_takeSecondDigit.cls ≠ "java/lang/invoke/MethodHandle" ∧ yX2_takeSecondDigit.cls ≠ "java/lang/invoke/VarHandle" ∧ (parseMethodDescriptor yX2_takeSecondDigit.desc).map (fun d => d.parameters.length) = some 1 := by decide +kernel
set_option maxRecDepth 100000 in
set_option maxHeartbeats 4000000 in
theorem m_X2_takeSecondDigit (l : Launch) (D : va_G) (kA : Nat → Nat) (h0 : Nat) (Q : Nat → Int32) (p0 : Int32) : Met l yX2_takeSecondDigit (Cond.code yX2_takeSecondDigit cX2_takeSecondDigit 4 (some .boolean) :: AW) ({ frames := 0, cells := 0, slots := 0, locals := 0 } : Room) (Pz [.ref h0, .int p0] D (TY kA) [(h0, dC Q)]) (fQ (some (.int (bI (tkSecond Q p0).1))) D [(h0, dC Q)] [(h0, dC ((tkSecond Q p0).2))]) 0 0 (Aw [(h0, dC Q)]) := by
  refine MetZ (by decide +kernel) (Nat.le_of_ble_eq_true rfl) ?_
  intro p e s m below meth c ls hx hb hrt hts hown hml hlk hnm hP hK hD hS hl
  have hl : lv_has ls 4 [(0, .ref h0), (1, .int p0)] := hl
  refine lv_aload_n hx hb dX2_takeSecondDigit_0 rfl (lv_at hl 0 rfl) ?_
  refine va_get (ci := 2) (v := .int (Q 2)) (C := RX2) (T := TX2) (N := 4) hx hb hts inX2 hown hK hP 0 rfl rfl 2 (by decide) (hts _ q_163) (fun _ h9 => h9) rfl dX2_takeSecondDigit_1 ?_
  refine lv_bipush (v := 61) hx hb dX2_takeSecondDigit_4 (by decide) ?_
  refine lv_icmp_ne (tgt := 14) hx hb dX2_takeSecondDigit_6 (by decide) (fun c_1 => ?_) (fun c_1 => ?_)
  · skip
    refine lv_bipush (v := 24) hx hb dX2_takeSecondDigit_14 (by decide) ?_
    refine lv_istore_n (lv' := [(2, .int 24), (0, .ref h0), (1, .int p0)]) hx hb dX2_takeSecondDigit_16 rfl hl (by decide) rfl (fun ls hl => ?_)
    refine lv_bipush (v := 10) hx hb dX2_takeSecondDigit_17 (by decide) ?_
    refine lv_aload_n hx hb dX2_takeSecondDigit_19 rfl (lv_at hl 1 rfl) ?_
    refine va_get (ci := 2) (v := .int (Q 3)) (C := RX2) (T := TX2) (N := 4) hx hb hts inX2 hown hK hP 0 rfl rfl 3 (by decide) (hts _ q_165) (fun _ h9 => h9) rfl dX2_takeSecondDigit_20 ?_
    refine lv_imul hx hb dX2_takeSecondDigit_23 ?_
    refine lv_iload_n hx hb dX2_takeSecondDigit_24 rfl (lv_at hl 2 rfl) ?_
    refine lv_iadd hx hb dX2_takeSecondDigit_25 ?_
    refine lv_bipush (v := 48) hx hb dX2_takeSecondDigit_26 (by decide) ?_
    refine lv_isub hx hb dX2_takeSecondDigit_28 ?_
    refine lv_istore_n (lv' := [(3, .int (((10 * (Q 3)) + p0) - 48)), (2, .int 24), (0, .ref h0), (1, .int p0)]) hx hb dX2_takeSecondDigit_29 rfl hl (by decide) rfl (fun ls hl => ?_)
    refine lv_iload_n hx hb dX2_takeSecondDigit_30 rfl (lv_at hl 3 rfl) ?_
    refine lv_bipush (v := 48) hx hb dX2_takeSecondDigit_31 (by decide) ?_
    refine lv_icmp_lt (tgt := 54) hx hb dX2_takeSecondDigit_33 (by decide) (fun c_2 => ?_) (fun c_2 => ?_)
    · skip
      refine lv_iconst (v := 0) hx hb dX2_takeSecondDigit_54 (by decide) ?_
      have hP : va_P D vwCl [(h0, dC Q)] _ := hP.sub [0] rfl
      exact end_fz hx hb hrt hlk (by decide) hP hS (by first | (rw [tkSecond, if_neg c_1, if_pos c_2]; done) | (rw [tkSecond, if_neg c_1, if_pos c_2]; rfl) | (rw [tkSecond, if_neg c_1]; rw [c_2]; rfl)) (by intro h; have e9 : (tkSecond Q p0).2 = Q := (by first | rfl | (rw [tkSecond, if_neg c_1, if_pos c_2]; done) | (rw [tkSecond, if_neg c_1, if_pos c_2]; rfl) | (rw [tkSecond, if_neg c_1]; done)); rw [e9]; exact h) dX2_takeSecondDigit_55
    · skip
      refine lv_iload_n hx hb dX2_takeSecondDigit_36 rfl (lv_at hl 3 rfl) ?_
      refine lv_bipush (v := 57) hx hb dX2_takeSecondDigit_37 (by decide) ?_
      refine lv_icmp_gt (tgt := 54) hx hb dX2_takeSecondDigit_39 (by decide) (fun c_3 => ?_) (fun c_3 => ?_)
      · skip
        refine lv_iconst (v := 0) hx hb dX2_takeSecondDigit_54 (by decide) ?_
        have hP : va_P D vwCl [(h0, dC Q)] _ := hP.sub [0] rfl
        exact end_fz hx hb hrt hlk (by decide) hP hS (by first | (rw [tkSecond, if_neg c_1, if_neg c_2, if_pos c_3]; done) | (rw [tkSecond, if_neg c_1, if_neg c_2, if_pos c_3]; rfl) | (rw [tkSecond, if_neg c_1, if_neg c_2]; rw [c_3]; rfl)) (by intro h; have e9 : (tkSecond Q p0).2 = Q := (by first | rfl | (rw [tkSecond, if_neg c_1, if_neg c_2, if_pos c_3]; done) | (rw [tkSecond, if_neg c_1, if_neg c_2, if_pos c_3]; rfl) | (rw [tkSecond, if_neg c_1, if_neg c_2]; done)); rw [e9]; exact h) dX2_takeSecondDigit_55
      · skip
        refine lv_aload_n hx hb dX2_takeSecondDigit_42 rfl (lv_at hl 2 rfl) ?_
        refine va_get (ci := 2) (v := .int (Q 3)) (C := RX2) (T := TX2) (N := 4) hx hb hts inX2 hown hK hP 0 rfl rfl 3 (by decide) (hts _ q_165) (fun _ h9 => h9) rfl dX2_takeSecondDigit_43 ?_
        refine lv_if_eq (tgt := 54) hx hb dX2_takeSecondDigit_46 (by decide) (fun c_4 => ?_) (fun c_4 => ?_)
        · skip
          refine lv_iconst (v := 0) hx hb dX2_takeSecondDigit_54 (by decide) ?_
          have hP : va_P D vwCl [(h0, dC Q)] _ := hP.sub [0] rfl
          exact end_fz hx hb hrt hlk (by decide) hP hS (by first | (rw [tkSecond, if_neg c_1, if_neg c_2, if_neg c_3, if_pos c_4]; done) | (rw [tkSecond, if_neg c_1, if_neg c_2, if_neg c_3, if_pos c_4]; rfl) | (rw [tkSecond, if_neg c_1, if_neg c_2, if_neg c_3]; rw [c_4]; rfl)) (by intro h; have e9 : (tkSecond Q p0).2 = Q := (by first | rfl | (rw [tkSecond, if_neg c_1, if_neg c_2, if_neg c_3, if_pos c_4]; done) | (rw [tkSecond, if_neg c_1, if_neg c_2, if_neg c_3, if_pos c_4]; rfl) | (rw [tkSecond, if_neg c_1, if_neg c_2, if_neg c_3]; done)); rw [e9]; exact h) dX2_takeSecondDigit_55
        · skip
          refine lv_iload_n hx hb dX2_takeSecondDigit_49 rfl (lv_at hl 0 rfl) ?_
          refine lv_iload_n hx hb dX2_takeSecondDigit_50 rfl (lv_at hl 1 rfl) ?_
          refine lv_icmp_le (tgt := 56) hx hb dX2_takeSecondDigit_51 (by decide) (fun c_5 => ?_) (fun c_5 => ?_)
          · skip
            replace c_5 := ge_n c_5
            refine lv_aload_n hx hb dX2_takeSecondDigit_56 rfl (lv_at hl 2 rfl) ?_
            refine lv_iload_n hx hb dX2_takeSecondDigit_57 rfl (lv_at hl 0 rfl) ?_
            refine va_put (ci := 2) (v := .int (((10 * (Q 3)) + p0) - 48)) (ty := tyX2 3) (C := RX2) (T := TX2) (N := 4) hx hb hts inX2 tyX2 tyX2_ok nmX2 hown hK hP hD hS 0 rfl rfl 3 (by decide) (hts _ q_165) (fun _ h9 => h9) rfl (tyX2_ok 3 (by decide)) rfl rfl (Nat.le_of_ble_eq_true rfl) dX2_takeSecondDigit_58 (fun H locs hP hD hS => ?_)
            have hP : va_P D vwCl [(h0, .inr (2, [.int (Q 0), .int (Q 1), .int (Q 2), .int (((10 * (Q 3)) + p0) - 48)]))] H := hP
            have hD : va_D (Aw [(h0, dC Q)]) [(h0, .inr (2, [.int (Q 0), .int (Q 1), .int (Q 2), .int (((10 * (Q 3)) + p0) - 48)]))] := hD
            refine lv_aload_n hx hb dX2_takeSecondDigit_61 rfl (lv_at hl 2 rfl) ?_
            refine lv_iconst (v := 4) hx hb dX2_takeSecondDigit_62 (by decide) ?_
            refine va_put (ci := 2) (v := .int 4) (ty := tyX2 0) (C := RX2) (T := TX2) (N := 4) hx hb hts inX2 tyX2 tyX2_ok nmX2 hown hK hP hD hS 0 rfl rfl 0 (by decide) (hts _ q_160) (fun _ h9 => h9) rfl (tyX2_ok 0 (by decide)) rfl rfl (Nat.le_of_ble_eq_true rfl) dX2_takeSecondDigit_63 (fun H locs hP hD hS => ?_)
            have hP : va_P D vwCl [(h0, .inr (2, [.int 4, .int (Q 1), .int (Q 2), .int (((10 * (Q 3)) + p0) - 48)]))] H := hP
            have hD : va_D (Aw [(h0, dC Q)]) [(h0, .inr (2, [.int 4, .int (Q 1), .int (Q 2), .int (((10 * (Q 3)) + p0) - 48)]))] := hD
            refine lv_iconst (v := 1) hx hb dX2_takeSecondDigit_66 (by decide) ?_
            have hP : va_P D vwCl [(h0, .inr (2, [.int 4, .int (Q 1), .int (Q 2), .int (((10 * (Q 3)) + p0) - 48)]))] _ := hP.sub [0] rfl
            exact end_fz hx hb hrt hlk (by decide) hP hS (by first | (rw [tkSecond, if_neg c_1, if_neg c_2, if_neg c_3, if_neg c_4, if_neg c_5]; done) | (rw [tkSecond, if_neg c_1, if_neg c_2, if_neg c_3, if_neg c_4, if_neg c_5]; rfl) | (rw [tkSecond, if_neg c_1, if_neg c_2, if_neg c_3, if_neg c_4]; rw [c_5]; rfl)) (by intro h; have e9 : (tkSecond Q p0).2 = mkQ 4 (Q 1) (Q 2) (((10 * (Q 3)) + p0) - 48) := (by first | rfl | (rw [tkSecond, if_neg c_1, if_neg c_2, if_neg c_3, if_neg c_4, if_neg c_5]; done) | (rw [tkSecond, if_neg c_1, if_neg c_2, if_neg c_3, if_neg c_4, if_neg c_5]; rfl) | (rw [tkSecond, if_neg c_1, if_neg c_2, if_neg c_3, if_neg c_4]; done)); rw [e9]; exact h) dX2_takeSecondDigit_67
          · skip
            replace c_5 := nge_l c_5
            refine lv_iconst (v := 0) hx hb dX2_takeSecondDigit_54 (by decide) ?_
            have hP : va_P D vwCl [(h0, dC Q)] _ := hP.sub [0] rfl
            exact end_fz hx hb hrt hlk (by decide) hP hS (by first | (rw [tkSecond, if_neg c_1, if_neg c_2, if_neg c_3, if_neg c_4, if_pos c_5]; done) | (rw [tkSecond, if_neg c_1, if_neg c_2, if_neg c_3, if_neg c_4, if_pos c_5]; rfl) | (rw [tkSecond, if_neg c_1, if_neg c_2, if_neg c_3, if_neg c_4]; rw [c_5]; rfl)) (by intro h; have e9 : (tkSecond Q p0).2 = Q := (by first | rfl | (rw [tkSecond, if_neg c_1, if_neg c_2, if_neg c_3, if_neg c_4, if_pos c_5]; done) | (rw [tkSecond, if_neg c_1, if_neg c_2, if_neg c_3, if_neg c_4, if_pos c_5]; rfl) | (rw [tkSecond, if_neg c_1, if_neg c_2, if_neg c_3, if_neg c_4]; done)); rw [e9]; exact h) dX2_takeSecondDigit_55
  · skip
    refine lv_bipush (v := 23) hx hb dX2_takeSecondDigit_9 (by decide) ?_
    refine lv_goto (tgt := 16) hx hb dX2_takeSecondDigit_11 (by decide) ?_
    refine lv_istore_n (lv' := [(2, .int 23), (0, .ref h0), (1, .int p0)]) hx hb dX2_takeSecondDigit_16 rfl hl (by decide) rfl (fun ls hl => ?_)
    refine lv_bipush (v := 10) hx hb dX2_takeSecondDigit_17 (by decide) ?_
    refine lv_aload_n hx hb dX2_takeSecondDigit_19 rfl (lv_at hl 1 rfl) ?_
    refine va_get (ci := 2) (v := .int (Q 3)) (C := RX2) (T := TX2) (N := 4) hx hb hts inX2 hown hK hP 0 rfl rfl 3 (by decide) (hts _ q_165) (fun _ h9 => h9) rfl dX2_takeSecondDigit_20 ?_
    refine lv_imul hx hb dX2_takeSecondDigit_23 ?_
    refine lv_iload_n hx hb dX2_takeSecondDigit_24 rfl (lv_at hl 2 rfl) ?_
    refine lv_iadd hx hb dX2_takeSecondDigit_25 ?_
    refine lv_bipush (v := 48) hx hb dX2_takeSecondDigit_26 (by decide) ?_
    refine lv_isub hx hb dX2_takeSecondDigit_28 ?_
    refine lv_istore_n (lv' := [(3, .int (((10 * (Q 3)) + p0) - 48)), (2, .int 23), (0, .ref h0), (1, .int p0)]) hx hb dX2_takeSecondDigit_29 rfl hl (by decide) rfl (fun ls hl => ?_)
    refine lv_iload_n hx hb dX2_takeSecondDigit_30 rfl (lv_at hl 3 rfl) ?_
    refine lv_bipush (v := 48) hx hb dX2_takeSecondDigit_31 (by decide) ?_
    refine lv_icmp_lt (tgt := 54) hx hb dX2_takeSecondDigit_33 (by decide) (fun c_6 => ?_) (fun c_6 => ?_)
    · skip
      refine lv_iconst (v := 0) hx hb dX2_takeSecondDigit_54 (by decide) ?_
      have hP : va_P D vwCl [(h0, dC Q)] _ := hP.sub [0] rfl
      exact end_fz hx hb hrt hlk (by decide) hP hS (by first | (rw [tkSecond, if_pos c_1, if_pos c_6]; done) | (rw [tkSecond, if_pos c_1, if_pos c_6]; rfl) | (rw [tkSecond, if_pos c_1]; rw [c_6]; rfl)) (by intro h; have e9 : (tkSecond Q p0).2 = Q := (by first | rfl | (rw [tkSecond, if_pos c_1, if_pos c_6]; done) | (rw [tkSecond, if_pos c_1, if_pos c_6]; rfl) | (rw [tkSecond, if_pos c_1]; done)); rw [e9]; exact h) dX2_takeSecondDigit_55
    · skip
      refine lv_iload_n hx hb dX2_takeSecondDigit_36 rfl (lv_at hl 3 rfl) ?_
      refine lv_bipush (v := 57) hx hb dX2_takeSecondDigit_37 (by decide) ?_
      refine lv_icmp_gt (tgt := 54) hx hb dX2_takeSecondDigit_39 (by decide) (fun c_7 => ?_) (fun c_7 => ?_)
      · skip
        refine lv_iconst (v := 0) hx hb dX2_takeSecondDigit_54 (by decide) ?_
        have hP : va_P D vwCl [(h0, dC Q)] _ := hP.sub [0] rfl
        exact end_fz hx hb hrt hlk (by decide) hP hS (by first | (rw [tkSecond, if_pos c_1, if_neg c_6, if_pos c_7]; done) | (rw [tkSecond, if_pos c_1, if_neg c_6, if_pos c_7]; rfl) | (rw [tkSecond, if_pos c_1, if_neg c_6]; rw [c_7]; rfl)) (by intro h; have e9 : (tkSecond Q p0).2 = Q := (by first | rfl | (rw [tkSecond, if_pos c_1, if_neg c_6, if_pos c_7]; done) | (rw [tkSecond, if_pos c_1, if_neg c_6, if_pos c_7]; rfl) | (rw [tkSecond, if_pos c_1, if_neg c_6]; done)); rw [e9]; exact h) dX2_takeSecondDigit_55
      · skip
        refine lv_aload_n hx hb dX2_takeSecondDigit_42 rfl (lv_at hl 2 rfl) ?_
        refine va_get (ci := 2) (v := .int (Q 3)) (C := RX2) (T := TX2) (N := 4) hx hb hts inX2 hown hK hP 0 rfl rfl 3 (by decide) (hts _ q_165) (fun _ h9 => h9) rfl dX2_takeSecondDigit_43 ?_
        refine lv_if_eq (tgt := 54) hx hb dX2_takeSecondDigit_46 (by decide) (fun c_8 => ?_) (fun c_8 => ?_)
        · skip
          refine lv_iconst (v := 0) hx hb dX2_takeSecondDigit_54 (by decide) ?_
          have hP : va_P D vwCl [(h0, dC Q)] _ := hP.sub [0] rfl
          exact end_fz hx hb hrt hlk (by decide) hP hS (by first | (rw [tkSecond, if_pos c_1, if_neg c_6, if_neg c_7, if_pos c_8]; done) | (rw [tkSecond, if_pos c_1, if_neg c_6, if_neg c_7, if_pos c_8]; rfl) | (rw [tkSecond, if_pos c_1, if_neg c_6, if_neg c_7]; rw [c_8]; rfl)) (by intro h; have e9 : (tkSecond Q p0).2 = Q := (by first | rfl | (rw [tkSecond, if_pos c_1, if_neg c_6, if_neg c_7, if_pos c_8]; done) | (rw [tkSecond, if_pos c_1, if_neg c_6, if_neg c_7, if_pos c_8]; rfl) | (rw [tkSecond, if_pos c_1, if_neg c_6, if_neg c_7]; done)); rw [e9]; exact h) dX2_takeSecondDigit_55
        · skip
          refine lv_iload_n hx hb dX2_takeSecondDigit_49 rfl (lv_at hl 0 rfl) ?_
          refine lv_iload_n hx hb dX2_takeSecondDigit_50 rfl (lv_at hl 1 rfl) ?_
          refine lv_icmp_le (tgt := 56) hx hb dX2_takeSecondDigit_51 (by decide) (fun c_9 => ?_) (fun c_9 => ?_)
          · skip
            replace c_9 := ge_n c_9
            refine lv_aload_n hx hb dX2_takeSecondDigit_56 rfl (lv_at hl 2 rfl) ?_
            refine lv_iload_n hx hb dX2_takeSecondDigit_57 rfl (lv_at hl 0 rfl) ?_
            refine va_put (ci := 2) (v := .int (((10 * (Q 3)) + p0) - 48)) (ty := tyX2 3) (C := RX2) (T := TX2) (N := 4) hx hb hts inX2 tyX2 tyX2_ok nmX2 hown hK hP hD hS 0 rfl rfl 3 (by decide) (hts _ q_165) (fun _ h9 => h9) rfl (tyX2_ok 3 (by decide)) rfl rfl (Nat.le_of_ble_eq_true rfl) dX2_takeSecondDigit_58 (fun H locs hP hD hS => ?_)
            have hP : va_P D vwCl [(h0, .inr (2, [.int (Q 0), .int (Q 1), .int (Q 2), .int (((10 * (Q 3)) + p0) - 48)]))] H := hP
            have hD : va_D (Aw [(h0, dC Q)]) [(h0, .inr (2, [.int (Q 0), .int (Q 1), .int (Q 2), .int (((10 * (Q 3)) + p0) - 48)]))] := hD
            refine lv_aload_n hx hb dX2_takeSecondDigit_61 rfl (lv_at hl 2 rfl) ?_
            refine lv_iconst (v := 4) hx hb dX2_takeSecondDigit_62 (by decide) ?_
            refine va_put (ci := 2) (v := .int 4) (ty := tyX2 0) (C := RX2) (T := TX2) (N := 4) hx hb hts inX2 tyX2 tyX2_ok nmX2 hown hK hP hD hS 0 rfl rfl 0 (by decide) (hts _ q_160) (fun _ h9 => h9) rfl (tyX2_ok 0 (by decide)) rfl rfl (Nat.le_of_ble_eq_true rfl) dX2_takeSecondDigit_63 (fun H locs hP hD hS => ?_)
            have hP : va_P D vwCl [(h0, .inr (2, [.int 4, .int (Q 1), .int (Q 2), .int (((10 * (Q 3)) + p0) - 48)]))] H := hP
            have hD : va_D (Aw [(h0, dC Q)]) [(h0, .inr (2, [.int 4, .int (Q 1), .int (Q 2), .int (((10 * (Q 3)) + p0) - 48)]))] := hD
            refine lv_iconst (v := 1) hx hb dX2_takeSecondDigit_66 (by decide) ?_
            have hP : va_P D vwCl [(h0, .inr (2, [.int 4, .int (Q 1), .int (Q 2), .int (((10 * (Q 3)) + p0) - 48)]))] _ := hP.sub [0] rfl
            exact end_fz hx hb hrt hlk (by decide) hP hS (by first | (rw [tkSecond, if_pos c_1, if_neg c_6, if_neg c_7, if_neg c_8, if_neg c_9]; done) | (rw [tkSecond, if_pos c_1, if_neg c_6, if_neg c_7, if_neg c_8, if_neg c_9]; rfl) | (rw [tkSecond, if_pos c_1, if_neg c_6, if_neg c_7, if_neg c_8]; rw [c_9]; rfl)) (by intro h; have e9 : (tkSecond Q p0).2 = mkQ 4 (Q 1) (Q 2) (((10 * (Q 3)) + p0) - 48) := (by first | rfl | (rw [tkSecond, if_pos c_1, if_neg c_6, if_neg c_7, if_neg c_8, if_neg c_9]; done) | (rw [tkSecond, if_pos c_1, if_neg c_6, if_neg c_7, if_neg c_8, if_neg c_9]; rfl) | (rw [tkSecond, if_pos c_1, if_neg c_6, if_neg c_7, if_neg c_8]; done)); rw [e9]; exact h) dX2_takeSecondDigit_67
          · skip
            replace c_9 := nge_l c_9
            refine lv_iconst (v := 0) hx hb dX2_takeSecondDigit_54 (by decide) ?_
            have hP : va_P D vwCl [(h0, dC Q)] _ := hP.sub [0] rfl
            exact end_fz hx hb hrt hlk (by decide) hP hS (by first | (rw [tkSecond, if_pos c_1, if_neg c_6, if_neg c_7, if_neg c_8, if_pos c_9]; done) | (rw [tkSecond, if_pos c_1, if_neg c_6, if_neg c_7, if_neg c_8, if_pos c_9]; rfl) | (rw [tkSecond, if_pos c_1, if_neg c_6, if_neg c_7, if_neg c_8]; rw [c_9]; rfl)) (by intro h; have e9 : (tkSecond Q p0).2 = Q := (by first | rfl | (rw [tkSecond, if_pos c_1, if_neg c_6, if_neg c_7, if_neg c_8, if_pos c_9]; done) | (rw [tkSecond, if_pos c_1, if_neg c_6, if_neg c_7, if_neg c_8, if_pos c_9]; rfl) | (rw [tkSecond, if_pos c_1, if_neg c_6, if_neg c_7, if_neg c_8]; done)); rw [e9]; exact h) dX2_takeSecondDigit_55

theorem hd_X2_takeSeparator : yX2_takeSeparator.cls ≠ "java/lang/invoke/MethodHandle" ∧ yX2_takeSeparator.cls ≠ "java/lang/invoke/VarHandle" ∧ (parseMethodDescriptor yX2_takeSeparator.desc).map (fun d => d.parameters.length) = some 1 := by decide +kernel
set_option maxRecDepth 100000 in
set_option maxHeartbeats 4000000 in
theorem m_X2_takeSeparator (l : Launch) (D : va_G) (kA : Nat → Nat) (h0 : Nat) (Q : Nat → Int32) (p0 : Int32) : Met l yX2_takeSeparator (Cond.code yX2_takeSeparator cX2_takeSeparator 2 (some .boolean) :: AW) ({ frames := 0, cells := 0, slots := 0, locals := 0 } : Room) (Pz [.ref h0, .int p0] D (TY kA) [(h0, dC Q)]) (fQ (some (.int (bI (tkSep Q p0).1))) D [(h0, dC Q)] [(h0, dC ((tkSep Q p0).2))]) 0 0 (Aw [(h0, dC Q)]) := by
  refine MetZ (by decide +kernel) (Nat.le_of_ble_eq_true rfl) ?_
  intro p e s m below meth c ls hx hb hrt hts hown hml hlk hnm hP hK hD hS hl
  have hl : lv_has ls 2 [(0, .ref h0), (1, .int p0)] := hl
  refine lv_iload_n hx hb dX2_takeSeparator_0 rfl (lv_at hl 1 rfl) ?_
  refine lv_bipush (v := 59) hx hb dX2_takeSeparator_1 (by decide) ?_
  refine lv_icmp_eq (tgt := 8) hx hb dX2_takeSeparator_3 (by decide) (fun c_1 => ?_) (fun c_1 => ?_)
  · skip
    refine lv_aload_n hx hb dX2_takeSeparator_8 rfl (lv_at hl 0 rfl) ?_
    refine lv_iconst (v := 0) hx hb dX2_takeSeparator_9 (by decide) ?_
    refine va_put (ci := 2) (v := .int 0) (ty := tyX2 0) (C := RX2) (T := TX2) (N := 4) hx hb hts inX2 tyX2 tyX2_ok nmX2 hown hK hP hD hS 0 rfl rfl 0 (by decide) (hts _ q_160) (fun _ h9 => h9) rfl (tyX2_ok 0 (by decide)) rfl rfl (Nat.le_of_ble_eq_true rfl) dX2_takeSeparator_10 (fun H locs hP hD hS => ?_)
    have hP : va_P D vwCl [(h0, .inr (2, [.int 0, .int (Q 1), .int (Q 2), .int (Q 3)]))] H := hP
    have hD : va_D (Aw [(h0, dC Q)]) [(h0, .inr (2, [.int 0, .int (Q 1), .int (Q 2), .int (Q 3)]))] := hD
    refine lv_iconst (v := 1) hx hb dX2_takeSeparator_13 (by decide) ?_
    have hP : va_P D vwCl [(h0, .inr (2, [.int 0, .int (Q 1), .int (Q 2), .int (Q 3)]))] _ := hP.sub [0] rfl
    exact end_fz hx hb hrt hlk (by decide) hP hS (by first | (rw [tkSep, if_pos c_1]; done) | (rw [tkSep, if_pos c_1]; rfl) | (simp only [tkSep, c_1, ↓reduceIte, Bool.false_eq_true, bI]; done)) (by intro h; have e9 : (tkSep Q p0).2 = mkQ 0 (Q 1) (Q 2) (Q 3) := (by first | rfl | (rw [tkSep, if_pos c_1]; done) | (rw [tkSep, if_pos c_1]; rfl) | (rw [tkSep]; done)); rw [e9]; exact h) dX2_takeSeparator_14
  · skip
    refine lv_iconst (v := 0) hx hb dX2_takeSeparator_6 (by decide) ?_
    have hP : va_P D vwCl [(h0, dC Q)] _ := hP.sub [0] rfl
    exact end_fz hx hb hrt hlk (by decide) hP hS (by first | (rw [tkSep, if_neg c_1]; done) | (rw [tkSep, if_neg c_1]; rfl) | (simp only [tkSep, c_1, ↓reduceIte, Bool.false_eq_true, bI]; done)) (by intro h; have e9 : (tkSep Q p0).2 = Q := (by first | rfl | (rw [tkSep, if_neg c_1]; done) | (rw [tkSep, if_neg c_1]; rfl) | (rw [tkSep]; done)); rw [e9]; exact h) dX2_takeSeparator_7

theorem hd_X2_take : yX2_take.cls ≠ "java/lang/invoke/MethodHandle" ∧ yX2_take.cls ≠ "java/lang/invoke/VarHandle" ∧ (parseMethodDescriptor yX2_take.desc).map (fun d => d.parameters.length) = some 1 := by decide +kernel
set_option maxRecDepth 100000 in
set_option maxHeartbeats 4000000 in
theorem m_X2_take (l : Launch) (D : va_G) (kA : Nat → Nat) (h0 : Nat) (Q : Nat → Int32) (p0 : Int32) : Met l yX2_take (Cond.code yX2_take cX2_take 2 (some .boolean) :: AW) ({ frames := 1, cells := 0, slots := 0, locals := 23 } : Room) (Pz [.ref h0, .int p0] D (TY kA) [(h0, dC Q)]) (fQ (some (.int (bI (tk Q p0).1))) D [(h0, dC Q)] [(h0, dC ((tk Q p0).2))]) 0 0 (Aw [(h0, dC Q)]) := by
  refine MetZ (by decide +kernel) (Nat.le_of_ble_eq_true rfl) ?_
  intro p e s m below meth c ls hx hb hrt hts hown hml hlk hnm hP hK hD hS hl
  have hl : lv_has ls 2 [(0, .ref h0), (1, .int p0)] := hl
  refine lv_aload_n hx hb dX2_take_0 rfl (lv_at hl 0 rfl) ?_
  refine va_get (ci := 2) (v := .int (Q 0)) (C := RX2) (T := TX2) (N := 4) hx hb hts inX2 hown hK hP 0 rfl rfl 0 (by decide) (hts _ q_160) (fun _ h9 => h9) rfl dX2_take_1 ?_
  by_cases c_1 : Q 0 = 0
  · skip
    refine lv_tableIn (off := 32) (tgt := 36) hx hb dX2_take_4 (by rw [c_1]; decide) (by rw [c_1]; decide) (by rw [c_1]; decide +kernel) (by decide) ?_
    refine lv_aload_n hx hb dX2_take_36 rfl (lv_at hl 0 rfl) ?_
    refine lv_iload_n hx hb dX2_take_37 rfl (lv_at hl 1 rfl) ?_
    refine cs_fs (runV (As := [.int p0]) (rest := []) ⟨hx, hb, hml, hown, hts⟩ (m_X2_takeLetter l D kA h0 Q p0 ) q_219 q_220 q_221 q_6 q_222 hd_X2_takeLetter ⟨rfl, rfl⟩ ⟨Nat.le_of_ble_eq_true rfl, Nat.le_of_ble_eq_true rfl⟩ hK (ws := [(h0, dC Q)]) (hP.sub [0] rfl) (hD.sub [0] (by decide) rfl) 0 (ci := 2) (C := RX2) (T := TX2) (N := 4) rfl rfl rfl hl.1 rfl (Nat.le_of_ble_eq_true rfl) dX2_take_38 ⟨Nat.zero_le _, Nat.zero_le _⟩) hS (aw_sub hD (isC := [0]) rfl) (fun H locs hP1 hk1 hS => ?_)
    obtain ⟨hP, hD⟩ := jn (wr := []) (w1 := [(h0, dC ((tkLetter Q p0).2))]) hP hD [0] [] rfl rfl (by decide) hk1 hP1 rfl
    have hP : va_P D vwCl [(h0, dC ((tkLetter Q p0).2))] H := hP
    have hD : va_D (Aw [(h0, dC Q)]) [(h0, dC ((tkLetter Q p0).2))] := hD
    have hP : va_P D vwCl [(h0, dC ((tkLetter Q p0).2))] _ := hP.sub [0] rfl
    exact end_fz hx hb hrt hlk (nz_bI _) hP hS (by first | (rw [tk, if_pos c_1]; done) | (rw [tk, if_pos c_1]; rfl) | (simp only [tk, c_1, ↓reduceIte, Bool.false_eq_true, bI]; done)) (by intro h; have e9 : (tk Q p0).2 = ((tkLetter Q p0).2) := (by first | rfl | (rw [tk, if_pos c_1]; done) | (rw [tk, if_pos c_1]; rfl) | (rw [tk]; done)); rw [e9]; exact h) dX2_take_41
  by_cases c_2 : Q 0 = 1
  · skip
    refine lv_tableIn (off := 38) (tgt := 42) hx hb dX2_take_4 (by rw [c_2]; decide) (by rw [c_2]; decide) (by rw [c_2]; decide +kernel) (by decide) ?_
    refine lv_aload_n hx hb dX2_take_42 rfl (lv_at hl 0 rfl) ?_
    refine lv_iload_n hx hb dX2_take_43 rfl (lv_at hl 1 rfl) ?_
    refine cs_fs (runV (As := [.int p0]) (rest := []) ⟨hx, hb, hml, hown, hts⟩ (m_X2_takeKind l D kA h0 Q p0 ) q_223 q_224 q_225 q_6 q_226 hd_X2_takeKind ⟨rfl, rfl⟩ ⟨Nat.le_of_ble_eq_true rfl, Nat.le_of_ble_eq_true rfl⟩ hK (ws := [(h0, dC Q)]) (hP.sub [0] rfl) (hD.sub [0] (by decide) rfl) 0 (ci := 2) (C := RX2) (T := TX2) (N := 4) rfl rfl rfl hl.1 rfl (Nat.le_of_ble_eq_true rfl) dX2_take_44 ⟨Nat.zero_le _, Nat.zero_le _⟩) hS (aw_sub hD (isC := [0]) rfl) (fun H locs hP1 hk1 hS => ?_)
    obtain ⟨hP, hD⟩ := jn (wr := []) (w1 := [(h0, dC ((tkKind Q p0).2))]) hP hD [0] [] rfl rfl (by decide) hk1 hP1 rfl
    have hP : va_P D vwCl [(h0, dC ((tkKind Q p0).2))] H := hP
    have hD : va_D (Aw [(h0, dC Q)]) [(h0, dC ((tkKind Q p0).2))] := hD
    have hP : va_P D vwCl [(h0, dC ((tkKind Q p0).2))] _ := hP.sub [0] rfl
    exact end_fz hx hb hrt hlk (nz_bI _) hP hS (by first | (rw [tk, if_neg c_1, if_pos c_2]; done) | (rw [tk, if_neg c_1, if_pos c_2]; rfl) | (rw [tk, if_neg c_1]; rw [c_2]; rfl)) (by intro h; have e9 : (tk Q p0).2 = ((tkKind Q p0).2) := (by first | rfl | (rw [tk, if_neg c_1, if_pos c_2]; done) | (rw [tk, if_neg c_1, if_pos c_2]; rfl) | (rw [tk, if_neg c_1]; done)); rw [e9]; exact h) dX2_take_47
  by_cases c_3 : Q 0 = 2
  · skip
    refine lv_tableIn (off := 44) (tgt := 48) hx hb dX2_take_4 (by rw [c_3]; decide) (by rw [c_3]; decide) (by rw [c_3]; decide +kernel) (by decide) ?_
    refine lv_aload_n hx hb dX2_take_48 rfl (lv_at hl 0 rfl) ?_
    refine lv_iload_n hx hb dX2_take_49 rfl (lv_at hl 1 rfl) ?_
    refine cs_fs (runV (As := [.int p0]) (rest := []) ⟨hx, hb, hml, hown, hts⟩ (m_X2_takeFirstDigit l D kA h0 Q p0 ) q_227 q_228 q_229 q_6 q_230 hd_X2_takeFirstDigit ⟨rfl, rfl⟩ ⟨Nat.le_of_ble_eq_true rfl, Nat.le_of_ble_eq_true rfl⟩ hK (ws := [(h0, dC Q)]) (hP.sub [0] rfl) (hD.sub [0] (by decide) rfl) 0 (ci := 2) (C := RX2) (T := TX2) (N := 4) rfl rfl rfl hl.1 rfl (Nat.le_of_ble_eq_true rfl) dX2_take_50 ⟨Nat.zero_le _, Nat.zero_le _⟩) hS (aw_sub hD (isC := [0]) rfl) (fun H locs hP1 hk1 hS => ?_)
    obtain ⟨hP, hD⟩ := jn (wr := []) (w1 := [(h0, dC ((tkFirst Q p0).2))]) hP hD [0] [] rfl rfl (by decide) hk1 hP1 rfl
    have hP : va_P D vwCl [(h0, dC ((tkFirst Q p0).2))] H := hP
    have hD : va_D (Aw [(h0, dC Q)]) [(h0, dC ((tkFirst Q p0).2))] := hD
    have hP : va_P D vwCl [(h0, dC ((tkFirst Q p0).2))] _ := hP.sub [0] rfl
    exact end_fz hx hb hrt hlk (nz_bI _) hP hS (by first | (rw [tk, if_neg c_1, if_neg c_2, if_pos c_3]; done) | (rw [tk, if_neg c_1, if_neg c_2, if_pos c_3]; rfl) | (rw [tk, if_neg c_1, if_neg c_2]; rw [c_3]; rfl)) (by intro h; have e9 : (tk Q p0).2 = ((tkFirst Q p0).2) := (by first | rfl | (rw [tk, if_neg c_1, if_neg c_2, if_pos c_3]; done) | (rw [tk, if_neg c_1, if_neg c_2, if_pos c_3]; rfl) | (rw [tk, if_neg c_1, if_neg c_2]; done)); rw [e9]; exact h) dX2_take_53
  by_cases c_4 : Q 0 = 3
  · skip
    refine lv_tableIn (off := 50) (tgt := 54) hx hb dX2_take_4 (by rw [c_4]; decide) (by rw [c_4]; decide) (by rw [c_4]; decide +kernel) (by decide) ?_
    refine lv_aload_n hx hb dX2_take_54 rfl (lv_at hl 0 rfl) ?_
    refine lv_iload_n hx hb dX2_take_55 rfl (lv_at hl 1 rfl) ?_
    refine cs_fs (runV (As := [.int p0]) (rest := []) ⟨hx, hb, hml, hown, hts⟩ (m_X2_takeSecondDigit l D kA h0 Q p0 ) q_231 q_232 q_233 q_6 q_234 hd_X2_takeSecondDigit ⟨rfl, rfl⟩ ⟨Nat.le_of_ble_eq_true rfl, Nat.le_of_ble_eq_true rfl⟩ hK (ws := [(h0, dC Q)]) (hP.sub [0] rfl) (hD.sub [0] (by decide) rfl) 0 (ci := 2) (C := RX2) (T := TX2) (N := 4) rfl rfl rfl hl.1 rfl (Nat.le_of_ble_eq_true rfl) dX2_take_56 ⟨Nat.zero_le _, Nat.zero_le _⟩) hS (aw_sub hD (isC := [0]) rfl) (fun H locs hP1 hk1 hS => ?_)
    obtain ⟨hP, hD⟩ := jn (wr := []) (w1 := [(h0, dC ((tkSecond Q p0).2))]) hP hD [0] [] rfl rfl (by decide) hk1 hP1 rfl
    have hP : va_P D vwCl [(h0, dC ((tkSecond Q p0).2))] H := hP
    have hD : va_D (Aw [(h0, dC Q)]) [(h0, dC ((tkSecond Q p0).2))] := hD
    refine lv_if_ne (tgt := 70) hx hb dX2_take_59 (by decide) (fun c_5 => ?_) (fun c_5 => ?_)
    · skip
      replace c_5 := bI_n0 c_5
      refine lv_iconst (v := 1) hx hb dX2_take_70 (by decide) ?_
      refine lv_goto (tgt := 75) hx hb dX2_take_71 (by decide) ?_
      have hP : va_P D vwCl [(h0, dC ((tkSecond Q p0).2))] _ := hP.sub [0] rfl
      exact end_fz hx hb hrt hlk (by decide) hP hS (by first | (rw [tk, if_neg c_1, if_neg c_2, if_neg c_3, if_pos c_4, if_pos c_5]; done) | (rw [tk, if_neg c_1, if_neg c_2, if_neg c_3, if_pos c_4, if_pos c_5]; rfl) | (rw [tk, if_neg c_1, if_neg c_2, if_neg c_3, if_pos c_4]; rw [c_5]; rfl)) (by intro h; have e9 : (tk Q p0).2 = ((tkSecond Q p0).2) := (by first | rfl | (rw [tk, if_neg c_1, if_neg c_2, if_neg c_3, if_pos c_4, if_pos c_5]; done) | (rw [tk, if_neg c_1, if_neg c_2, if_neg c_3, if_pos c_4, if_pos c_5]; rfl) | (rw [tk, if_neg c_1, if_neg c_2, if_neg c_3, if_pos c_4]; done)); rw [e9]; exact h) dX2_take_75
    · skip
      replace c_5 := bI_0.mp c_5
      refine lv_aload_n hx hb dX2_take_62 rfl (lv_at hl 0 rfl) ?_
      refine lv_iload_n hx hb dX2_take_63 rfl (lv_at hl 1 rfl) ?_
      refine cs_fs (runV (As := [.int p0]) (rest := []) ⟨hx, hb, hml, hown, hts⟩ (m_X2_takeSeparator l D kA h0 ((tkSecond Q p0).2) p0 ) q_235 q_236 q_237 q_6 q_238 hd_X2_takeSeparator ⟨rfl, rfl⟩ ⟨Nat.le_of_ble_eq_true rfl, Nat.le_of_ble_eq_true rfl⟩ hK (ws := [(h0, dC ((tkSecond Q p0).2))]) (hP.sub [0] rfl) (hD.sub [0] (by decide) rfl) 0 (ci := 2) (C := RX2) (T := TX2) (N := 4) rfl rfl rfl hl.1 rfl (Nat.le_of_ble_eq_true rfl) dX2_take_64 ⟨Nat.zero_le _, Nat.zero_le _⟩) hS (aw_sub hD (isC := [0]) rfl) (fun H locs hP1 hk1 hS => ?_)
      obtain ⟨hP, hD⟩ := jn (wr := []) (w1 := [(h0, dC ((tkSep ((tkSecond Q p0).2) p0).2))]) hP hD [0] [] rfl rfl (by decide) hk1 hP1 rfl
      have hP : va_P D vwCl [(h0, dC ((tkSep ((tkSecond Q p0).2) p0).2))] H := hP
      have hD : va_D (Aw [(h0, dC Q)]) [(h0, dC ((tkSep ((tkSecond Q p0).2) p0).2))] := hD
      refine lv_if_eq (tgt := 74) hx hb dX2_take_67 (by decide) (fun c_6 => ?_) (fun c_6 => ?_)
      · skip
        replace c_6 := bI_0.mp c_6
        refine lv_iconst (v := 0) hx hb dX2_take_74 (by decide) ?_
        have hP : va_P D vwCl [(h0, dC ((tkSep ((tkSecond Q p0).2) p0).2))] _ := hP.sub [0] rfl
        exact end_fz hx hb hrt hlk (by decide) hP hS (by first | (rw [tk, if_neg c_1, if_neg c_2, if_neg c_3, if_pos c_4, if_neg (by rw [c_5]; decide), if_neg (by rw [c_6]; decide)]; done) | (rw [tk, if_neg c_1, if_neg c_2, if_neg c_3, if_pos c_4, if_neg (by rw [c_5]; decide), if_neg (by rw [c_6]; decide)]; rfl) | (rw [tk, if_neg c_1, if_neg c_2, if_neg c_3, if_pos c_4, if_neg (by rw [c_5]; decide)]; rw [c_6]; rfl)) (by intro h; have e9 : (tk Q p0).2 = ((tkSep ((tkSecond Q p0).2) p0).2) := (by first | rfl | (rw [tk, if_neg c_1, if_neg c_2, if_neg c_3, if_pos c_4, if_neg (by rw [c_5]; decide), if_neg (by rw [c_6]; decide)]; done) | (rw [tk, if_neg c_1, if_neg c_2, if_neg c_3, if_pos c_4, if_neg (by rw [c_5]; decide), if_neg (by rw [c_6]; decide)]; rfl) | (rw [tk, if_neg c_1, if_neg c_2, if_neg c_3, if_pos c_4, if_neg (by rw [c_5]; decide)]; done)); rw [e9]; exact h) dX2_take_75
      · skip
        replace c_6 := bI_n0 c_6
        refine lv_iconst (v := 1) hx hb dX2_take_70 (by decide) ?_
        refine lv_goto (tgt := 75) hx hb dX2_take_71 (by decide) ?_
        have hP : va_P D vwCl [(h0, dC ((tkSep ((tkSecond Q p0).2) p0).2))] _ := hP.sub [0] rfl
        exact end_fz hx hb hrt hlk (by decide) hP hS (by first | (rw [tk, if_neg c_1, if_neg c_2, if_neg c_3, if_pos c_4, if_neg (by rw [c_5]; decide), if_pos c_6]; done) | (rw [tk, if_neg c_1, if_neg c_2, if_neg c_3, if_pos c_4, if_neg (by rw [c_5]; decide), if_pos c_6]; rfl) | (rw [tk, if_neg c_1, if_neg c_2, if_neg c_3, if_pos c_4, if_neg (by rw [c_5]; decide)]; rw [c_6]; rfl)) (by intro h; have e9 : (tk Q p0).2 = ((tkSep ((tkSecond Q p0).2) p0).2) := (by first | rfl | (rw [tk, if_neg c_1, if_neg c_2, if_neg c_3, if_pos c_4, if_neg (by rw [c_5]; decide), if_pos c_6]; done) | (rw [tk, if_neg c_1, if_neg c_2, if_neg c_3, if_pos c_4, if_neg (by rw [c_5]; decide), if_pos c_6]; rfl) | (rw [tk, if_neg c_1, if_neg c_2, if_neg c_3, if_pos c_4, if_neg (by rw [c_5]; decide)]; done)); rw [e9]; exact h) dX2_take_75
  refine lv_tableOut (tgt := 76) hx hb dX2_take_4 (sw_out 0 3 (by intro k h1 h2; rcases (show k = 0 ∨ k = 1 ∨ k = 2 ∨ k = 3 by omega) with rfl | rfl | rfl | rfl <;> first | exact lv_neT c_1 (by decide) | exact lv_neT c_2 (by decide) | exact lv_neT c_3 (by decide) | exact lv_neT c_4 (by decide))) (by decide) ?_
  refine lv_aload_n hx hb dX2_take_76 rfl (lv_at hl 0 rfl) ?_
  refine lv_iload_n hx hb dX2_take_77 rfl (lv_at hl 1 rfl) ?_
  refine cs_fs (runV (As := [.int p0]) (rest := []) ⟨hx, hb, hml, hown, hts⟩ (m_X2_takeSeparator l D kA h0 Q p0 ) q_235 q_236 q_237 q_6 q_238 hd_X2_takeSeparator ⟨rfl, rfl⟩ ⟨Nat.le_of_ble_eq_true rfl, Nat.le_of_ble_eq_true rfl⟩ hK (ws := [(h0, dC Q)]) (hP.sub [0] rfl) (hD.sub [0] (by decide) rfl) 0 (ci := 2) (C := RX2) (T := TX2) (N := 4) rfl rfl rfl hl.1 rfl (Nat.le_of_ble_eq_true rfl) dX2_take_78 ⟨Nat.zero_le _, Nat.zero_le _⟩) hS (aw_sub hD (isC := [0]) rfl) (fun H locs hP1 hk1 hS => ?_)
  obtain ⟨hP, hD⟩ := jn (wr := []) (w1 := [(h0, dC ((tkSep Q p0).2))]) hP hD [0] [] rfl rfl (by decide) hk1 hP1 rfl
  have hP : va_P D vwCl [(h0, dC ((tkSep Q p0).2))] H := hP
  have hD : va_D (Aw [(h0, dC Q)]) [(h0, dC ((tkSep Q p0).2))] := hD
  have hP : va_P D vwCl [(h0, dC ((tkSep Q p0).2))] _ := hP.sub [0] rfl
  exact end_fz hx hb hrt hlk (nz_bI _) hP hS (by first | (rw [tk, if_neg c_1, if_neg c_2, if_neg c_3, if_neg c_4]; done) | (rw [tk, if_neg c_1, if_neg c_2, if_neg c_3, if_neg c_4]; rfl) | (rw [tk, if_neg c_1, if_neg c_2, if_neg c_3]; rw [c_4]; rfl)) (by intro h; have e9 : (tk Q p0).2 = ((tkSep Q p0).2) := (by first | rfl | (rw [tk, if_neg c_1, if_neg c_2, if_neg c_3, if_neg c_4]; done) | (rw [tk, if_neg c_1, if_neg c_2, if_neg c_3, if_neg c_4]; rfl) | (rw [tk, if_neg c_1, if_neg c_2, if_neg c_3]; done)); rw [e9]; exact h) dX2_take_81
