theorem hd_X3_valueOf : yX3_valueOf.cls ≠ "java/lang/invoke/MethodHandle" ∧ yX3_valueOf.cls ≠ "java/lang/invoke/VarHandle" ∧ (parseMethodDescriptor yX3_valueOf.desc).map (fun d => d.parameters.length) = some 1 := by decide +kernel
set_option maxRecDepth 100000 in
set_option maxHeartbeats 4000000 in
theorem m_X3_valueOf (l : Launch) (D : va_G) (kA : Nat → Nat) (h9 : Nat) (R : Nat → Int32) (p0 : Int32) : Met l yX3_valueOf (Cond.code yX3_valueOf cX3_valueOf 2 (some .int) :: AW) ({ frames := 0, cells := 0, slots := 0, locals := 0 } : Room) (Pz [.ref h9, .int p0] D (TY kA) [(h9, rC R)]) (pQ (some (.int (rvF R p0)))) 0 0 (fun _ => False) := by
  refine MetZ (by decide +kernel) (Nat.le_of_ble_eq_true rfl) ?_
  intro p e s m below meth c ls hx hb hrt hts hown hml hlk hnm hP hK hD hS hl
  have hl : lv_has ls 2 [(0, .ref h9), (1, .int p0)] := hl
  refine lv_iload_n hx hb dX3_valueOf_0 rfl (lv_at hl 1 rfl) ?_
  by_cases c_1 : p0 = 0
  · skip
    refine lv_tableIn (off := 35) (tgt := 36) hx hb dX3_valueOf_1 (by rw [c_1]; decide) (by rw [c_1]; decide) (by rw [c_1]; decide +kernel) (by decide) ?_
    refine lv_aload_n hx hb dX3_valueOf_36 rfl (lv_at hl 0 rfl) ?_
    refine va_get (ci := 3) (v := .int (R 0)) (C := RX3) (T := TX3) (N := 6) hx hb hts inX3 hown hK hP 0 rfl rfl 0 (by decide) (hts _ q_35) (fun _ h9 => h9) rfl dX3_valueOf_37 ?_
    exact end_pi hx hb hrt hlk (by rw [rvF, if_pos c_1]) dX3_valueOf_40
  by_cases c_2 : p0 = 1
  · skip
    refine lv_tableIn (off := 40) (tgt := 41) hx hb dX3_valueOf_1 (by rw [c_2]; decide) (by rw [c_2]; decide) (by rw [c_2]; decide +kernel) (by decide) ?_
    refine lv_aload_n hx hb dX3_valueOf_41 rfl (lv_at hl 0 rfl) ?_
    refine va_get (ci := 3) (v := .int (R 1)) (C := RX3) (T := TX3) (N := 6) hx hb hts inX3 hown hK hP 0 rfl rfl 1 (by decide) (hts _ q_37) (fun _ h9 => h9) rfl dX3_valueOf_42 ?_
    exact end_pi hx hb hrt hlk (by rw [rvF, if_neg c_1, if_pos c_2]) dX3_valueOf_45
  by_cases c_3 : p0 = 2
  · skip
    refine lv_tableIn (off := 45) (tgt := 46) hx hb dX3_valueOf_1 (by rw [c_3]; decide) (by rw [c_3]; decide) (by rw [c_3]; decide +kernel) (by decide) ?_
    refine lv_aload_n hx hb dX3_valueOf_46 rfl (lv_at hl 0 rfl) ?_
    refine va_get (ci := 3) (v := .int (R 2)) (C := RX3) (T := TX3) (N := 6) hx hb hts inX3 hown hK hP 0 rfl rfl 2 (by decide) (hts _ q_39) (fun _ h9 => h9) rfl dX3_valueOf_47 ?_
    exact end_pi hx hb hrt hlk (by rw [rvF, if_neg c_1, if_neg c_2, if_pos c_3]) dX3_valueOf_50
  by_cases c_4 : p0 = 3
  · skip
    refine lv_tableIn (off := 50) (tgt := 51) hx hb dX3_valueOf_1 (by rw [c_4]; decide) (by rw [c_4]; decide) (by rw [c_4]; decide +kernel) (by decide) ?_
    refine lv_aload_n hx hb dX3_valueOf_51 rfl (lv_at hl 0 rfl) ?_
    refine va_get (ci := 3) (v := .int (R 3)) (C := RX3) (T := TX3) (N := 6) hx hb hts inX3 hown hK hP 0 rfl rfl 3 (by decide) (hts _ q_42) (fun _ h9 => h9) rfl dX3_valueOf_52 ?_
    exact end_pi hx hb hrt hlk (by rw [rvF, if_neg c_1, if_neg c_2, if_neg c_3, if_pos c_4]) dX3_valueOf_55
  by_cases c_5 : p0 = 4
  · skip
    refine lv_tableIn (off := 55) (tgt := 56) hx hb dX3_valueOf_1 (by rw [c_5]; decide) (by rw [c_5]; decide) (by rw [c_5]; decide +kernel) (by decide) ?_
    refine lv_aload_n hx hb dX3_valueOf_56 rfl (lv_at hl 0 rfl) ?_
    refine va_get (ci := 3) (v := .int (R 4)) (C := RX3) (T := TX3) (N := 6) hx hb hts inX3 hown hK hP 0 rfl rfl 4 (by decide) (hts _ q_44) (fun _ h9 => h9) rfl dX3_valueOf_57 ?_
    exact end_pi hx hb hrt hlk (by rw [rvF, if_neg c_1, if_neg c_2, if_neg c_3, if_neg c_4, if_pos c_5]) dX3_valueOf_60
  refine lv_tableOut (tgt := 61) hx hb dX3_valueOf_1 (sw_out 0 4 (by intro k h1 h2; rcases (show k = 0 ∨ k = 1 ∨ k = 2 ∨ k = 3 ∨ k = 4 by omega) with rfl | rfl | rfl | rfl | rfl <;> first | exact lv_neT c_1 (by decide) | exact lv_neT c_2 (by decide) | exact lv_neT c_3 (by decide) | exact lv_neT c_4 (by decide) | exact lv_neT c_5 (by decide))) (by decide) ?_
  refine lv_aload_n hx hb dX3_valueOf_61 rfl (lv_at hl 0 rfl) ?_
  refine va_get (ci := 3) (v := .int (R 5)) (C := RX3) (T := TX3) (N := 6) hx hb hts inX3 hown hK hP 0 rfl rfl 5 (by decide) (hts _ q_46) (fun _ h9 => h9) rfl dX3_valueOf_62 ?_
  exact end_pi hx hb hrt hlk (by rw [rvF, if_neg c_1, if_neg c_2, if_neg c_3, if_neg c_4, if_neg c_5]) dX3_valueOf_65

theorem hd_X3_put : yX3_put.cls ≠ "java/lang/invoke/MethodHandle" ∧ yX3_put.cls ≠ "java/lang/invoke/VarHandle" ∧ (parseMethodDescriptor yX3_put.desc).map (fun d => d.parameters.length) = some 2 := by decide +kernel
set_option maxRecDepth 100000 in
set_option maxHeartbeats 4000000 in
theorem m_X3_put (l : Launch) (D : va_G) (kA : Nat → Nat) (h9 : Nat) (R : Nat → Int32) (p0 : Int32) (p1 : Int32) : Met l yX3_put (Cond.code yX3_put cX3_put 3 none :: AW) ({ frames := 0, cells := 0, slots := 0, locals := 0 } : Room) (Pz [.ref h9, .int p0, .int p1] D (TY kA) [(h9, rC R)]) (fQ none D [(h9, rC R)] [(h9, rC (rpF R p0 p1))]) 0 0 (Aw [(h9, rC R)]) := by
  refine MetZ (by decide +kernel) (Nat.le_of_ble_eq_true rfl) ?_
  intro p e s m below meth c ls hx hb hrt hts hown hml hlk hnm hP hK hD hS hl
  have hl : lv_has ls 3 [(0, .ref h9), (1, .int p0), (2, .int p1)] := hl
  refine lv_iload_n hx hb dX3_put_0 rfl (lv_at hl 1 rfl) ?_
  by_cases c_1 : p0 = 0
  · skip
    refine lv_tableIn (off := 35) (tgt := 36) hx hb dX3_put_1 (by rw [c_1]; decide) (by rw [c_1]; decide) (by rw [c_1]; decide +kernel) (by decide) ?_
    refine lv_aload_n hx hb dX3_put_36 rfl (lv_at hl 0 rfl) ?_
    refine lv_iload_n hx hb dX3_put_37 rfl (lv_at hl 2 rfl) ?_
    refine va_put (ci := 3) (v := .int p1) (ty := tyX3 0) (C := RX3) (T := TX3) (N := 6) hx hb hts inX3 tyX3 tyX3_ok nmX3 hown hK hP hD hS 0 rfl rfl 0 (by decide) (hts _ q_35) (fun _ h9 => h9) rfl (tyX3_ok 0 (by decide)) rfl rfl (Nat.le_of_ble_eq_true rfl) dX3_put_38 (fun H locs hP hD hS => ?_)
    have hP : va_P D vwCl [(h9, .inr (3, [.int p1, .int (R 1), .int (R 2), .int (R 3), .int (R 4), .int (R 5)]))] H := hP
    have hD : va_D (Aw [(h9, rC R)]) [(h9, .inr (3, [.int p1, .int (R 1), .int (R 2), .int (R 3), .int (R 4), .int (R 5)]))] := hD
    refine lv_goto (tgt := 81) hx hb dX3_put_41 (by decide) ?_
    have hP : va_P D vwCl [(h9, .inr (3, [.int p1, .int (R 1), .int (R 2), .int (R 3), .int (R 4), .int (R 5)]))] _ := hP.sub [0] rfl
    exact end_fv hx hb hrt hlk hP hS (by intro h; rw [rpF, if_pos c_1]; exact h) dX3_put_81
  by_cases c_2 : p0 = 1
  · skip
    refine lv_tableIn (off := 43) (tgt := 44) hx hb dX3_put_1 (by rw [c_2]; decide) (by rw [c_2]; decide) (by rw [c_2]; decide +kernel) (by decide) ?_
    refine lv_aload_n hx hb dX3_put_44 rfl (lv_at hl 0 rfl) ?_
    refine lv_iload_n hx hb dX3_put_45 rfl (lv_at hl 2 rfl) ?_
    refine va_put (ci := 3) (v := .int p1) (ty := tyX3 1) (C := RX3) (T := TX3) (N := 6) hx hb hts inX3 tyX3 tyX3_ok nmX3 hown hK hP hD hS 0 rfl rfl 1 (by decide) (hts _ q_37) (fun _ h9 => h9) rfl (tyX3_ok 1 (by decide)) rfl rfl (Nat.le_of_ble_eq_true rfl) dX3_put_46 (fun H locs hP hD hS => ?_)
    have hP : va_P D vwCl [(h9, .inr (3, [.int (R 0), .int p1, .int (R 2), .int (R 3), .int (R 4), .int (R 5)]))] H := hP
    have hD : va_D (Aw [(h9, rC R)]) [(h9, .inr (3, [.int (R 0), .int p1, .int (R 2), .int (R 3), .int (R 4), .int (R 5)]))] := hD
    refine lv_goto (tgt := 81) hx hb dX3_put_49 (by decide) ?_
    have hP : va_P D vwCl [(h9, .inr (3, [.int (R 0), .int p1, .int (R 2), .int (R 3), .int (R 4), .int (R 5)]))] _ := hP.sub [0] rfl
    exact end_fv hx hb hrt hlk hP hS (by intro h; rw [rpF, if_neg c_1, if_pos c_2]; exact h) dX3_put_81
  by_cases c_3 : p0 = 2
  · skip
    refine lv_tableIn (off := 51) (tgt := 52) hx hb dX3_put_1 (by rw [c_3]; decide) (by rw [c_3]; decide) (by rw [c_3]; decide +kernel) (by decide) ?_
    refine lv_aload_n hx hb dX3_put_52 rfl (lv_at hl 0 rfl) ?_
    refine lv_iload_n hx hb dX3_put_53 rfl (lv_at hl 2 rfl) ?_
    refine va_put (ci := 3) (v := .int p1) (ty := tyX3 2) (C := RX3) (T := TX3) (N := 6) hx hb hts inX3 tyX3 tyX3_ok nmX3 hown hK hP hD hS 0 rfl rfl 2 (by decide) (hts _ q_39) (fun _ h9 => h9) rfl (tyX3_ok 2 (by decide)) rfl rfl (Nat.le_of_ble_eq_true rfl) dX3_put_54 (fun H locs hP hD hS => ?_)
    have hP : va_P D vwCl [(h9, .inr (3, [.int (R 0), .int (R 1), .int p1, .int (R 3), .int (R 4), .int (R 5)]))] H := hP
    have hD : va_D (Aw [(h9, rC R)]) [(h9, .inr (3, [.int (R 0), .int (R 1), .int p1, .int (R 3), .int (R 4), .int (R 5)]))] := hD
    refine lv_goto (tgt := 81) hx hb dX3_put_57 (by decide) ?_
    have hP : va_P D vwCl [(h9, .inr (3, [.int (R 0), .int (R 1), .int p1, .int (R 3), .int (R 4), .int (R 5)]))] _ := hP.sub [0] rfl
    exact end_fv hx hb hrt hlk hP hS (by intro h; rw [rpF, if_neg c_1, if_neg c_2, if_pos c_3]; exact h) dX3_put_81
  by_cases c_4 : p0 = 3
  · skip
    refine lv_tableIn (off := 59) (tgt := 60) hx hb dX3_put_1 (by rw [c_4]; decide) (by rw [c_4]; decide) (by rw [c_4]; decide +kernel) (by decide) ?_
    refine lv_aload_n hx hb dX3_put_60 rfl (lv_at hl 0 rfl) ?_
    refine lv_iload_n hx hb dX3_put_61 rfl (lv_at hl 2 rfl) ?_
    refine va_put (ci := 3) (v := .int p1) (ty := tyX3 3) (C := RX3) (T := TX3) (N := 6) hx hb hts inX3 tyX3 tyX3_ok nmX3 hown hK hP hD hS 0 rfl rfl 3 (by decide) (hts _ q_42) (fun _ h9 => h9) rfl (tyX3_ok 3 (by decide)) rfl rfl (Nat.le_of_ble_eq_true rfl) dX3_put_62 (fun H locs hP hD hS => ?_)
    have hP : va_P D vwCl [(h9, .inr (3, [.int (R 0), .int (R 1), .int (R 2), .int p1, .int (R 4), .int (R 5)]))] H := hP
    have hD : va_D (Aw [(h9, rC R)]) [(h9, .inr (3, [.int (R 0), .int (R 1), .int (R 2), .int p1, .int (R 4), .int (R 5)]))] := hD
    refine lv_goto (tgt := 81) hx hb dX3_put_65 (by decide) ?_
    have hP : va_P D vwCl [(h9, .inr (3, [.int (R 0), .int (R 1), .int (R 2), .int p1, .int (R 4), .int (R 5)]))] _ := hP.sub [0] rfl
    exact end_fv hx hb hrt hlk hP hS (by intro h; rw [rpF, if_neg c_1, if_neg c_2, if_neg c_3, if_pos c_4]; exact h) dX3_put_81
  by_cases c_5 : p0 = 4
  · skip
    refine lv_tableIn (off := 67) (tgt := 68) hx hb dX3_put_1 (by rw [c_5]; decide) (by rw [c_5]; decide) (by rw [c_5]; decide +kernel) (by decide) ?_
    refine lv_aload_n hx hb dX3_put_68 rfl (lv_at hl 0 rfl) ?_
    refine lv_iload_n hx hb dX3_put_69 rfl (lv_at hl 2 rfl) ?_
    refine va_put (ci := 3) (v := .int p1) (ty := tyX3 4) (C := RX3) (T := TX3) (N := 6) hx hb hts inX3 tyX3 tyX3_ok nmX3 hown hK hP hD hS 0 rfl rfl 4 (by decide) (hts _ q_44) (fun _ h9 => h9) rfl (tyX3_ok 4 (by decide)) rfl rfl (Nat.le_of_ble_eq_true rfl) dX3_put_70 (fun H locs hP hD hS => ?_)
    have hP : va_P D vwCl [(h9, .inr (3, [.int (R 0), .int (R 1), .int (R 2), .int (R 3), .int p1, .int (R 5)]))] H := hP
    have hD : va_D (Aw [(h9, rC R)]) [(h9, .inr (3, [.int (R 0), .int (R 1), .int (R 2), .int (R 3), .int p1, .int (R 5)]))] := hD
    refine lv_goto (tgt := 81) hx hb dX3_put_73 (by decide) ?_
    have hP : va_P D vwCl [(h9, .inr (3, [.int (R 0), .int (R 1), .int (R 2), .int (R 3), .int p1, .int (R 5)]))] _ := hP.sub [0] rfl
    exact end_fv hx hb hrt hlk hP hS (by intro h; rw [rpF, if_neg c_1, if_neg c_2, if_neg c_3, if_neg c_4, if_pos c_5]; exact h) dX3_put_81
  refine lv_tableOut (tgt := 76) hx hb dX3_put_1 (sw_out 0 4 (by intro k h1 h2; rcases (show k = 0 ∨ k = 1 ∨ k = 2 ∨ k = 3 ∨ k = 4 by omega) with rfl | rfl | rfl | rfl | rfl <;> first | exact lv_neT c_1 (by decide) | exact lv_neT c_2 (by decide) | exact lv_neT c_3 (by decide) | exact lv_neT c_4 (by decide) | exact lv_neT c_5 (by decide))) (by decide) ?_
  refine lv_aload_n hx hb dX3_put_76 rfl (lv_at hl 0 rfl) ?_
  refine lv_iload_n hx hb dX3_put_77 rfl (lv_at hl 2 rfl) ?_
  refine va_put (ci := 3) (v := .int p1) (ty := tyX3 5) (C := RX3) (T := TX3) (N := 6) hx hb hts inX3 tyX3 tyX3_ok nmX3 hown hK hP hD hS 0 rfl rfl 5 (by decide) (hts _ q_46) (fun _ h9 => h9) rfl (tyX3_ok 5 (by decide)) rfl rfl (Nat.le_of_ble_eq_true rfl) dX3_put_78 (fun H locs hP hD hS => ?_)
  have hP : va_P D vwCl [(h9, .inr (3, [.int (R 0), .int (R 1), .int (R 2), .int (R 3), .int (R 4), .int p1]))] H := hP
  have hD : va_D (Aw [(h9, rC R)]) [(h9, .inr (3, [.int (R 0), .int (R 1), .int (R 2), .int (R 3), .int (R 4), .int p1]))] := hD
  have hP : va_P D vwCl [(h9, .inr (3, [.int (R 0), .int (R 1), .int (R 2), .int (R 3), .int (R 4), .int p1]))] _ := hP.sub [0] rfl
  exact end_fv hx hb hrt hlk hP hS (by intro h; rw [rpF, if_neg c_1, if_neg c_2, if_neg c_3, if_neg c_4, if_neg c_5]; exact h) dX3_put_81

theorem hd_X3_copyFrom : yX3_copyFrom.cls ≠ "java/lang/invoke/MethodHandle" ∧ yX3_copyFrom.cls ≠ "java/lang/invoke/VarHandle" ∧ (parseMethodDescriptor yX3_copyFrom.desc).map (fun d => d.parameters.length) = some 1 := by decide +kernel
set_option maxRecDepth 100000 in
set_option maxHeartbeats 4000000 in
theorem m_X3_copyFrom (l : Launch) (D : va_G) (kA : Nat → Nat) (h9 : Nat) (R : Nat → Int32) (h8 : Nat) (R1 : Nat → Int32) : Met l yX3_copyFrom (Cond.code yX3_copyFrom cX3_copyFrom 2 none :: AW) ({ frames := 0, cells := 0, slots := 0, locals := 0 } : Room) (Pz [.ref h9, .ref h8] D (TY kA) [(h9, rC R), (h8, rC R1)]) (fQ none D [(h9, rC R), (h8, rC R1)] [(h9, rC R1), (h8, rC R1)]) 0 0 (Aw [(h9, rC R), (h8, rC R1)]) := by
  refine MetZ (by decide +kernel) (Nat.le_of_ble_eq_true rfl) ?_
  intro p e s m below meth c ls hx hb hrt hts hown hml hlk hnm hP hK hD hS hl
  have hl : lv_has ls 2 [(0, .ref h9), (1, .ref h8)] := hl
  refine lv_aload_n hx hb dX3_copyFrom_0 rfl (lv_at hl 0 rfl) ?_
  refine lv_aload_n hx hb dX3_copyFrom_1 rfl (lv_at hl 1 rfl) ?_
  refine va_get (ci := 3) (v := .int (R1 0)) (C := RX3) (T := TX3) (N := 6) hx hb hts inX3 hown hK hP 1 rfl rfl 0 (by decide) (hts _ q_35) (fun _ h9 => h9) rfl dX3_copyFrom_2 ?_
  refine va_put (ci := 3) (v := .int (R1 0)) (ty := tyX3 0) (C := RX3) (T := TX3) (N := 6) hx hb hts inX3 tyX3 tyX3_ok nmX3 hown hK hP hD hS 0 rfl rfl 0 (by decide) (hts _ q_35) (fun _ h9 => h9) rfl (tyX3_ok 0 (by decide)) rfl rfl (Nat.le_of_ble_eq_true rfl) dX3_copyFrom_5 (fun H locs hP hD hS => ?_)
  have hP : va_P D vwCl [(h9, .inr (3, [.int (R1 0), .int (R 1), .int (R 2), .int (R 3), .int (R 4), .int (R 5)])), (h8, rC R1)] H := hP
  have hD : va_D (Aw [(h9, rC R), (h8, rC R1)]) [(h9, .inr (3, [.int (R1 0), .int (R 1), .int (R 2), .int (R 3), .int (R 4), .int (R 5)])), (h8, rC R1)] := hD
  refine lv_aload_n hx hb dX3_copyFrom_8 rfl (lv_at hl 0 rfl) ?_
  refine lv_aload_n hx hb dX3_copyFrom_9 rfl (lv_at hl 1 rfl) ?_
  refine va_get (ci := 3) (v := .int (R1 1)) (C := RX3) (T := TX3) (N := 6) hx hb hts inX3 hown hK hP 1 rfl rfl 1 (by decide) (hts _ q_37) (fun _ h9 => h9) rfl dX3_copyFrom_10 ?_
  refine va_put (ci := 3) (v := .int (R1 1)) (ty := tyX3 1) (C := RX3) (T := TX3) (N := 6) hx hb hts inX3 tyX3 tyX3_ok nmX3 hown hK hP hD hS 0 rfl rfl 1 (by decide) (hts _ q_37) (fun _ h9 => h9) rfl (tyX3_ok 1 (by decide)) rfl rfl (Nat.le_of_ble_eq_true rfl) dX3_copyFrom_13 (fun H locs hP hD hS => ?_)
  have hP : va_P D vwCl [(h9, .inr (3, [.int (R1 0), .int (R1 1), .int (R 2), .int (R 3), .int (R 4), .int (R 5)])), (h8, rC R1)] H := hP
  have hD : va_D (Aw [(h9, rC R), (h8, rC R1)]) [(h9, .inr (3, [.int (R1 0), .int (R1 1), .int (R 2), .int (R 3), .int (R 4), .int (R 5)])), (h8, rC R1)] := hD
  refine lv_aload_n hx hb dX3_copyFrom_16 rfl (lv_at hl 0 rfl) ?_
  refine lv_aload_n hx hb dX3_copyFrom_17 rfl (lv_at hl 1 rfl) ?_
  refine va_get (ci := 3) (v := .int (R1 2)) (C := RX3) (T := TX3) (N := 6) hx hb hts inX3 hown hK hP 1 rfl rfl 2 (by decide) (hts _ q_39) (fun _ h9 => h9) rfl dX3_copyFrom_18 ?_
  refine va_put (ci := 3) (v := .int (R1 2)) (ty := tyX3 2) (C := RX3) (T := TX3) (N := 6) hx hb hts inX3 tyX3 tyX3_ok nmX3 hown hK hP hD hS 0 rfl rfl 2 (by decide) (hts _ q_39) (fun _ h9 => h9) rfl (tyX3_ok 2 (by decide)) rfl rfl (Nat.le_of_ble_eq_true rfl) dX3_copyFrom_21 (fun H locs hP hD hS => ?_)
  have hP : va_P D vwCl [(h9, .inr (3, [.int (R1 0), .int (R1 1), .int (R1 2), .int (R 3), .int (R 4), .int (R 5)])), (h8, rC R1)] H := hP
  have hD : va_D (Aw [(h9, rC R), (h8, rC R1)]) [(h9, .inr (3, [.int (R1 0), .int (R1 1), .int (R1 2), .int (R 3), .int (R 4), .int (R 5)])), (h8, rC R1)] := hD
  refine lv_aload_n hx hb dX3_copyFrom_24 rfl (lv_at hl 0 rfl) ?_
  refine lv_aload_n hx hb dX3_copyFrom_25 rfl (lv_at hl 1 rfl) ?_
  refine va_get (ci := 3) (v := .int (R1 3)) (C := RX3) (T := TX3) (N := 6) hx hb hts inX3 hown hK hP 1 rfl rfl 3 (by decide) (hts _ q_42) (fun _ h9 => h9) rfl dX3_copyFrom_26 ?_
  refine va_put (ci := 3) (v := .int (R1 3)) (ty := tyX3 3) (C := RX3) (T := TX3) (N := 6) hx hb hts inX3 tyX3 tyX3_ok nmX3 hown hK hP hD hS 0 rfl rfl 3 (by decide) (hts _ q_42) (fun _ h9 => h9) rfl (tyX3_ok 3 (by decide)) rfl rfl (Nat.le_of_ble_eq_true rfl) dX3_copyFrom_29 (fun H locs hP hD hS => ?_)
  have hP : va_P D vwCl [(h9, .inr (3, [.int (R1 0), .int (R1 1), .int (R1 2), .int (R1 3), .int (R 4), .int (R 5)])), (h8, rC R1)] H := hP
  have hD : va_D (Aw [(h9, rC R), (h8, rC R1)]) [(h9, .inr (3, [.int (R1 0), .int (R1 1), .int (R1 2), .int (R1 3), .int (R 4), .int (R 5)])), (h8, rC R1)] := hD
  refine lv_aload_n hx hb dX3_copyFrom_32 rfl (lv_at hl 0 rfl) ?_
  refine lv_aload_n hx hb dX3_copyFrom_33 rfl (lv_at hl 1 rfl) ?_
  refine va_get (ci := 3) (v := .int (R1 4)) (C := RX3) (T := TX3) (N := 6) hx hb hts inX3 hown hK hP 1 rfl rfl 4 (by decide) (hts _ q_44) (fun _ h9 => h9) rfl dX3_copyFrom_34 ?_
  refine va_put (ci := 3) (v := .int (R1 4)) (ty := tyX3 4) (C := RX3) (T := TX3) (N := 6) hx hb hts inX3 tyX3 tyX3_ok nmX3 hown hK hP hD hS 0 rfl rfl 4 (by decide) (hts _ q_44) (fun _ h9 => h9) rfl (tyX3_ok 4 (by decide)) rfl rfl (Nat.le_of_ble_eq_true rfl) dX3_copyFrom_37 (fun H locs hP hD hS => ?_)
  have hP : va_P D vwCl [(h9, .inr (3, [.int (R1 0), .int (R1 1), .int (R1 2), .int (R1 3), .int (R1 4), .int (R 5)])), (h8, rC R1)] H := hP
  have hD : va_D (Aw [(h9, rC R), (h8, rC R1)]) [(h9, .inr (3, [.int (R1 0), .int (R1 1), .int (R1 2), .int (R1 3), .int (R1 4), .int (R 5)])), (h8, rC R1)] := hD
  refine lv_aload_n hx hb dX3_copyFrom_40 rfl (lv_at hl 0 rfl) ?_
  refine lv_aload_n hx hb dX3_copyFrom_41 rfl (lv_at hl 1 rfl) ?_
  refine va_get (ci := 3) (v := .int (R1 5)) (C := RX3) (T := TX3) (N := 6) hx hb hts inX3 hown hK hP 1 rfl rfl 5 (by decide) (hts _ q_46) (fun _ h9 => h9) rfl dX3_copyFrom_42 ?_
  refine va_put (ci := 3) (v := .int (R1 5)) (ty := tyX3 5) (C := RX3) (T := TX3) (N := 6) hx hb hts inX3 tyX3 tyX3_ok nmX3 hown hK hP hD hS 0 rfl rfl 5 (by decide) (hts _ q_46) (fun _ h9 => h9) rfl (tyX3_ok 5 (by decide)) rfl rfl (Nat.le_of_ble_eq_true rfl) dX3_copyFrom_45 (fun H locs hP hD hS => ?_)
  have hP : va_P D vwCl [(h9, .inr (3, [.int (R1 0), .int (R1 1), .int (R1 2), .int (R1 3), .int (R1 4), .int (R1 5)])), (h8, rC R1)] H := hP
  have hD : va_D (Aw [(h9, rC R), (h8, rC R1)]) [(h9, .inr (3, [.int (R1 0), .int (R1 1), .int (R1 2), .int (R1 3), .int (R1 4), .int (R1 5)])), (h8, rC R1)] := hD
  have hP : va_P D vwCl [(h9, .inr (3, [.int (R1 0), .int (R1 1), .int (R1 2), .int (R1 3), .int (R1 4), .int (R1 5)])), (h8, rC R1)] _ := hP.sub [0, 1] rfl
  exact end_fv hx hb hrt hlk hP hS (fun h => h) dX3_copyFrom_48

