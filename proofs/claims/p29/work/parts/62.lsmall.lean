theorem hd_L_at : yL_at.cls ≠ "java/lang/invoke/MethodHandle" ∧ yL_at.cls ≠ "java/lang/invoke/VarHandle" ∧ (parseMethodDescriptor yL_at.desc).map (fun d => d.parameters.length) = some 2 := by decide +kernel
set_option maxRecDepth 100000 in
set_option maxHeartbeats 4000000 in
theorem m_L_at (l : Launch) (D : va_G) (kA : Nat → Nat) (p0 : Int32) (p1 : Int32) (hn : ¬ p1 = 0) : Met l yL_at (Cond.code yL_at cL_at 2 (some .int) :: AW) ({ frames := 0, cells := 0, slots := 0, locals := 0 } : Room) (Pz [.int p0, .int p1] D (TY kA) []) (pQ (some (.int (atF p0 p1)))) 0 0 (fun _ => False) := by
  refine MetZ (by decide +kernel) (Nat.le_of_ble_eq_true rfl) ?_
  intro p e s m below meth c ls hx hb hrt hts hown hml hlk hnm hP hK hD hS hl
  have hl : lv_has ls 2 [(0, .int p0), (1, .int p1)] := hl
  refine lv_iload_n hx hb dL_at_0 rfl (lv_at hl 0 rfl) ?_
  refine lv_iconst (v := 1) hx hb dL_at_1 (by decide) ?_
  refine lv_iushr (v := (p0.toUInt32 >>> 1).toInt32) hx hb dL_at_2 (by rw [show ((1 : Int32).toUInt32 &&& Int32.toUInt32 31) = 1 from by decide]) ?_
  refine lv_iload_n hx hb dL_at_3 rfl (lv_at hl 1 rfl) ?_
  refine lv_irem hx hb dL_at_4 (hn) ?_
  exact end_pi hx hb hrt hlk (rfl) dL_at_5

theorem hd_L_tooth : yL_tooth.cls ≠ "java/lang/invoke/MethodHandle" ∧ yL_tooth.cls ≠ "java/lang/invoke/VarHandle" ∧ (parseMethodDescriptor yL_tooth.desc).map (fun d => d.parameters.length) = some 2 := by decide +kernel
set_option maxRecDepth 100000 in
set_option maxHeartbeats 4000000 in
theorem m_L_tooth (l : Launch) (D : va_G) (kA : Nat → Nat) (p0 : Int32) (q : Nat) (up : Bool) (hq : p0 = nI q) (hq24 : q < 24) : Met l yL_tooth (Cond.code yL_tooth cL_tooth 2 (some .int) :: AW) ({ frames := 0, cells := 0, slots := 0, locals := 0 } : Room) (Pz [.int p0, .int (wI up)] D (TY kA) []) (pQ (some (.int (tW p0 (wI up))))) 0 0 (fun _ => False) := by
  refine MetZ (by decide +kernel) (Nat.le_of_ble_eq_true rfl) ?_
  intro p e s m below meth c ls hx hb hrt hts hown hml hlk hnm hP hK hD hS hl
  have hl : lv_has ls 2 [(0, .int p0), (1, .int (wI up))] := hl
  refine lv_iload_n hx hb dL_tooth_0 rfl (lv_at hl 1 rfl) ?_
  refine lv_if_le (tgt := 8) hx hb dL_tooth_1 (by decide) (fun c_1 => ?_) (fun c_1 => ?_)
  · skip
    replace c_1 := ge_n c_1
    refine lv_iload_n hx hb dL_tooth_8 rfl (lv_at hl 0 rfl) ?_
    refine lv_if_ne (tgt := 17) hx hb dL_tooth_9 (by decide) (fun c_2 => ?_) (fun c_2 => ?_)
    · skip
      refine lv_iload_n hx hb dL_tooth_17 rfl (lv_at hl 0 rfl) ?_
      refine lv_iconst (v := 1) hx hb dL_tooth_18 (by decide) ?_
      refine lv_isub hx hb dL_tooth_19 ?_
      exact end_pi hx hb hrt hlk (tw_1 c_1 hq hq24 c_2) dL_tooth_20
    · skip
      refine lv_bipush (v := 23) hx hb dL_tooth_12 (by decide) ?_
      refine lv_goto (tgt := 20) hx hb dL_tooth_14 (by decide) ?_
      exact end_pi hx hb hrt hlk (tw_0 c_1 c_2) dL_tooth_20
  · skip
    replace c_1 := nge_l c_1
    refine lv_iload_n hx hb dL_tooth_4 rfl (lv_at hl 0 rfl) ?_
    refine lv_goto (tgt := 20) hx hb dL_tooth_5 (by decide) ?_
    exact end_pi hx hb hrt hlk (tw_t c_1) dL_tooth_20

theorem hd_L_go : yL_go.cls ≠ "java/lang/invoke/MethodHandle" ∧ yL_go.cls ≠ "java/lang/invoke/VarHandle" ∧ (parseMethodDescriptor yL_go.desc).map (fun d => d.parameters.length) = some 2 := by decide +kernel
set_option maxRecDepth 100000 in
set_option maxHeartbeats 4000000 in
theorem m_L_go (l : Launch) (D : va_G) (kA : Nat → Nat) (p0 : Int32) (q : Nat) (up : Bool) (hq : p0 = nI q) (hq24 : q < 24) : Met l yL_go (Cond.code yL_go cL_go 2 (some .int) :: AW) ({ frames := 0, cells := 0, slots := 0, locals := 0 } : Room) (Pz [.int p0, .int (wI up)] D (TY kA) []) (pQ (some (.int (nW p0 (wI up))))) 0 0 (fun _ => False) := by
  refine MetZ (by decide +kernel) (Nat.le_of_ble_eq_true rfl) ?_
  intro p e s m below meth c ls hx hb hrt hts hown hml hlk hnm hP hK hD hS hl
  have hl : lv_has ls 2 [(0, .int p0), (1, .int (wI up))] := hl
  refine lv_iload_n hx hb dL_go_0 rfl (lv_at hl 1 rfl) ?_
  refine lv_if_le (tgt := 20) hx hb dL_go_1 (by decide) (fun c_1 => ?_) (fun c_1 => ?_)
  · skip
    replace c_1 := ge_n c_1
    refine lv_iload_n hx hb dL_go_20 rfl (lv_at hl 0 rfl) ?_
    refine lv_if_ne (tgt := 29) hx hb dL_go_21 (by decide) (fun c_2 => ?_) (fun c_2 => ?_)
    · skip
      refine lv_iload_n hx hb dL_go_29 rfl (lv_at hl 0 rfl) ?_
      refine lv_iconst (v := 1) hx hb dL_go_30 (by decide) ?_
      refine lv_isub hx hb dL_go_31 ?_
      exact end_pi hx hb hrt hlk (nw_f1 c_1 hq hq24 c_2) dL_go_32
    · skip
      refine lv_bipush (v := 23) hx hb dL_go_24 (by decide) ?_
      refine lv_goto (tgt := 32) hx hb dL_go_26 (by decide) ?_
      exact end_pi hx hb hrt hlk (nw_f0 c_1 c_2) dL_go_32
  · skip
    replace c_1 := nge_l c_1
    refine lv_iload_n hx hb dL_go_4 rfl (lv_at hl 0 rfl) ?_
    refine lv_bipush (v := 23) hx hb dL_go_5 (by decide) ?_
    refine lv_icmp_ne (tgt := 14) hx hb dL_go_7 (by decide) (fun c_3 => ?_) (fun c_3 => ?_)
    · skip
      refine lv_iload_n hx hb dL_go_14 rfl (lv_at hl 0 rfl) ?_
      refine lv_iconst (v := 1) hx hb dL_go_15 (by decide) ?_
      refine lv_iadd hx hb dL_go_16 ?_
      refine lv_goto (tgt := 32) hx hb dL_go_17 (by decide) ?_
      exact end_pi hx hb hrt hlk (nw_t1 c_1 hq hq24 c_3) dL_go_32
    · skip
      refine lv_iconst (v := 0) hx hb dL_go_10 (by decide) ?_
      refine lv_goto (tgt := 32) hx hb dL_go_11 (by decide) ?_
      exact end_pi hx hb hrt hlk (nw_t0 c_1 c_3) dL_go_32

theorem hd_L_wear : yL_wear.cls ≠ "java/lang/invoke/MethodHandle" ∧ yL_wear.cls ≠ "java/lang/invoke/VarHandle" ∧ (parseMethodDescriptor yL_wear.desc).map (fun d => d.parameters.length) = some 4 := by decide +kernel
set_option maxRecDepth 100000 in
set_option maxHeartbeats 4000000 in
theorem m_L_wear (l : Launch) (D : va_G) (kA : Nat → Nat) (al : Nat → Nat) (z : Nat → Int32) (k : Int32) (a : Nat) (t : Nat) (ha : a < 4) (ht : t < 24) : Met l yL_wear (Cond.code yL_wear cL_wear 4 (some .int) :: AW) ({ frames := 0, cells := 0, slots := 0, locals := 0 } : Room) (Pz [.ref (al 8), .ref (al 9), .int (nI a), .int (nI t)] D (TY kA) (lqW kA al z k)) (pQ (some (.int (gwr (sl z a) (nI t))))) 0 0 (fun _ => False) := by
  refine MetZ (by decide +kernel) (Nat.le_of_ble_eq_true rfl) ?_
  intro p e s m below meth c ls hx hb hrt hts hown hml hlk hnm hP hK hD hS hl
  have hl : lv_has ls 4 [(0, .ref (al 8)), (1, .ref (al 9)), (2, .int (nI a)), (3, .int (nI t))] := hl
  refine lv_iload_n hx hb dL_wear_0 rfl (lv_at hl 3 rfl) ?_
  refine lv_bipush (v := 12) hx hb dL_wear_1 (by decide) ?_
  refine lv_icmp_ge (tgt := 17) hx hb dL_wear_3 (by decide) (fun c_1 => ?_) (fun c_1 => ?_)
  · skip
    replace c_1 := ge_n c_1
    have h12 := t12n ht c_1
    refine lv_aload_n hx hb dL_wear_17 rfl (lv_at hl 1 rfl) ?_
    refine lv_bipush (v := 12) hx hb dL_wear_18 (by decide) ?_
    refine lv_iload_n hx hb dL_wear_20 rfl (lv_at hl 2 rfl) ?_
    refine lv_imul hx hb dL_wear_21 ?_
    refine lv_iload_n hx hb dL_wear_22 rfl (lv_at hl 3 rfl) ?_
    refine lv_iadd hx hb dL_wear_23 ?_
    refine lv_bipush (v := 12) hx hb dL_wear_24 (by decide) ?_
    refine lv_isub hx hb dL_wear_26 ?_
    refine va_iald (f := lqT z 23) hx hb hK hP 9 0 lw_9 rfl (in_nI (tx_hi (by omega)) (by omega) (by decide)) dL_wear_27 ?_
    refine W_top (v' := .int (sl z a (23 + (t - 12)))) (congrArg Value.int (vT (tx_hi (by omega)) (by omega) (by omega))) ?_
    exact end_pi hx hb hrt hlk (wr_hi ht h12) dL_wear_28
  · skip
    replace c_1 := nge_l c_1
    have h12 := t12 ht c_1
    refine lv_aload_n hx hb dL_wear_6 rfl (lv_at hl 0 rfl) ?_
    refine lv_bipush (v := 12) hx hb dL_wear_7 (by decide) ?_
    refine lv_iload_n hx hb dL_wear_9 rfl (lv_at hl 2 rfl) ?_
    refine lv_imul hx hb dL_wear_10 ?_
    refine lv_iload_n hx hb dL_wear_11 rfl (lv_at hl 3 rfl) ?_
    refine lv_iadd hx hb dL_wear_12 ?_
    refine va_iald (f := lqT z 11) hx hb hK hP 8 0 lw_8 rfl (in_nI (tx_lo) (by omega) (by decide)) dL_wear_13 ?_
    refine W_top (v' := .int (sl z a (11 + t))) (congrArg Value.int (vT (tx_lo) (by omega) (by omega))) ?_
    refine lv_goto (tgt := 28) hx hb dL_wear_14 (by decide) ?_
    exact end_pi hx hb hrt hlk (wr_lo ht) dL_wear_28

theorem hd_L_setWear : yL_setWear.cls ≠ "java/lang/invoke/MethodHandle" ∧ yL_setWear.cls ≠ "java/lang/invoke/VarHandle" ∧ (parseMethodDescriptor yL_setWear.desc).map (fun d => d.parameters.length) = some 5 := by decide +kernel
set_option maxRecDepth 100000 in
set_option maxHeartbeats 4000000 in
theorem m_L_setWear (l : Launch) (D : va_G) (kA : Nat → Nat) (al : Nat → Nat) (z : Nat → Int32) (k : Int32) (a : Nat) (t : Nat) (v : Int32) (ha : a < 4) (ht : t < 24) : Met l yL_setWear (Cond.code yL_setWear cL_setWear 5 none :: AW) ({ frames := 0, cells := 0, slots := 0, locals := 0 } : Room) (Pz [.ref (al 8), .ref (al 9), .int (nI a), .int (nI t), .int v] D (TY kA) (lqW kA al z k)) (fQ none D (lqW kA al z k) (lqW kA al (puZ z a (t + 11) v) k)) 0 0 (Aw (lqW kA al z k)) := by
  refine MetZ (by decide +kernel) (Nat.le_of_ble_eq_true rfl) ?_
  intro p e s m below meth c ls hx hb hrt hts hown hml hlk hnm hP hK hD hS hl
  have hl : lv_has ls 5 [(0, .ref (al 8)), (1, .ref (al 9)), (2, .int (nI a)), (3, .int (nI t)), (4, .int v)] := hl
  refine lv_iload_n hx hb dL_setWear_0 rfl (lv_at hl 3 rfl) ?_
  refine lv_bipush (v := 12) hx hb dL_setWear_1 (by decide) ?_
  refine lv_icmp_ge (tgt := 19) hx hb dL_setWear_3 (by decide) (fun c_1 => ?_) (fun c_1 => ?_)
  · skip
    replace c_1 := ge_n c_1
    have h12 := t12n ht c_1
    refine lv_aload_n hx hb dL_setWear_19 rfl (lv_at hl 1 rfl) ?_
    refine lv_bipush (v := 12) hx hb dL_setWear_20 (by decide) ?_
    refine lv_iload_n hx hb dL_setWear_22 rfl (lv_at hl 2 rfl) ?_
    refine lv_imul hx hb dL_setWear_23 ?_
    refine lv_iload_n hx hb dL_setWear_24 rfl (lv_at hl 3 rfl) ?_
    refine lv_iadd hx hb dL_setWear_25 ?_
    refine lv_bipush (v := 12) hx hb dL_setWear_26 (by decide) ?_
    refine lv_isub hx hb dL_setWear_28 ?_
    refine lv_iload hx hb dL_setWear_29 (lv_at hl 4 rfl) ?_
    refine va_iast (f := lqT z 23) hx hb hK hP hD hS 9 0 lw_9 rfl (in_nI (tx_hi (by omega)) (by omega) (by decide)) dL_setWear_31 (fun H locs hP hD hS => ?_)
    rw [tx_hi (by omega), nI_clamp (by omega)] at hP hD
    have hP : va_P D vwCl (lqW kA al (puZ z a (23 + (t - 12)) v) k) H := by rw [← st_hi (by omega)]; exact hP
    have hD : va_D (Aw (lqW kA al z k)) (lqW kA al (puZ z a (23 + (t - 12)) v) k) := by rw [← st_hi (by omega)]; exact hD
    obtain ⟨z_2, e_z_2⟩ : ∃ y : Nat → Int32, y = puZ z a (23 + (t - 12)) v := ⟨_, rfl⟩
    rw [← e_z_2] at hP hD
    exact end_fv hx hb hrt hlk hP hS (fun h => by rw [show t + 11 = 23 + (t - 12) by omega, ← e_z_2]; exact h) dL_setWear_32
  · skip
    replace c_1 := nge_l c_1
    have h12 := t12 ht c_1
    refine lv_aload_n hx hb dL_setWear_6 rfl (lv_at hl 0 rfl) ?_
    refine lv_bipush (v := 12) hx hb dL_setWear_7 (by decide) ?_
    refine lv_iload_n hx hb dL_setWear_9 rfl (lv_at hl 2 rfl) ?_
    refine lv_imul hx hb dL_setWear_10 ?_
    refine lv_iload_n hx hb dL_setWear_11 rfl (lv_at hl 3 rfl) ?_
    refine lv_iadd hx hb dL_setWear_12 ?_
    refine lv_iload hx hb dL_setWear_13 (lv_at hl 4 rfl) ?_
    refine va_iast (f := lqT z 11) hx hb hK hP hD hS 8 0 lw_8 rfl (in_nI (tx_lo) (by omega) (by decide)) dL_setWear_15 (fun H locs hP hD hS => ?_)
    rw [tx_lo, nI_clamp (by omega)] at hP hD
    have hP : va_P D vwCl (lqW kA al (puZ z a (11 + t) v) k) H := by rw [← st_lo (by omega)]; exact hP
    have hD : va_D (Aw (lqW kA al z k)) (lqW kA al (puZ z a (11 + t) v) k) := by rw [← st_lo (by omega)]; exact hD
    obtain ⟨z_3, e_z_3⟩ : ∃ y : Nat → Int32, y = puZ z a (11 + t) v := ⟨_, rfl⟩
    rw [← e_z_3] at hP hD
    refine lv_goto (tgt := 32) hx hb dL_setWear_16 (by decide) ?_
    exact end_fv hx hb hrt hlk hP hS (fun h => by rw [show t + 11 = 11 + t by omega, ← e_z_3]; exact h) dL_setWear_32

theorem hd_L_toll : yL_toll.cls ≠ "java/lang/invoke/MethodHandle" ∧ yL_toll.cls ≠ "java/lang/invoke/VarHandle" ∧ (parseMethodDescriptor yL_toll.desc).map (fun d => d.parameters.length) = some 4 := by decide +kernel
set_option maxRecDepth 100000 in
set_option maxHeartbeats 4000000 in
theorem m_L_toll (l : Launch) (D : va_G) (kA : Nat → Nat) (al : Nat → Nat) (z : Nat → Int32) (k : Int32) (ld : Int32) (we : Int32) (gl : Int32) (hI : Inv z) (hld : bd ld 5) (hwe : bd we 99) : Met l yL_toll (Cond.code yL_toll cL_toll 5 (some .int) :: AW) ({ frames := 0, cells := 0, slots := 0, locals := 0 } : Room) (Pz [.ref (al 0), .int ld, .int we, .int (bI (decide (0 < gl)))] D (TY kA) (lqW kA al z k)) (pQ (some (.int (tlF ld we gl (z 1))))) 0 0 (fun _ => False) := by
  refine MetZ (by decide +kernel) (Nat.le_of_ble_eq_true rfl) ?_
  intro p e s m below meth c ls hx hb hrt hts hown hml hlk hnm hP hK hD hS hl
  have hl : lv_has ls 5 [(0, .ref (al 0)), (1, .int ld), (2, .int we), (3, .int (bI (decide (0 < gl))))] := hl
  refine lv_iconst (v := 1) hx hb dL_toll_0 (by decide) ?_
  refine lv_iload_n hx hb dL_toll_1 rfl (lv_at hl 1 rfl) ?_
  refine lv_iadd hx hb dL_toll_2 ?_
  refine lv_iload_n hx hb dL_toll_3 rfl (lv_at hl 2 rfl) ?_
  refine lv_aload_n hx hb dL_toll_4 rfl (lv_at hl 0 rfl) ?_
  refine lv_iconst (v := 4) hx hb dL_toll_5 (by decide) ?_
  refine va_iald (f := lqN z k) hx hb hK hP 0 0 lw_0 rfl (in_nI (j := 4) rfl (by omega) (by decide)) dL_toll_6 ?_
  refine W_top (v' := .int (z 1)) (rfl) ?_
  refine lv_idiv hx hb dL_toll_7 (hI.pn) ?_
  refine lv_iadd hx hb dL_toll_8 ?_
  refine lv_istore (lv' := [(4, .int ((1 + ld) + (we / (z 1)))), (0, .ref (al 0)), (1, .int ld), (2, .int we), (3, .int (bI (decide (0 < gl))))]) hx hb dL_toll_9 hl (by decide) rfl (fun ls hl => ?_)
  refine lv_iload_n hx hb dL_toll_11 rfl (lv_at hl 4 rfl) ?_
  refine lv_if_eq (tgt := 27) hx hb dL_toll_12 (by decide) (fun c_1 => ?_) (fun c_1 => ?_)
  · skip
    replace c_1 := bI_0.mp c_1
    refine lv_iload hx hb dL_toll_27 (lv_at hl 0 rfl) ?_
    exact end_pi hx hb hrt hlk (tl_f hI (of_decide_eq_false c_1)) dL_toll_29
  · skip
    replace c_1 := bI_n0 c_1
    refine lv_iload hx hb dL_toll_15 (lv_at hl 0 rfl) ?_
    refine lv_iconst (v := 2) hx hb dL_toll_17 (by decide) ?_
    refine lv_idiv hx hb dL_toll_18 (by decide) ?_
    refine lv_iload hx hb dL_toll_19 (lv_at hl 0 rfl) ?_
    refine lv_iconst (v := 2) hx hb dL_toll_21 (by decide) ?_
    refine lv_irem hx hb dL_toll_22 (by decide) ?_
    refine lv_iadd hx hb dL_toll_23 ?_
    refine lv_goto (tgt := 29) hx hb dL_toll_24 (by decide) ?_
    exact end_pi hx hb hrt hlk (tl_t hld hwe hI (of_decide_eq_true c_1)) dL_toll_29
