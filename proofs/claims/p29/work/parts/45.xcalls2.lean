/-! isValueOf, set, step, run; clearBuffer, firstError -/
theorem isv_iv {j : Nat} {v : Int32} (hj : j < 6) : wiF v (leS j) (moS j) = ivF (nI j) v := by
  rcases (by omega : j = 0 ∨ j = 1 ∨ j = 2 ∨ j = 3 ∨ j = 4 ∨ j = 5) with rfl | rfl | rfl | rfl | rfl | rfl <;> rfl
theorem rpF_ge {R : Nat → Int32} {k v : Int32} {i : Nat} (hi : 6 ≤ i) : rpF R k v i = R i := by
  have h : ∀ n : Nat, n < 6 → upd R n v i = R i := fun n hn => if_neg (by omega)
  unfold rpF
  (repeat' split) <;> exact h _ (by omega)
theorem svX_8 {X : Nat → Nat → Int32} {w i : Nat} (hw : w < 6) (h0 : i ≠ 0) (h1 : i ≠ 1) : svX X w 8 i = X 8 i := by
  have h6 : nx6 w < 6 := nx6_lt w
  unfold svX
  rw [up2_n (by omega), up3_ne (Or.inr h1), up3_ne (Or.inr h0)]
theorem svX_9 {X : Nat → Nat → Int32} {w : Nat} (hw : w < 6) : svX X w 9 = X 9 := by
  have h6 : nx6 w < 6 := nx6_lt w
  unfold svX
  rw [up2_n (by omega)]
  funext i
  rw [up3_ne (Or.inl (by omega)), up3_ne (Or.inl (by omega))]
theorem upQ_9 {X : Nat → Nat → Int32} {Q : Nat → Int32} : upQ X Q 9 = X 9 := funext fun i => upQ_ne (Or.inl (by omega))
theorem qz_up {X : Nat → Nat → Int32} {Q : Nat → Int32} {w : Nat} (hw : w < 6) : qz (svX (upQ X Q) w 8) = mkQ (Q 0) (Q 1) (Q 2) (Q 3) := by
  unfold qz
  rw [svX_8 hw (by omega) (by omega), svX_8 hw (by omega) (by omega), svX_8 hw (by omega) (by omega), svX_8 hw (by omega) (by omega)]
  rfl
theorem hd_X5_isValueOf : yX5_isValueOf.cls ≠ "java/lang/invoke/MethodHandle" ∧ yX5_isValueOf.cls ≠ "java/lang/invoke/VarHandle" ∧ (parseMethodDescriptor yX5_isValueOf.desc).map (fun d => d.parameters.length) = some 2 := by decide +kernel
set_option maxRecDepth 100000 in
set_option maxHeartbeats 4000000 in
theorem m_X5_isValueOf (l : Launch) (D : va_G) (kA : Nat → Nat) (ad : Nat → Nat) (X : Nat → Nat → Int32) (p0 : Int32) (p1 : Int32) (j : Nat) (hp : p0 = nI j) (hj : j < 6) : Met l yX5_isValueOf (Cond.code yX5_isValueOf cX5_isValueOf 2 (some .boolean) :: AW) ({ frames := 0, cells := 0, slots := 0, locals := 0 } : Room) (Px [.int p0, .int p1] D (TY kA) (cw kA ad X)) (pQ (some (.int (bI (ivF p0 p1))))) 0 0 (fun _ => False) := by
  refine MetY (by decide +kernel) (Nat.le_of_ble_eq_true rfl) ?_
  intro p e s m below meth c ls hx hb hrt hts hown hml hlk hnm hP hK hD hS hl hXW
  obtain ⟨aL, hZL, hTL⟩ := hXW.2.2.2.2.1
  obtain ⟨aM, hZM, hTM⟩ := hXW.2.2.2.2.2
  have hl : lv_has ls 2 [(0, .int p0), (1, .int p1)] := hl
  refine lv_iload_n hx hb dX5_isValueOf_0 rfl (lv_at hl 0 rfl) ?_
  refine lv_if_lt (tgt := 20) hx hb dX5_isValueOf_1 (by decide) (fun c_1 => ?_) (fun c_1 => ?_)
  · exact absurd c_1 (neg_of hp (by omega))
  · skip
    refine lv_iload_n hx hb dX5_isValueOf_4 rfl (lv_at hl 0 rfl) ?_
    refine va_gets hx hb hZL hS hown (hts _ q_509) (fun _ h9 => h9) dX5_isValueOf_5 ?_
    refine va_tlen hx hb hTL hS (v := 6) rfl dX5_isValueOf_8 ?_
    refine lv_icmp_ge (tgt := 20) hx hb dX5_isValueOf_9 (by decide) (fun c_2 => ?_) (fun c_2 => ?_)
    · exact absurd c_2 (cnt_nge (N := 6) hp rfl (by decide) hj)
    · skip
      replace c_2 := nge_l c_2
      refine lv_iload_n hx hb dX5_isValueOf_12 rfl (lv_at hl 0 rfl) ?_
      refine va_gets hx hb hZM hS hown (hts _ q_511) (fun _ h9 => h9) dX5_isValueOf_13 ?_
      refine va_tlen hx hb hTM hS (v := 6) rfl dX5_isValueOf_16 ?_
      refine lv_icmp_lt (tgt := 22) hx hb dX5_isValueOf_17 (by decide) (fun c_3 => ?_) (fun c_3 => ?_)
      · skip
        refine lv_iload_n hx hb dX5_isValueOf_22 rfl (lv_at hl 1 rfl) ?_
        refine va_gets hx hb hZL hS hown (hts _ q_509) (fun _ h9 => h9) dX5_isValueOf_23 ?_
        refine lv_iload_n hx hb dX5_isValueOf_26 rfl (lv_at hl 0 rfl) ?_
        refine va_ti hx hb hTL hS (in_nI hp hj (by decide)) (v := .int (leS p0.toNatClampNeg)) rfl dX5_isValueOf_27 ?_
        refine lv_icmp_lt (tgt := 44) hx hb dX5_isValueOf_28 (by decide) (fun c_4 => ?_) (fun c_4 => ?_)
        · skip
          refine lv_iconst (v := 0) hx hb dX5_isValueOf_44 (by decide) ?_
          exact end_pz hx hb hrt hlk (by decide) (by rw [← show wiF p1 (leS p0.toNatClampNeg) (moS p0.toNatClampNeg) = ivF p0 p1 from by rw [clamp_j hp (by omega), hp]; exact isv_iv hj]; simp [wiF, bI, c_1, c_2, c_3, c_4]) dX5_isValueOf_45
        · skip
          refine lv_iload_n hx hb dX5_isValueOf_31 rfl (lv_at hl 1 rfl) ?_
          refine va_gets hx hb hZM hS hown (hts _ q_511) (fun _ h9 => h9) dX5_isValueOf_32 ?_
          refine lv_iload_n hx hb dX5_isValueOf_35 rfl (lv_at hl 0 rfl) ?_
          refine va_ti hx hb hTM hS (in_nI hp hj (by decide)) (v := .int (moS p0.toNatClampNeg)) rfl dX5_isValueOf_36 ?_
          refine lv_icmp_gt (tgt := 44) hx hb dX5_isValueOf_37 (by decide) (fun c_5 => ?_) (fun c_5 => ?_)
          · skip
            refine lv_iconst (v := 0) hx hb dX5_isValueOf_44 (by decide) ?_
            exact end_pz hx hb hrt hlk (by decide) (by rw [← show wiF p1 (leS p0.toNatClampNeg) (moS p0.toNatClampNeg) = ivF p0 p1 from by rw [clamp_j hp (by omega), hp]; exact isv_iv hj]; simp [wiF, bI, c_1, c_2, c_3, c_4, c_5]) dX5_isValueOf_45
          · skip
            refine lv_iconst (v := 1) hx hb dX5_isValueOf_40 (by decide) ?_
            refine lv_goto (tgt := 45) hx hb dX5_isValueOf_41 (by decide) ?_
            exact end_pz hx hb hrt hlk (by decide) (by rw [← show wiF p1 (leS p0.toNatClampNeg) (moS p0.toNatClampNeg) = ivF p0 p1 from by rw [clamp_j hp (by omega), hp]; exact isv_iv hj]; simp [wiF, bI, c_1, c_2, c_3, c_4, c_5]) dX5_isValueOf_45
      · exact absurd c_3 (fun h => h ((nI_ltI (by omega) (by omega)).mpr hj |> fun q => by rw [hp]; exact q))

theorem hd_X5_set : yX5_set.cls ≠ "java/lang/invoke/MethodHandle" ∧ yX5_set.cls ≠ "java/lang/invoke/VarHandle" ∧ (parseMethodDescriptor yX5_set.desc).map (fun d => d.parameters.length) = some 2 := by decide +kernel
theorem hd_X5_step : yX5_step.cls ≠ "java/lang/invoke/MethodHandle" ∧ yX5_step.cls ≠ "java/lang/invoke/VarHandle" ∧ (parseMethodDescriptor yX5_step.desc).map (fun d => d.parameters.length) = some 2 := by decide +kernel
