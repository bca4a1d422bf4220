/-! isValueOf, set, step, run; clearBuffer, firstError -/
theorem isv_iv {j : Nat} {v : Int32} (hj : j < 6) : wiF v (leS j) (moS j) = ivF (nI j) v := by
  rcases (by omega : j = 0 ∨ j = 1 ∨ j = 2 ∨ j = 3 ∨ j = 4 ∨ j = 5) with rfl | rfl | rfl | rfl | rfl | rfl <;> rfl
theorem rpF_ge {R : Nat → Int32} {k v : Int32} {i : Nat} (hi : 6 ≤ i) : rpF R k v i = R i := by
  have h : ∀ n : Nat, n < 6 → upd R n v i = R i := fun n hn => if_neg (by omega)
  unfold rpF
  (repeat' split) <;> exact h _ (by omega)
theorem svX_8 {X : Nat → Nat → Int32} {w i : Nat} (hw : w < 6) (h0 : i ≠ 0) (h1 : i ≠ 1) : svX X w 8 i = X 8 i := by
  have h6 : nx6 w < 6 := nx6_lt w
  unfold svX
  rw [up2_n (by omega), up3_ne (Or.inr h1), up3_ne (Or.inr h0)]
theorem svX_9 {X : Nat → Nat → Int32} {w : Nat} (hw : w < 6) : svX X w 9 = X 9 := by
  have h6 : nx6 w < 6 := nx6_lt w
  unfold svX
  rw [up2_n (by omega)]
  funext i
  rw [up3_ne (Or.inl (by omega)), up3_ne (Or.inl (by omega))]
theorem upQ_9 {X : Nat → Nat → Int32} {Q : Nat → Int32} : upQ X Q 9 = X 9 := funext fun i => upQ_ne (Or.inl (by omega))
theorem qz_up {X : Nat → Nat → Int32} {Q : Nat → Int32} {w : Nat} (hw : w < 6) : qz (svX (upQ X Q) w 8) = mkQ (Q 0) (Q 1) (Q 2) (Q 3) := by
  unfold qz
  rw [svX_8 hw (by omega) (by omega), svX_8 hw (by omega) (by omega), svX_8 hw (by omega) (by omega), svX_8 hw (by omega) (by omega)]
  rfl
theorem hd_X5_isValueOf : yX5_isValueOf.cls ≠ "java/lang/invoke/MethodHandle" ∧ yX5_isValueOf.cls ≠ "java/lang/invoke/VarHandle" ∧ (parseMethodDescriptor yX5_isValueOf.desc).map (fun d => d.parameters.length) = some 2 := by decide +kernel
set_option maxRecDepth 100000 in
set_option maxHeartbeats 4000000 in
theorem m_X5_isValueOf (l : Launch) (D : va_G) (kA : Nat → Nat) (ad : Nat → Nat) (X : Nat → Nat → Int32) (p0 : Int32) (p1 : Int32) (j : Nat) (hp : p0 = nI j) (hj : j < 6) : Met l yX5_isValueOf (Cond.code yX5_isValueOf cX5_isValueOf 2 (some .boolean) :: AW) ({ frames := 0, cells := 0, slots := 0, locals := 0 } : Room) (Px [.int p0, .int p1] D (TY kA) (cw kA ad X)) (pQ (some (.int (bI (ivF p0 p1))))) 0 0 (fun _ => False) := by
  refine MetY (by decide +kernel) (Nat.le_of_ble_eq_true rfl) ?_
  intro p e s m below meth c ls hx hb hrt hts hown hml hlk hnm hP hK hD hS hl hXW
  obtain ⟨aL, hZL, hTL⟩ := hXW.2.2.2.2.1
  obtain ⟨aM, hZM, hTM⟩ := hXW.2.2.2.2.2
  have hl : lv_has ls 2 [(0, .int p0), (1, .int p1)] := hl
  refine lv_iload_n hx hb dX5_isValueOf_0 rfl (lv_at hl 0 rfl) ?_
  refine lv_if_lt (tgt := 20) hx hb dX5_isValueOf_1 (by decide) (fun c_1 => ?_) (fun c_1 => ?_)
  · exact absurd c_1 (neg_of hp (by omega))
  · skip
    refine lv_iload_n hx hb dX5_isValueOf_4 rfl (lv_at hl 0 rfl) ?_
    refine va_gets hx hb hZL hS hown (hts _ q_509) (fun _ h9 => h9) dX5_isValueOf_5 ?_
    refine va_tlen hx hb hTL hS (v := 6) rfl dX5_isValueOf_8 ?_
    refine lv_icmp_ge (tgt := 20) hx hb dX5_isValueOf_9 (by decide) (fun c_2 => ?_) (fun c_2 => ?_)
    · exact absurd c_2 (cnt_nge (N := 6) hp rfl (by decide) hj)
    · skip
      replace c_2 := nge_l c_2
      refine lv_iload_n hx hb dX5_isValueOf_12 rfl (lv_at hl 0 rfl) ?_
      refine va_gets hx hb hZM hS hown (hts _ q_511) (fun _ h9 => h9) dX5_isValueOf_13 ?_
      refine va_tlen hx hb hTM hS (v := 6) rfl dX5_isValueOf_16 ?_
      refine lv_icmp_lt (tgt := 22) hx hb dX5_isValueOf_17 (by decide) (fun c_3 => ?_) (fun c_3 => ?_)
      · skip
        refine lv_iload_n hx hb dX5_isValueOf_22 rfl (lv_at hl 1 rfl) ?_
        refine va_gets hx hb hZL hS hown (hts _ q_509) (fun _ h9 => h9) dX5_isValueOf_23 ?_
        refine lv_iload_n hx hb dX5_isValueOf_26 rfl (lv_at hl 0 rfl) ?_
        refine va_ti hx hb hTL hS (in_nI hp hj (by decide)) (v := .int (leS p0.toNatClampNeg)) rfl dX5_isValueOf_27 ?_
        refine lv_icmp_lt (tgt := 44) hx hb dX5_isValueOf_28 (by decide) (fun c_4 => ?_) (fun c_4 => ?_)
        · skip
          refine lv_iconst (v := 0) hx hb dX5_isValueOf_44 (by decide) ?_
          exact end_pz hx hb hrt hlk (by decide) (by rw [← show wiF p1 (leS p0.toNatClampNeg) (moS p0.toNatClampNeg) = ivF p0 p1 from by rw [clamp_j hp (by omega), hp]; exact isv_iv hj]; simp [wiF, bI, c_1, c_2, c_3, c_4]) dX5_isValueOf_45
        · skip
          refine lv_iload_n hx hb dX5_isValueOf_31 rfl (lv_at hl 1 rfl) ?_
          refine va_gets hx hb hZM hS hown (hts _ q_511) (fun _ h9 => h9) dX5_isValueOf_32 ?_
          refine lv_iload_n hx hb dX5_isValueOf_35 rfl (lv_at hl 0 rfl) ?_
          refine va_ti hx hb hTM hS (in_nI hp hj (by decide)) (v := .int (moS p0.toNatClampNeg)) rfl dX5_isValueOf_36 ?_
          refine lv_icmp_gt (tgt := 44) hx hb dX5_isValueOf_37 (by decide) (fun c_5 => ?_) (fun c_5 => ?_)
          · skip
            refine lv_iconst (v := 0) hx hb dX5_isValueOf_44 (by decide) ?_
            exact end_pz hx hb hrt hlk (by decide) (by rw [← show wiF p1 (leS p0.toNatClampNeg) (moS p0.toNatClampNeg) = ivF p0 p1 from by rw [clamp_j hp (by omega), hp]; exact isv_iv hj]; simp [wiF, bI, c_1, c_2, c_3, c_4, c_5]) dX5_isValueOf_45
          · skip
            refine lv_iconst (v := 1) hx hb dX5_isValueOf_40 (by decide) ?_
            refine lv_goto (tgt := 45) hx hb dX5_isValueOf_41 (by decide) ?_
            exact end_pz hx hb hrt hlk (by decide) (by rw [← show wiF p1 (leS p0.toNatClampNeg) (moS p0.toNatClampNeg) = ivF p0 p1 from by rw [clamp_j hp (by omega), hp]; exact isv_iv hj]; simp [wiF, bI, c_1, c_2, c_3, c_4, c_5]) dX5_isValueOf_45
      · exact absurd c_3 (fun h => h ((nI_ltI (by omega) (by omega)).mpr hj |> fun q => by rw [hp]; exact q))

theorem hd_X5_set : yX5_set.cls ≠ "java/lang/invoke/MethodHandle" ∧ yX5_set.cls ≠ "java/lang/invoke/VarHandle" ∧ (parseMethodDescriptor yX5_set.desc).map (fun d => d.parameters.length) = some 2 := by decide +kernel
set_option maxRecDepth 100000 in
set_option maxHeartbeats 4000000 in
theorem m_X5_set (l : Launch) (D : va_G) (kA : Nat → Nat) (ad : Nat → Nat) (X : Nat → Nat → Int32) (p0 : Int32) (p1 : Int32) (w : Nat) (hsw : X 8 0 = nI w) (hsw6 : w < 6) (hnt : l.stackTraces = false) : vx_Met l yX5_set (Cond.code yX5_set cX5_set 4 (some .int) :: AW) ({ frames := 7, cells := 1, slots := 6, locals := 127 } : Room) (Px [.ref (ad 0), .int p0, .int p1] D (TY kA) (cw kA ad X)) (xQ (seT p0 p1) (some (.int (rvF ((svX X w) 0) p0))) D (cw kA ad X) (cw kA ad (up2 (svX X w) 0 (rpF ((svX X w) 0) p0 p1)))) (xX (seT p0 p1) [eI, eA] D (cw kA ad X) (cw kA ad X)) 1 6 (Aw (cw kA ad X)) := by
  refine MetX (by decide +kernel) (Nat.le_of_ble_eq_true rfl) ?_
  intro p e s m below meth c ls hx hb hrt hts hown hml hlk hP hK hD hS hl hXW hxt
  have hl : lv_has ls 4 [(0, .ref (ad 0)), (1, .int p0), (2, .int p1)] := hl
  refine lv_iload_n hx hb dX5_set_0 rfl (lv_at hl 1 rfl) ?_
  by_cases hck : wiF p0 0 5 = true
  · skip
    refine cs_pv (runS (As := [.int p0]) (rest := []) ⟨hx, hb, hml, hown, hts⟩ (m_X5_checkSetting l D kA ad X p0 ((wi_c hck (M' := 6) rfl).1) ((wi_c hck (M' := 6) rfl).2)) q_502 q_503 q_1 q_504 hd_X5_checkSetting ⟨rfl, rfl⟩ ⟨Nat.le_of_ble_eq_true rfl, Nat.le_of_ble_eq_true rfl⟩ hK (ws := (cw kA ad X)) hP hD rfl hl.1 rfl (Nat.le_of_ble_eq_true rfl) dX5_set_1 ⟨Nat.zero_le _, Nat.zero_le _⟩) ?_
    obtain ⟨j, hj, hpj, hjc⟩ := wi_ex hck (N := 5) rfl
    refine lv_iload_n hx hb dX5_set_4 rfl (lv_at hl 1 rfl) ?_
    refine lv_iload_n hx hb dX5_set_5 rfl (lv_at hl 2 rfl) ?_
    refine cs_p (yrunS (As := [.int p0, .int p1]) (rest := []) ⟨hx, hb, hml, hown, hts⟩ (m_X5_isValueOf l D kA ad X p0 p1 j (hpj) (hj)) q_506 q_507 q_1 q_508 hd_X5_isValueOf ⟨rfl, rfl⟩ ⟨Nat.le_of_ble_eq_true rfl, Nat.le_of_ble_eq_true rfl⟩ hK (ws := cw kA ad X) hP hD (hXW.kept hS.2.1) rfl hl.1 rfl (Nat.le_of_ble_eq_true rfl) dX5_set_6 ⟨Nat.zero_le _, Nat.zero_le _⟩) ?_
    refine lv_if_ne (tgt := 22) hx hb dX5_set_9 (by decide) (fun c_1 => ?_) (fun c_1 => ?_)
    · skip
      replace c_1 := bI_n0 c_1
      refine lv_aload_n hx hb dX5_set_22 rfl (lv_at hl 0 rfl) ?_
      refine va_get (ci := 5) (v := .ref (ad 1)) (C := RX5) (T := TX5) (N := 6) hx hb hts inX5 hown hK hP _ (cw_arm (kA := kA) (ad := ad) (X := X)) rfl 1 (by decide) (hts _ q_171) (fun _ h9 => h9) rfl dX5_set_23 ?_
      refine lv_aload_n hx hb dX5_set_26 rfl (lv_at hl 0 rfl) ?_
      refine va_get (ci := 5) (v := .ref (sA ad 0)) (C := RX5) (T := TX5) (N := 6) hx hb hts inX5 hown hK hP _ (cw_arm (kA := kA) (ad := ad) (X := X)) rfl 0 (by decide) (hts _ q_170) (fun _ h9 => h9) rfl dX5_set_27 ?_
      refine cs_fn (runV (As := [.ref (sA ad 0)]) (rest := []) ⟨hx, hb, hml, hown, hts⟩ (m_X1_save l D kA ad X w (hsw) (hsw6)) q_351 q_352 q_353 q_5 q_354 hd_X1_save ⟨rfl, rfl⟩ ⟨Nat.le_of_ble_eq_true rfl, Nat.le_of_ble_eq_true rfl⟩ hK (ws := (cw kA ad X)) hP hD _ (ci := 1) (C := RX1) (T := TX1) (N := 3) rfl (cw_hist (kA := kA) (ad := ad) (X := X)) rfl hl.1 rfl (Nat.le_of_ble_eq_true rfl) dX5_set_30 ⟨Nat.zero_le _, Nat.zero_le _⟩) hS (fun _ h => cw_Aw h) (fun H locs hP _ hS => ?_)
      have hD := cw_D (X' := svX X w) hD
      refine lv_aload_n hx hb dX5_set_33 rfl (lv_at hl 0 rfl) ?_
      refine va_get (ci := 5) (v := .ref (sA ad 0)) (C := RX5) (T := TX5) (N := 6) hx hb hts inX5 hown hK hP _ (cw_arm (kA := kA) (ad := ad) (X := svX X w)) rfl 0 (by decide) (hts _ q_170) (fun _ h9 => h9) rfl dX5_set_34 ?_
      refine va_get (ci := 4) (v := .ref (rA ad 0)) (C := RX4) (T := TX4) (N := 4) hx hb hts inX4 hown hK hP _ (cw_state (kA := kA) (ad := ad) (X := svX X w) (r := 0) (by omega)) rfl 0 (by decide) (hts _ q_114) (fun _ h9 => h9) rfl dX5_set_37 ?_
      refine lv_iload_n hx hb dX5_set_40 rfl (lv_at hl 1 rfl) ?_
      refine cs_p (runV (As := [.int p0]) (rest := []) ⟨hx, hb, hml, hown, hts⟩ (m_X3_valueOf l D kA (rA ad 0) ((svX X w) 0) p0 ) q_514 q_515 q_516 q_3 q_517 hd_X3_valueOf ⟨rfl, rfl⟩ ⟨Nat.le_of_ble_eq_true rfl, Nat.le_of_ble_eq_true rfl⟩ hK (ws := [((rA ad 0), rC ((svX X w) 0))]) (P1 hP (cw_rules (kA := kA) (ad := ad) (X := svX X w) (r := 0) (by omega))) (D1 hD (cw_rules (kA := kA) (ad := ad) (X := svX X w) (r := 0) (by omega))) 0 (ci := 3) (C := RX3) (T := TX3) (N := 6) rfl rfl rfl hl.1 rfl (Nat.le_of_ble_eq_true rfl) dX5_set_41 ⟨Nat.zero_le _, Nat.zero_le _⟩) ?_
      refine lv_istore_n (lv' := [(3, .int (rvF ((svX X w) 0) p0)), (0, .ref (ad 0)), (1, .int p0), (2, .int p1)]) hx hb dX5_set_44 rfl hl (by decide) rfl (fun ls hl => ?_)
      refine lv_aload_n hx hb dX5_set_45 rfl (lv_at hl 1 rfl) ?_
      refine va_get (ci := 5) (v := .ref (sA ad 0)) (C := RX5) (T := TX5) (N := 6) hx hb hts inX5 hown hK hP _ (cw_arm (kA := kA) (ad := ad) (X := svX X w)) rfl 0 (by decide) (hts _ q_170) (fun _ h9 => h9) rfl dX5_set_46 ?_
      refine va_get (ci := 4) (v := .ref (rA ad 0)) (C := RX4) (T := TX4) (N := 4) hx hb hts inX4 hown hK hP _ (cw_state (kA := kA) (ad := ad) (X := svX X w) (r := 0) (by omega)) rfl 0 (by decide) (hts _ q_114) (fun _ h9 => h9) rfl dX5_set_49 ?_
      refine lv_iload_n hx hb dX5_set_52 rfl (lv_at hl 2 rfl) ?_
      refine lv_iload_n hx hb dX5_set_53 rfl (lv_at hl 3 rfl) ?_
      refine cs_fn (runV (As := [.int p0, .int p1]) (rest := []) ⟨hx, hb, hml, hown, hts⟩ (m_X3_put l D kA (rA ad 0) ((svX X w) 0) p0 p1 ) q_518 q_519 q_520 q_3 q_521 hd_X3_put ⟨rfl, rfl⟩ ⟨Nat.le_of_ble_eq_true rfl, Nat.le_of_ble_eq_true rfl⟩ hK (ws := [((rA ad 0), rC ((svX X w) 0))]) (P1 hP (cw_rules (kA := kA) (ad := ad) (X := svX X w) (r := 0) (by omega))) (D1 hD (cw_rules (kA := kA) (ad := ad) (X := svX X w) (r := 0) (by omega))) 0 (ci := 3) (C := RX3) (T := TX3) (N := 6) rfl rfl rfl hl.1 rfl (Nat.le_of_ble_eq_true rfl) dX5_set_54 ⟨Nat.zero_le _, Nat.zero_le _⟩) hS (cw_sub (fun q hq => by simp only [List.mem_cons, List.not_mem_nil, or_false] at hq; rcases hq with rfl <;> first | exact ⟨3 * 0 + 64, by omega, rfl⟩)) (fun H locs hP1 hk1 hS => ?_)
      obtain ⟨hP, hD⟩ := jn_R (r := 0) (R' := (rpF ((svX X w) 0) p0 p1)) (by omega) (fun i hi => rpF_ge hi) hP hD hk1 hP1
      clear hk1 hP1
      refine lv_iload_n hx hb dX5_set_57 rfl (lv_at hl 0 rfl) ?_
      exact end_xi hx hb hrt hlk hP hS (by rw [seT, if_pos hck] <;> simp [wiF, c_1]) (by first | rfl | (simp only [svX_0, hck, c_1]; done) | (simp [hck, c_1]; done)) (fun h => h) dX5_set_58
    · skip
      replace c_1 := bI_0.mp c_1
      exact end_xt (cls := eA) (text := "value is out of range") (k := 2) hx hb hnt hown hts (hl.1.trans hml.symm) hXW hP hS (fun h => h) (by decide +kernel) q_297 q_10 xg_A xb_A xo_A (by decide +kernel) dX5_set_12 dX5_set_15 dX5_set_16 dX5_set_18 dX5_set_21 hxt ⟨Nat.le_of_ble_eq_true rfl, Nat.le_of_ble_eq_true rfl, Nat.le_of_ble_eq_true rfl, Nat.le_of_ble_eq_true rfl⟩ hlk (by rw [seT, if_pos hck] <;> simp [wiF, c_1]) (by decide) rfl
  · skip
    have hTk : (seT p0 p1) = 1 := by rw [seT, if_neg hck] <;> simp [wiF]
    exact cs_xt (xrunS (As := [.int p0]) (rest := []) ⟨hx, hb, hml, hown, hts⟩ (m_X5_checkSetting_x l D kA ad X p0 (wi_n hck (M' := 6) rfl) hnt) q_502 q_503 q_1 q_504 hd_X5_checkSetting ⟨rfl, rfl⟩ ⟨Nat.le_of_ble_eq_true rfl, Nat.le_of_ble_eq_true rfl⟩ hK (ws := cw kA ad X) hP hD (hXW.kept hS.2.1) rfl hl.1 rfl (Nat.le_of_ble_eq_true rfl) dX5_set_1 ⟨Nat.le_of_ble_eq_true rfl, Nat.le_of_ble_eq_true rfl⟩) hS (by decide) hxt hlk (fun _ h => h) (by rw [hTk]; decide) (by rw [hTk] <;> rfl)

theorem hd_X5_step : yX5_step.cls ≠ "java/lang/invoke/MethodHandle" ∧ yX5_step.cls ≠ "java/lang/invoke/VarHandle" ∧ (parseMethodDescriptor yX5_step.desc).map (fun d => d.parameters.length) = some 2 := by decide +kernel
set_option maxRecDepth 100000 in
set_option maxHeartbeats 4000000 in
theorem m_X5_step (l : Launch) (D : va_G) (kA : Nat → Nat) (ad : Nat → Nat) (X : Nat → Nat → Int32) (p0 : Int32) (p1 : Int32) (w : Nat) (hsw : X 8 0 = nI w) (hsw6 : w < 6) (hnt : l.stackTraces = false) : vx_Met l yX5_step (Cond.code yX5_step cX5_step 5 (some .int) :: AW) ({ frames := 7, cells := 1, slots := 6, locals := 127 } : Room) (Px [.ref (ad 0), .int p0, .int p1] D (TY kA) (cw kA ad X)) (xQ (spT (X 0) p0 p1) (some (.int ((msL p0.toNatClampNeg (wI (spU p1)) p1.toInt.natAbs (svX X w 0) 0).1))) D (cw kA ad X) (cw kA ad (up2 (svX X w) 0 (msL p0.toNatClampNeg (wI (spU p1)) p1.toInt.natAbs (svX X w 0) 0).2))) (xX (spT (X 0) p0 p1) [eI, eA, eS] D (cw kA ad X) (cw kA ad X)) 1 6 (Aw (cw kA ad X)) := by
  refine MetX (by decide +kernel) (Nat.le_of_ble_eq_true rfl) ?_
  intro p e s m below meth c ls hx hb hrt hts hown hml hlk hP hK hD hS hl hXW hxt
  have hl : lv_has ls 5 [(0, .ref (ad 0)), (1, .int p0), (2, .int p1)] := hl
  by_cases hax : wiF p0 0 3 = true
  · obtain ⟨a, ha, hpa, hcl⟩ := wi_ex hax (N := 3) rfl
    subst hpa
    try rw [hcl]
    have hl : lv_has ls 5 [(0, .ref (ad 0)), (1, .int (nI a)), (2, .int p1)] := hl
    refine lv_aload_n hx hb dX5_step_0 rfl (lv_at hl 0 rfl) ?_
    refine lv_iload_n hx hb dX5_step_1 rfl (lv_at hl 1 rfl) ?_
    refine cs_p (runV (As := [.int (nI a)]) (rest := []) ⟨hx, hb, hml, hown, hts⟩ (m_X5_gearOf l D kA ad X a (nI a) (rfl) (ha)) q_221 q_223 qp_0 q_1 q_224 hd_X5_gearOf ⟨rfl, rfl⟩ ⟨Nat.le_of_ble_eq_true rfl, Nat.le_of_ble_eq_true rfl⟩ hK (ws := (cw kA ad X)) hP hD _ (ci := 5) (C := RX5) (T := TX5) (N := 6) rfl (cw_arm (kA := kA) (ad := ad) (X := X)) rfl hl.1 rfl (Nat.le_of_ble_eq_true rfl) dX5_step_2 ⟨Nat.zero_le _, Nat.zero_le _⟩) ?_
    refine lv_astore_n (lv' := [(3, .ref (gA ad 0 a)), (0, .ref (ad 0)), (1, .int (nI a)), (2, .int p1)]) hx hb dX5_step_5 rfl hl (by decide) rfl (fun ls hl => ?_)
    refine lv_iload_n hx hb dX5_step_6 rfl (lv_at hl 3 rfl) ?_
    refine lv_bipush (v := (-24)) hx hb dX5_step_7 (by decide) ?_
    refine lv_icmp_lt (tgt := 22) hx hb dX5_step_9 (by decide) (fun c_1 => ?_) (fun c_1 => ?_)
    · skip
      exact end_xt (cls := eA) (text := "steps is out of range or 0") (k := 2) hx hb hnt hown hts (hl.1.trans hml.symm) hXW hP hS (fun h => h) (by decide +kernel) q_297 q_10 xg_A xb_A xo_A (by decide +kernel) dX5_step_22 dX5_step_25 dX5_step_26 dX5_step_28 dX5_step_31 hxt ⟨Nat.le_of_ble_eq_true rfl, Nat.le_of_ble_eq_true rfl, Nat.le_of_ble_eq_true rfl, Nat.le_of_ble_eq_true rfl⟩ hlk (by rw [spT, if_pos hax] <;> simp [wiF, hcl, c_1]) (by decide) rfl
    · skip
      refine lv_iload_n hx hb dX5_step_12 rfl (lv_at hl 3 rfl) ?_
      refine lv_bipush (v := 24) hx hb dX5_step_13 (by decide) ?_
      refine lv_icmp_gt (tgt := 22) hx hb dX5_step_15 (by decide) (fun c_2 => ?_) (fun c_2 => ?_)
      · skip
        exact end_xt (cls := eA) (text := "steps is out of range or 0") (k := 2) hx hb hnt hown hts (hl.1.trans hml.symm) hXW hP hS (fun h => h) (by decide +kernel) q_297 q_10 xg_A xb_A xo_A (by decide +kernel) dX5_step_22 dX5_step_25 dX5_step_26 dX5_step_28 dX5_step_31 hxt ⟨Nat.le_of_ble_eq_true rfl, Nat.le_of_ble_eq_true rfl, Nat.le_of_ble_eq_true rfl, Nat.le_of_ble_eq_true rfl⟩ hlk (by rw [spT, if_pos hax] <;> simp [wiF, hcl, c_1, c_2]) (by decide) rfl
      · skip
        refine lv_iload_n hx hb dX5_step_18 rfl (lv_at hl 3 rfl) ?_
        refine lv_if_ne (tgt := 32) hx hb dX5_step_19 (by decide) (fun c_3 => ?_) (fun c_3 => ?_)
        · skip
          have hne0 := c_3
          have hw24 : wiF p1 (-24) 24 = true := by simp [wiF, hax, hcl, c_1, c_2, c_3]
          refine lv_iload_n hx hb dX5_step_32 rfl (lv_at hl 3 rfl) ?_
          refine lv_if_le (tgt := 40) hx hb dX5_step_33 (by decide) (fun c_4 => ?_) (fun c_4 => ?_)
          · skip
            replace c_4 := ge_n c_4
            have hsp := spU_f c_4
            have hps := c_4
            refine lv_iconst (v := 0) hx hb dX5_step_40 (by decide) ?_
            refine cs_p (runS (As := [.int (bI false)]) (rest := []) ⟨hx, hb, hml, hown, hts⟩ (m_X5_wayOf l D kA ad X false ) q_313 q_314 q_1 q_315 hd_X5_wayOf ⟨rfl, rfl⟩ ⟨Nat.le_of_ble_eq_true rfl, Nat.le_of_ble_eq_true rfl⟩ hK (ws := (cw kA ad X)) hP hD rfl hl.1 rfl (Nat.le_of_ble_eq_true rfl) dX5_step_41 ⟨Nat.zero_le _, Nat.zero_le _⟩) ?_
            refine lv_istore (lv' := [(4, .int (wI false)), (3, .ref (gA ad 0 a)), (0, .ref (ad 0)), (1, .int (nI a)), (2, .int p1)]) hx hb dX5_step_44 hl (by decide) rfl (fun ls hl => ?_)
            refine lv_aload_n hx hb dX5_step_46 rfl (lv_at hl 2 rfl) ?_
            refine lv_aload_n hx hb dX5_step_47 rfl (lv_at hl 1 rfl) ?_
            refine lv_iload hx hb dX5_step_48 (lv_at hl 0 rfl) ?_
            refine cs_p (runV (As := [.ref (gA ad 0 a), .int (wI false)]) (rest := []) ⟨hx, hb, hml, hown, hts⟩ (m_X5_canStep l D kA ad X a (wI false) (ha)) q_316 q_318 qp_2 q_1 q_319 hd_X5_canStep ⟨rfl, rfl⟩ ⟨Nat.le_of_ble_eq_true rfl, Nat.le_of_ble_eq_true rfl⟩ hK (ws := (cw kA ad X)) hP hD _ (ci := 5) (C := RX5) (T := TX5) (N := 6) rfl (cw_arm (kA := kA) (ad := ad) (X := X)) rfl hl.1 rfl (Nat.le_of_ble_eq_true rfl) dX5_step_50 ⟨Nat.zero_le _, Nat.zero_le _⟩) ?_
            refine lv_if_ne (tgt := 66) hx hb dX5_step_53 (by decide) (fun c_5 => ?_) (fun c_5 => ?_)
            · skip
              replace c_5 := bI_n0 c_5
              refine lv_aload_n hx hb dX5_step_66 rfl (lv_at hl 2 rfl) ?_
              refine va_get (ci := 5) (v := .ref (ad 1)) (C := RX5) (T := TX5) (N := 6) hx hb hts inX5 hown hK hP _ (cw_arm (kA := kA) (ad := ad) (X := X)) rfl 1 (by decide) (hts _ q_171) (fun _ h9 => h9) rfl dX5_step_67 ?_
              refine lv_aload_n hx hb dX5_step_70 rfl (lv_at hl 2 rfl) ?_
              refine va_get (ci := 5) (v := .ref (sA ad 0)) (C := RX5) (T := TX5) (N := 6) hx hb hts inX5 hown hK hP _ (cw_arm (kA := kA) (ad := ad) (X := X)) rfl 0 (by decide) (hts _ q_170) (fun _ h9 => h9) rfl dX5_step_71 ?_
              refine cs_fn (runV (As := [.ref (sA ad 0)]) (rest := []) ⟨hx, hb, hml, hown, hts⟩ (m_X1_save l D kA ad X w (hsw) (hsw6)) q_351 q_352 q_353 q_5 q_354 hd_X1_save ⟨rfl, rfl⟩ ⟨Nat.le_of_ble_eq_true rfl, Nat.le_of_ble_eq_true rfl⟩ hK (ws := (cw kA ad X)) hP hD _ (ci := 1) (C := RX1) (T := TX1) (N := 3) rfl (cw_hist (kA := kA) (ad := ad) (X := X)) rfl hl.1 rfl (Nat.le_of_ble_eq_true rfl) dX5_step_74 ⟨Nat.zero_le _, Nat.zero_le _⟩) hS (fun _ h => cw_Aw h) (fun H locs hP _ hS => ?_)
              have hD := cw_D (X' := svX X w) hD
              refine lv_aload_n hx hb dX5_step_77 rfl (lv_at hl 2 rfl) ?_
              refine lv_aload_n hx hb dX5_step_78 rfl (lv_at hl 1 rfl) ?_
              refine lv_iload hx hb dX5_step_79 (lv_at hl 0 rfl) ?_
              refine lv_iload_n hx hb dX5_step_81 rfl (lv_at hl 4 rfl) ?_
              refine lv_if_le (tgt := 89) hx hb dX5_step_82 (by decide) (fun c_6 => ?_) (fun c_6 => ?_)
              · skip
                replace c_6 := ge_n c_6
                refine lv_iload_n hx hb dX5_step_89 rfl (lv_at hl 4 rfl) ?_
                refine lv_ineg hx hb dX5_step_90 ?_
                refine cs_fs (runV (As := [.ref (gA ad 0 a), .int (wI false), .int (-p1)]) (rest := []) ⟨hx, hb, hml, hown, hts⟩ (m_X5_makeSteps l D kA ad (svX X w) a (wI false) (-p1) p1.toInt.natAbs (ha) (nAn (lt_of hne0 hps) (wi24 hw24)) (Nat.lt_of_lt_of_le (wi24 hw24) (by omega))) q_379 q_381 qp_3 q_1 q_382 hd_X5_makeSteps ⟨rfl, rfl⟩ ⟨Nat.le_of_ble_eq_true rfl, Nat.le_of_ble_eq_true rfl⟩ hK (ws := (cw kA ad (svX X w))) hP hD _ (ci := 5) (C := RX5) (T := TX5) (N := 6) rfl (cw_arm (kA := kA) (ad := ad) (X := svX X w)) rfl hl.1 rfl (Nat.le_of_ble_eq_true rfl) dX5_step_91 ⟨Nat.zero_le _, Nat.zero_le _⟩) hS (fun _ h => cw_Aw h) (fun H locs hP _ hS => ?_)
                have hD := cw_D (X' := up2 (svX X w) 0 (msL a (wI false) p1.toInt.natAbs (((svX X w) 0)) 0).2) hD
                have hP : va_P D vwCl (cw kA ad (up2 (svX X w) 0 (msL a (wI false) p1.toInt.natAbs (((svX X w) 0)) 0).2)) H := hP
                refine W_top (v' := .int ((msL a (wI false) p1.toInt.natAbs (((svX X w) 0)) 0).1)) rfl ?_
                exact end_xi hx hb hrt hlk hP hS (by rw [spT, if_pos hax] <;> simp [wiF, hcl, c_1, c_2, c_3, hw24, c_4, hsp, c_5, c_6]) (by rw [hsp]) (fun h => by rw [hsp]; exact h) dX5_step_94
              · exact absurd (nge_l c_6) c_4
            · skip
              replace c_5 := bI_0.mp c_5
              exact end_xt (cls := eS) (text := "the first step cannot be made") (k := 3) hx hb hnt hown hts (hl.1.trans hml.symm) hXW hP hS (fun h => h) (by decide +kernel) q_335 q_11 xg_S xb_S xo_S (by decide +kernel) dX5_step_56 dX5_step_59 dX5_step_60 dX5_step_62 dX5_step_65 hxt ⟨Nat.le_of_ble_eq_true rfl, Nat.le_of_ble_eq_true rfl, Nat.le_of_ble_eq_true rfl, Nat.le_of_ble_eq_true rfl⟩ hlk (by rw [spT, if_pos hax] <;> simp [wiF, hcl, c_1, c_2, c_3, hw24, c_4, hsp, c_5]) (by decide) rfl
          · skip
            replace c_4 := nge_l c_4
            have hsp := spU_t c_4
            have hps := c_4
            refine lv_iconst (v := 1) hx hb dX5_step_36 (by decide) ?_
            refine lv_goto (tgt := 41) hx hb dX5_step_37 (by decide) ?_
            refine cs_p (runS (As := [.int (bI true)]) (rest := []) ⟨hx, hb, hml, hown, hts⟩ (m_X5_wayOf l D kA ad X true ) q_313 q_314 q_1 q_315 hd_X5_wayOf ⟨rfl, rfl⟩ ⟨Nat.le_of_ble_eq_true rfl, Nat.le_of_ble_eq_true rfl⟩ hK (ws := (cw kA ad X)) hP hD rfl hl.1 rfl (Nat.le_of_ble_eq_true rfl) dX5_step_41 ⟨Nat.zero_le _, Nat.zero_le _⟩) ?_
            refine lv_istore (lv' := [(4, .int (wI true)), (3, .ref (gA ad 0 a)), (0, .ref (ad 0)), (1, .int (nI a)), (2, .int p1)]) hx hb dX5_step_44 hl (by decide) rfl (fun ls hl => ?_)
            refine lv_aload_n hx hb dX5_step_46 rfl (lv_at hl 2 rfl) ?_
            refine lv_aload_n hx hb dX5_step_47 rfl (lv_at hl 1 rfl) ?_
            refine lv_iload hx hb dX5_step_48 (lv_at hl 0 rfl) ?_
            refine cs_p (runV (As := [.ref (gA ad 0 a), .int (wI true)]) (rest := []) ⟨hx, hb, hml, hown, hts⟩ (m_X5_canStep l D kA ad X a (wI true) (ha)) q_316 q_318 qp_2 q_1 q_319 hd_X5_canStep ⟨rfl, rfl⟩ ⟨Nat.le_of_ble_eq_true rfl, Nat.le_of_ble_eq_true rfl⟩ hK (ws := (cw kA ad X)) hP hD _ (ci := 5) (C := RX5) (T := TX5) (N := 6) rfl (cw_arm (kA := kA) (ad := ad) (X := X)) rfl hl.1 rfl (Nat.le_of_ble_eq_true rfl) dX5_step_50 ⟨Nat.zero_le _, Nat.zero_le _⟩) ?_
            refine lv_if_ne (tgt := 66) hx hb dX5_step_53 (by decide) (fun c_7 => ?_) (fun c_7 => ?_)
            · skip
              replace c_7 := bI_n0 c_7
              refine lv_aload_n hx hb dX5_step_66 rfl (lv_at hl 2 rfl) ?_
              refine va_get (ci := 5) (v := .ref (ad 1)) (C := RX5) (T := TX5) (N := 6) hx hb hts inX5 hown hK hP _ (cw_arm (kA := kA) (ad := ad) (X := X)) rfl 1 (by decide) (hts _ q_171) (fun _ h9 => h9) rfl dX5_step_67 ?_
              refine lv_aload_n hx hb dX5_step_70 rfl (lv_at hl 2 rfl) ?_
              refine va_get (ci := 5) (v := .ref (sA ad 0)) (C := RX5) (T := TX5) (N := 6) hx hb hts inX5 hown hK hP _ (cw_arm (kA := kA) (ad := ad) (X := X)) rfl 0 (by decide) (hts _ q_170) (fun _ h9 => h9) rfl dX5_step_71 ?_
              refine cs_fn (runV (As := [.ref (sA ad 0)]) (rest := []) ⟨hx, hb, hml, hown, hts⟩ (m_X1_save l D kA ad X w (hsw) (hsw6)) q_351 q_352 q_353 q_5 q_354 hd_X1_save ⟨rfl, rfl⟩ ⟨Nat.le_of_ble_eq_true rfl, Nat.le_of_ble_eq_true rfl⟩ hK (ws := (cw kA ad X)) hP hD _ (ci := 1) (C := RX1) (T := TX1) (N := 3) rfl (cw_hist (kA := kA) (ad := ad) (X := X)) rfl hl.1 rfl (Nat.le_of_ble_eq_true rfl) dX5_step_74 ⟨Nat.zero_le _, Nat.zero_le _⟩) hS (fun _ h => cw_Aw h) (fun H locs hP _ hS => ?_)
              have hD := cw_D (X' := svX X w) hD
              refine lv_aload_n hx hb dX5_step_77 rfl (lv_at hl 2 rfl) ?_
              refine lv_aload_n hx hb dX5_step_78 rfl (lv_at hl 1 rfl) ?_
              refine lv_iload hx hb dX5_step_79 (lv_at hl 0 rfl) ?_
              refine lv_iload_n hx hb dX5_step_81 rfl (lv_at hl 4 rfl) ?_
              refine lv_if_le (tgt := 89) hx hb dX5_step_82 (by decide) (fun c_8 => ?_) (fun c_8 => ?_)
              · exact absurd c_4 (ge_n c_8)
              · skip
                replace c_8 := nge_l c_8
                refine lv_iload_n hx hb dX5_step_85 rfl (lv_at hl 4 rfl) ?_
                refine lv_goto (tgt := 91) hx hb dX5_step_86 (by decide) ?_
                refine cs_fs (runV (As := [.ref (gA ad 0 a), .int (wI true), .int p1]) (rest := []) ⟨hx, hb, hml, hown, hts⟩ (m_X5_makeSteps l D kA ad (svX X w) a (wI true) p1 p1.toInt.natAbs (ha) (nAp hps) (Nat.lt_of_lt_of_le (wi24 hw24) (by omega))) q_379 q_381 qp_3 q_1 q_382 hd_X5_makeSteps ⟨rfl, rfl⟩ ⟨Nat.le_of_ble_eq_true rfl, Nat.le_of_ble_eq_true rfl⟩ hK (ws := (cw kA ad (svX X w))) hP hD _ (ci := 5) (C := RX5) (T := TX5) (N := 6) rfl (cw_arm (kA := kA) (ad := ad) (X := svX X w)) rfl hl.1 rfl (Nat.le_of_ble_eq_true rfl) dX5_step_91 ⟨Nat.zero_le _, Nat.zero_le _⟩) hS (fun _ h => cw_Aw h) (fun H locs hP _ hS => ?_)
                have hD := cw_D (X' := up2 (svX X w) 0 (msL a (wI true) p1.toInt.natAbs (((svX X w) 0)) 0).2) hD
                have hP : va_P D vwCl (cw kA ad (up2 (svX X w) 0 (msL a (wI true) p1.toInt.natAbs (((svX X w) 0)) 0).2)) H := hP
                refine W_top (v' := .int ((msL a (wI true) p1.toInt.natAbs (((svX X w) 0)) 0).1)) rfl ?_
                exact end_xi hx hb hrt hlk hP hS (by rw [spT, if_pos hax] <;> simp [wiF, hcl, c_1, c_2, c_3, hw24, c_4, hsp, c_7, c_8]) (by rw [hsp]) (fun h => by rw [hsp]; exact h) dX5_step_94
            · skip
              replace c_7 := bI_0.mp c_7
              exact end_xt (cls := eS) (text := "the first step cannot be made") (k := 3) hx hb hnt hown hts (hl.1.trans hml.symm) hXW hP hS (fun h => h) (by decide +kernel) q_335 q_11 xg_S xb_S xo_S (by decide +kernel) dX5_step_56 dX5_step_59 dX5_step_60 dX5_step_62 dX5_step_65 hxt ⟨Nat.le_of_ble_eq_true rfl, Nat.le_of_ble_eq_true rfl, Nat.le_of_ble_eq_true rfl, Nat.le_of_ble_eq_true rfl⟩ hlk (by rw [spT, if_pos hax] <;> simp [wiF, hcl, c_1, c_2, c_3, hw24, c_4, hsp, c_7]) (by decide) rfl
        · skip
          exact end_xt (cls := eA) (text := "steps is out of range or 0") (k := 2) hx hb hnt hown hts (hl.1.trans hml.symm) hXW hP hS (fun h => h) (by decide +kernel) q_297 q_10 xg_A xb_A xo_A (by decide +kernel) dX5_step_22 dX5_step_25 dX5_step_26 dX5_step_28 dX5_step_31 hxt ⟨Nat.le_of_ble_eq_true rfl, Nat.le_of_ble_eq_true rfl, Nat.le_of_ble_eq_true rfl, Nat.le_of_ble_eq_true rfl⟩ hlk (by rw [spT, if_pos hax] <;> simp [wiF, hcl, c_1, c_2, c_3]) (by decide) rfl
  · skip
    refine lv_aload_n hx hb dX5_step_0 rfl (lv_at hl 0 rfl) ?_
    refine lv_iload_n hx hb dX5_step_1 rfl (lv_at hl 1 rfl) ?_
    have hTk : (spT (X 0) p0 p1) = 1 := by rw [spT, if_neg hax] <;> simp [wiF]
    exact cs_xt (xrunV (As := [.int p0]) (rest := []) ⟨hx, hb, hml, hown, hts⟩ (m_X5_gearOf_x l D kA ad X p0 (ax_bad hax) hnt) q_221 q_223 qp_0 q_1 q_224 hd_X5_gearOf ⟨rfl, rfl⟩ ⟨Nat.le_of_ble_eq_true rfl, Nat.le_of_ble_eq_true rfl⟩ hK (ws := cw kA ad X) hP hD (hXW.kept hS.2.1) _ (ci := 5) (C := RX5) (Tt := TX5) (N := 6) rfl (cw_arm (kA := kA) (ad := ad) (X := X)) rfl hl.1 rfl (Nat.le_of_ble_eq_true rfl) dX5_step_2 ⟨Nat.le_of_ble_eq_true rfl, Nat.le_of_ble_eq_true rfl⟩) hS (by decide) hxt hlk (fun _ h => h) (by rw [hTk]; decide) (by rw [hTk] <;> rfl)

