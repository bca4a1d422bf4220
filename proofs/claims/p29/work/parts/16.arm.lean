theorem hd_X5_wayOf : yX5_wayOf.cls ≠ "java/lang/invoke/MethodHandle" ∧ yX5_wayOf.cls ≠ "java/lang/invoke/VarHandle" ∧ (parseMethodDescriptor yX5_wayOf.desc).map (fun d => d.parameters.length) = some 1 := by decide +kernel
set_option maxRecDepth 100000 in
set_option maxHeartbeats 4000000 in
theorem m_X5_wayOf (l : Launch) (D : va_G) (kA : Nat → Nat) (ad : Nat → Nat) (X : Nat → Nat → Int32) (b : Bool) : Met l yX5_wayOf (Cond.code yX5_wayOf cX5_wayOf 1 (some .int) :: AW) ({ frames := 0, cells := 0, slots := 0, locals := 0 } : Room) (Pz [.int (bI b)] D (TY kA) (cw kA ad X)) (pQ (some (.int (wI b)))) 0 0 (fun _ => False) := by
  refine MetZ (by decide +kernel) (Nat.le_of_ble_eq_true rfl) ?_
  intro p e s m below meth c ls hx hb hrt hts hown hml hlk hnm hP hK hD hS hl
  have hl : lv_has ls 1 [(0, .int (bI b))] := hl
  refine lv_iload_n hx hb dX5_wayOf_0 rfl (lv_at hl 0 rfl) ?_
  refine lv_if_eq (tgt := 8) hx hb dX5_wayOf_1 (by decide) (fun c_1 => ?_) (fun c_1 => ?_)
  · skip
    replace c_1 := bI_0.mp c_1
    refine lv_iconst (v := (-1)) hx hb dX5_wayOf_8 (by decide) ?_
    exact end_pi hx hb hrt hlk (by first | rfl | (rw [wI, if_neg (by rw [c_1]; decide)]; done) | (simp only [wI, c_1, ↓reduceIte, bI]; done) | (simp only [wI, c_1, ↓reduceIte, bI]; rfl) | (simp [wI, c_1, bI]; done)) dX5_wayOf_9
  · skip
    replace c_1 := bI_n0 c_1
    refine lv_iconst (v := 1) hx hb dX5_wayOf_4 (by decide) ?_
    refine lv_goto (tgt := 9) hx hb dX5_wayOf_5 (by decide) ?_
    exact end_pi hx hb hrt hlk (by first | rfl | (rw [wI, if_pos c_1]; done) | (simp only [wI, c_1, ↓reduceIte, bI]; done) | (simp only [wI, c_1, ↓reduceIte, bI]; rfl) | (simp [wI, c_1, bI]; done)) dX5_wayOf_9

theorem hd_X5_canStep : yX5_canStep.cls ≠ "java/lang/invoke/MethodHandle" ∧ yX5_canStep.cls ≠ "java/lang/invoke/VarHandle" ∧ (parseMethodDescriptor yX5_canStep.desc).map (fun d => d.parameters.length) = some 2 := by decide +kernel
set_option maxRecDepth 100000 in
set_option maxHeartbeats 4000000 in
theorem m_X5_canStep (l : Launch) (D : va_G) (kA : Nat → Nat) (ad : Nat → Nat) (X : Nat → Nat → Int32) (a : Nat) (p0 : Int32) (ha : a < 4) : Met l yX5_canStep (Cond.code yX5_canStep cX5_canStep 3 (some .boolean) :: AW) ({ frames := 2, cells := 0, slots := 0, locals := 46 } : Room) (Pz [.ref (ad 0), .ref (gA ad 0 a), .int p0] D (TY kA) (cw kA ad X)) (pQ (some (.int (bI (canF (X 0) a p0))))) 0 0 (fun _ => False) := by
  refine MetZ (by decide +kernel) (Nat.le_of_ble_eq_true rfl) ?_
  intro p e s m below meth c ls hx hb hrt hts hown hml hlk hnm hP hK hD hS hl
  have hl : lv_has ls 3 [(0, .ref (ad 0)), (1, .ref (gA ad 0 a)), (2, .int p0)] := hl
  refine lv_aload_n hx hb dX5_canStep_0 rfl (lv_at hl 1 rfl) ?_
  refine lv_iload_n hx hb dX5_canStep_1 rfl (lv_at hl 2 rfl) ?_
  refine lv_aload_n hx hb dX5_canStep_2 rfl (lv_at hl 0 rfl) ?_
  refine va_get (ci := 5) (v := .ref (sA ad 0)) (C := RX5) (T := TX5) (N := 6) hx hb hts inX5 hown hK hP _ (cw_arm (kA := kA) (ad := ad) (X := X)) rfl 0 (by decide) (hts _ q_170) (fun _ h9 => h9) rfl dX5_canStep_3 ?_
  refine va_get (ci := 4) (v := .ref (rA ad 0)) (C := RX4) (T := TX4) (N := 4) hx hb hts inX4 hown hK hP _ (cw_state (kA := kA) (ad := ad) (X := X) (r := 0) (by omega)) rfl 0 (by decide) (hts _ q_114) (fun _ h9 => h9) rfl dX5_canStep_6 ?_
  refine cs_p (runV (As := [.int p0, .ref (rA ad 0)]) (rest := []) ⟨hx, hb, hml, hown, hts⟩ (m_X0_tollOfStep l D kA (gA ad 0 a) (wA ad 0 a) (sl ((X 0)) a) (rA ad 0) (X 0) p0 ) q_320 q_321 q_322 q_4 q_323 hd_X0_tollOfStep ⟨rfl, rfl⟩ ⟨Nat.le_of_ble_eq_true rfl, Nat.le_of_ble_eq_true rfl⟩ hK (ws := [((gA ad 0 a), gC (wA ad 0 a) (sl ((X 0)) a)), ((wA ad 0 a), wC kA (sl ((X 0)) a)), ((rA ad 0), rC (X 0))]) (P3 hP (cw_gear (kA := kA) (ad := ad) (X := X) (r := 0) (a := a) (by omega) (by omega)) (cw_wears (kA := kA) (ad := ad) (X := X) (r := 0) (a := a) (by omega) (by omega)) (cw_rules (kA := kA) (ad := ad) (X := X) (r := 0) (by omega))) (D3 hD (cw_gear (kA := kA) (ad := ad) (X := X) (r := 0) (a := a) (by omega) (by omega)) (cw_wears (kA := kA) (ad := ad) (X := X) (r := 0) (a := a) (by omega) (by omega)) (cw_rules (kA := kA) (ad := ad) (X := X) (r := 0) (by omega)) (by omega) (by omega) (by omega)) 0 (ci := 0) (C := RX0) (T := TX0) (N := 12) rfl rfl rfl hl.1 rfl (Nat.le_of_ble_eq_true rfl) dX5_canStep_9 ⟨Nat.zero_le _, Nat.zero_le _⟩) ?_
  refine lv_aload_n hx hb dX5_canStep_12 rfl (lv_at hl 0 rfl) ?_
  refine va_get (ci := 5) (v := .ref (sA ad 0)) (C := RX5) (T := TX5) (N := 6) hx hb hts inX5 hown hK hP _ (cw_arm (kA := kA) (ad := ad) (X := X)) rfl 0 (by decide) (hts _ q_170) (fun _ h9 => h9) rfl dX5_canStep_13 ?_
  refine va_get (ci := 4) (v := .int ((X 0) 6)) (C := RX4) (T := TX4) (N := 4) hx hb hts inX4 hown hK hP _ (cw_state (kA := kA) (ad := ad) (X := X) (r := 0) (by omega)) rfl 2 (by decide) (hts _ q_117) (fun _ h9 => h9) rfl dX5_canStep_16 ?_
  refine lv_icmp_gt (tgt := 26) hx hb dX5_canStep_19 (by decide) (fun c_1 => ?_) (fun c_1 => ?_)
  · skip
    refine lv_iconst (v := 0) hx hb dX5_canStep_26 (by decide) ?_
    exact end_pz hx hb hrt hlk (by decide) (by first | rfl | (rw [canF, if_pos c_1]; done) | (simp only [canF, c_1, ↓reduceIte, bI]; done) | (simp only [canF, c_1, ↓reduceIte, bI]; rfl) | (simp [canF, c_1, bI]; done)) dX5_canStep_27
  · skip
    refine lv_iconst (v := 1) hx hb dX5_canStep_22 (by decide) ?_
    refine lv_goto (tgt := 27) hx hb dX5_canStep_23 (by decide) ?_
    exact end_pz hx hb hrt hlk (by decide) (by first | rfl | (rw [canF, if_neg c_1]; done) | (simp only [canF, c_1, ↓reduceIte, bI]; done) | (simp only [canF, c_1, ↓reduceIte, bI]; rfl) | (simp [canF, c_1, bI]; done)) dX5_canStep_27

theorem hd_X5_cheaperWay : yX5_cheaperWay.cls ≠ "java/lang/invoke/MethodHandle" ∧ yX5_cheaperWay.cls ≠ "java/lang/invoke/VarHandle" ∧ (parseMethodDescriptor yX5_cheaperWay.desc).map (fun d => d.parameters.length) = some 2 := by decide +kernel
set_option maxRecDepth 100000 in
set_option maxHeartbeats 4000000 in
theorem m_X5_cheaperWay (l : Launch) (D : va_G) (kA : Nat → Nat) (ad : Nat → Nat) (X : Nat → Nat → Int32) (a : Nat) (p0 : Int32) (ha : a < 4) : Met l yX5_cheaperWay (Cond.code yX5_cheaperWay cX5_cheaperWay 5 (some .int) :: AW) ({ frames := 2, cells := 0, slots := 0, locals := 53 } : Room) (Pz [.ref (ad 0), .ref (gA ad 0 a), .int p0] D (TY kA) (cw kA ad X)) (pQ (some (.int (chF (X 0) a p0)))) 0 0 (fun _ => False) := by
  refine MetZ (by decide +kernel) (Nat.le_of_ble_eq_true rfl) ?_
  intro p e s m below meth c ls hx hb hrt hts hown hml hlk hnm hP hK hD hS hl
  have hl : lv_has ls 5 [(0, .ref (ad 0)), (1, .ref (gA ad 0 a)), (2, .int p0)] := hl
  refine lv_aload_n hx hb dX5_cheaperWay_0 rfl (lv_at hl 1 rfl) ?_
  refine lv_iload_n hx hb dX5_cheaperWay_1 rfl (lv_at hl 2 rfl) ?_
  refine lv_iconst (v := 1) hx hb dX5_cheaperWay_2 (by decide) ?_
  refine lv_iconst (v := (-1)) hx hb dX5_cheaperWay_3 (by decide) ?_
  refine lv_aload_n hx hb dX5_cheaperWay_4 rfl (lv_at hl 0 rfl) ?_
  refine va_get (ci := 5) (v := .ref (sA ad 0)) (C := RX5) (T := TX5) (N := 6) hx hb hts inX5 hown hK hP _ (cw_arm (kA := kA) (ad := ad) (X := X)) rfl 0 (by decide) (hts _ q_170) (fun _ h9 => h9) rfl dX5_cheaperWay_5 ?_
  refine va_get (ci := 4) (v := .ref (rA ad 0)) (C := RX4) (T := TX4) (N := 4) hx hb hts inX4 hown hK hP _ (cw_state (kA := kA) (ad := ad) (X := X) (r := 0) (by omega)) rfl 0 (by decide) (hts _ q_114) (fun _ h9 => h9) rfl dX5_cheaperWay_8 ?_
  refine cs_p (runV (As := [.int p0, .int 1, .int (-1), .ref (rA ad 0)]) (rest := []) ⟨hx, hb, hml, hown, hts⟩ (m_X0_costOfWay l D kA (gA ad 0 a) (wA ad 0 a) (sl ((X 0)) a) (rA ad 0) (X 0) p0 1 (-1) ) q_412 q_413 q_414 q_4 q_415 hd_X0_costOfWay ⟨rfl, rfl⟩ ⟨Nat.le_of_ble_eq_true rfl, Nat.le_of_ble_eq_true rfl⟩ hK (ws := [((gA ad 0 a), gC (wA ad 0 a) (sl ((X 0)) a)), ((wA ad 0 a), wC kA (sl ((X 0)) a)), ((rA ad 0), rC (X 0))]) (P3 hP (cw_gear (kA := kA) (ad := ad) (X := X) (r := 0) (a := a) (by omega) (by omega)) (cw_wears (kA := kA) (ad := ad) (X := X) (r := 0) (a := a) (by omega) (by omega)) (cw_rules (kA := kA) (ad := ad) (X := X) (r := 0) (by omega))) (D3 hD (cw_gear (kA := kA) (ad := ad) (X := X) (r := 0) (a := a) (by omega) (by omega)) (cw_wears (kA := kA) (ad := ad) (X := X) (r := 0) (a := a) (by omega) (by omega)) (cw_rules (kA := kA) (ad := ad) (X := X) (r := 0) (by omega)) (by omega) (by omega) (by omega)) 0 (ci := 0) (C := RX0) (T := TX0) (N := 12) rfl rfl rfl hl.1 rfl (Nat.le_of_ble_eq_true rfl) dX5_cheaperWay_11 ⟨Nat.zero_le _, Nat.zero_le _⟩) ?_
  refine lv_istore_n (lv' := [(3, .int (costG (sl ((X 0)) a) (X 0) p0 1 (-1))), (0, .ref (ad 0)), (1, .ref (gA ad 0 a)), (2, .int p0)]) hx hb dX5_cheaperWay_14 rfl hl (by decide) rfl (fun ls hl => ?_)
  refine lv_aload_n hx hb dX5_cheaperWay_15 rfl (lv_at hl 2 rfl) ?_
  refine lv_iload_n hx hb dX5_cheaperWay_16 rfl (lv_at hl 3 rfl) ?_
  refine lv_iconst (v := (-1)) hx hb dX5_cheaperWay_17 (by decide) ?_
  refine lv_iconst (v := (-1)) hx hb dX5_cheaperWay_18 (by decide) ?_
  refine lv_aload_n hx hb dX5_cheaperWay_19 rfl (lv_at hl 1 rfl) ?_
  refine va_get (ci := 5) (v := .ref (sA ad 0)) (C := RX5) (T := TX5) (N := 6) hx hb hts inX5 hown hK hP _ (cw_arm (kA := kA) (ad := ad) (X := X)) rfl 0 (by decide) (hts _ q_170) (fun _ h9 => h9) rfl dX5_cheaperWay_20 ?_
  refine va_get (ci := 4) (v := .ref (rA ad 0)) (C := RX4) (T := TX4) (N := 4) hx hb hts inX4 hown hK hP _ (cw_state (kA := kA) (ad := ad) (X := X) (r := 0) (by omega)) rfl 0 (by decide) (hts _ q_114) (fun _ h9 => h9) rfl dX5_cheaperWay_23 ?_
  refine cs_p (runV (As := [.int p0, .int (-1), .int (-1), .ref (rA ad 0)]) (rest := []) ⟨hx, hb, hml, hown, hts⟩ (m_X0_costOfWay l D kA (gA ad 0 a) (wA ad 0 a) (sl ((X 0)) a) (rA ad 0) (X 0) p0 (-1) (-1) ) q_412 q_413 q_414 q_4 q_415 hd_X0_costOfWay ⟨rfl, rfl⟩ ⟨Nat.le_of_ble_eq_true rfl, Nat.le_of_ble_eq_true rfl⟩ hK (ws := [((gA ad 0 a), gC (wA ad 0 a) (sl ((X 0)) a)), ((wA ad 0 a), wC kA (sl ((X 0)) a)), ((rA ad 0), rC (X 0))]) (P3 hP (cw_gear (kA := kA) (ad := ad) (X := X) (r := 0) (a := a) (by omega) (by omega)) (cw_wears (kA := kA) (ad := ad) (X := X) (r := 0) (a := a) (by omega) (by omega)) (cw_rules (kA := kA) (ad := ad) (X := X) (r := 0) (by omega))) (D3 hD (cw_gear (kA := kA) (ad := ad) (X := X) (r := 0) (a := a) (by omega) (by omega)) (cw_wears (kA := kA) (ad := ad) (X := X) (r := 0) (a := a) (by omega) (by omega)) (cw_rules (kA := kA) (ad := ad) (X := X) (r := 0) (by omega)) (by omega) (by omega) (by omega)) 0 (ci := 0) (C := RX0) (T := TX0) (N := 12) rfl rfl rfl hl.1 rfl (Nat.le_of_ble_eq_true rfl) dX5_cheaperWay_26 ⟨Nat.zero_le _, Nat.zero_le _⟩) ?_
  refine lv_istore (lv' := [(4, .int (costG (sl ((X 0)) a) (X 0) p0 (-1) (-1))), (3, .int (costG (sl ((X 0)) a) (X 0) p0 1 (-1))), (0, .ref (ad 0)), (1, .ref (gA ad 0 a)), (2, .int p0)]) hx hb dX5_cheaperWay_29 hl (by decide) rfl (fun ls hl => ?_)
  refine lv_iload_n hx hb dX5_cheaperWay_31 rfl (lv_at hl 1 rfl) ?_
  refine lv_iload hx hb dX5_cheaperWay_32 (lv_at hl 0 rfl) ?_
  refine lv_icmp_gt (tgt := 41) hx hb dX5_cheaperWay_34 (by decide) (fun c_1 => ?_) (fun c_1 => ?_)
  · skip
    refine lv_iconst (v := (-1)) hx hb dX5_cheaperWay_41 (by decide) ?_
    exact end_pi hx hb hrt hlk (by first | rfl | (rw [chF, if_pos c_1]; done) | (simp only [chF, c_1, ↓reduceIte, bI]; done) | (simp only [chF, c_1, ↓reduceIte, bI]; rfl) | (simp [chF, c_1, bI]; done)) dX5_cheaperWay_42
  · skip
    refine lv_iconst (v := 1) hx hb dX5_cheaperWay_37 (by decide) ?_
    refine lv_goto (tgt := 42) hx hb dX5_cheaperWay_38 (by decide) ?_
    exact end_pi hx hb hrt hlk (by first | rfl | (rw [chF, if_neg c_1]; done) | (simp only [chF, c_1, ↓reduceIte, bI]; done) | (simp only [chF, c_1, ↓reduceIte, bI]; rfl) | (simp [chF, c_1, bI]; done)) dX5_cheaperWay_42

theorem hd_X5_canGo : yX5_canGo.cls ≠ "java/lang/invoke/MethodHandle" ∧ yX5_canGo.cls ≠ "java/lang/invoke/VarHandle" ∧ (parseMethodDescriptor yX5_canGo.desc).map (fun d => d.parameters.length) = some 2 := by decide +kernel
set_option maxRecDepth 100000 in
set_option maxHeartbeats 4000000 in
theorem m_X5_canGo (l : Launch) (D : va_G) (kA : Nat → Nat) (ad : Nat → Nat) (X : Nat → Nat → Int32) (a : Nat) (p0 : Int32) (ha : a < 4) : Met l yX5_canGo (Cond.code yX5_canGo cX5_canGo 3 (some .boolean) :: AW) ({ frames := 3, cells := 0, slots := 0, locals := 77 } : Room) (Pz [.ref (ad 0), .ref (gA ad 0 a), .int p0] D (TY kA) (cw kA ad X)) (pQ (some (.int (bI (cgF (X 0) a p0))))) 0 0 (fun _ => False) := by
  refine MetZ (by decide +kernel) (Nat.le_of_ble_eq_true rfl) ?_
  intro p e s m below meth c ls hx hb hrt hts hown hml hlk hnm hP hK hD hS hl
  have hl : lv_has ls 3 [(0, .ref (ad 0)), (1, .ref (gA ad 0 a)), (2, .int p0)] := hl
  refine lv_aload_n hx hb dX5_canGo_0 rfl (lv_at hl 1 rfl) ?_
  refine va_get (ci := 0) (v := .int (sl ((X 0)) a 1)) (C := RX0) (T := TX0) (N := 12) hx hb hts inX0 hown hK hP _ (cw_gear (kA := kA) (ad := ad) (X := X) (r := 0) (a := a) (by omega) (by omega)) rfl 2 (by decide) (hts _ q_73) (fun _ h9 => h9) rfl dX5_canGo_1 ?_
  refine lv_iload_n hx hb dX5_canGo_4 rfl (lv_at hl 2 rfl) ?_
  refine lv_icmp_eq (tgt := 22) hx hb dX5_canGo_5 (by decide) (fun c_1 => ?_) (fun c_1 => ?_)
  · skip
    refine lv_iconst (v := 1) hx hb dX5_canGo_22 (by decide) ?_
    refine lv_goto (tgt := 27) hx hb dX5_canGo_23 (by decide) ?_
    exact end_pz hx hb hrt hlk (by decide) (by first | rfl | (rw [cgF, if_pos c_1]; done) | (simp only [cgF, c_1, ↓reduceIte, bI]; done) | (simp only [cgF, c_1, ↓reduceIte, bI]; rfl) | (simp [cgF, c_1, bI]; done)) dX5_canGo_27
  · skip
    refine lv_aload_n hx hb dX5_canGo_8 rfl (lv_at hl 0 rfl) ?_
    refine lv_aload_n hx hb dX5_canGo_9 rfl (lv_at hl 1 rfl) ?_
    refine lv_aload_n hx hb dX5_canGo_10 rfl (lv_at hl 0 rfl) ?_
    refine lv_aload_n hx hb dX5_canGo_11 rfl (lv_at hl 1 rfl) ?_
    refine lv_iload_n hx hb dX5_canGo_12 rfl (lv_at hl 2 rfl) ?_
    refine cs_p (runV (As := [.ref (gA ad 0 a), .int p0]) (rest := [.ref (gA ad 0 a), .ref (ad 0)]) ⟨hx, hb, hml, hown, hts⟩ (m_X5_cheaperWay l D kA ad X a p0 (ha)) q_424 q_426 qp_5 q_1 q_427 hd_X5_cheaperWay ⟨rfl, rfl⟩ ⟨Nat.le_of_ble_eq_true rfl, Nat.le_of_ble_eq_true rfl⟩ hK (ws := (cw kA ad X)) hP hD _ (ci := 5) (C := RX5) (T := TX5) (N := 6) rfl (cw_arm (kA := kA) (ad := ad) (X := X)) rfl hl.1 rfl (Nat.le_of_ble_eq_true rfl) dX5_canGo_13 ⟨Nat.zero_le _, Nat.zero_le _⟩) ?_
    refine cs_p (runV (As := [.ref (gA ad 0 a), .int (chF (X 0) a p0)]) (rest := []) ⟨hx, hb, hml, hown, hts⟩ (m_X5_canStep l D kA ad X a (chF (X 0) a p0) (ha)) q_316 q_318 qp_2 q_1 q_319 hd_X5_canStep ⟨rfl, rfl⟩ ⟨Nat.le_of_ble_eq_true rfl, Nat.le_of_ble_eq_true rfl⟩ hK (ws := (cw kA ad X)) hP hD _ (ci := 5) (C := RX5) (T := TX5) (N := 6) rfl (cw_arm (kA := kA) (ad := ad) (X := X)) rfl hl.1 rfl (Nat.le_of_ble_eq_true rfl) dX5_canGo_16 ⟨Nat.zero_le _, Nat.zero_le _⟩) ?_
    refine lv_if_eq (tgt := 26) hx hb dX5_canGo_19 (by decide) (fun c_2 => ?_) (fun c_2 => ?_)
    · skip
      replace c_2 := bI_0.mp c_2
      refine lv_iconst (v := 0) hx hb dX5_canGo_26 (by decide) ?_
      exact end_pz hx hb hrt hlk (by decide) (by first | rfl | (rw [cgF, if_neg c_1, if_neg (by rw [c_2]; decide)]; done) | (simp only [cgF, c_1, c_2, ↓reduceIte, bI]; done) | (simp only [cgF, c_1, c_2, ↓reduceIte, bI]; rfl) | (simp [cgF, c_1, c_2, bI]; done)) dX5_canGo_27
    · skip
      replace c_2 := bI_n0 c_2
      refine lv_iconst (v := 1) hx hb dX5_canGo_22 (by decide) ?_
      refine lv_goto (tgt := 27) hx hb dX5_canGo_23 (by decide) ?_
      exact end_pz hx hb hrt hlk (by decide) (by first | rfl | (rw [cgF, if_neg c_1, if_pos c_2]; done) | (simp only [cgF, c_1, c_2, ↓reduceIte, bI]; done) | (simp only [cgF, c_1, c_2, ↓reduceIte, bI]; rfl) | (simp [cgF, c_1, c_2, bI]; done)) dX5_canGo_27

theorem hd_X5_canGrease : yX5_canGrease.cls ≠ "java/lang/invoke/MethodHandle" ∧ yX5_canGrease.cls ≠ "java/lang/invoke/VarHandle" ∧ (parseMethodDescriptor yX5_canGrease.desc).map (fun d => d.parameters.length) = some 0 := by decide +kernel
set_option maxRecDepth 100000 in
set_option maxHeartbeats 4000000 in
theorem m_X5_canGrease (l : Launch) (D : va_G) (kA : Nat → Nat) (ad : Nat → Nat) (X : Nat → Nat → Int32) : Met l yX5_canGrease (Cond.code yX5_canGrease cX5_canGrease 1 (some .boolean) :: AW) ({ frames := 0, cells := 0, slots := 0, locals := 0 } : Room) (Pz [.ref (ad 0)] D (TY kA) (cw kA ad X)) (pQ (some (.int (bI (gsF (X 0)))))) 0 0 (fun _ => False) := by
  refine MetZ (by decide +kernel) (Nat.le_of_ble_eq_true rfl) ?_
  intro p e s m below meth c ls hx hb hrt hts hown hml hlk hnm hP hK hD hS hl
  have hl : lv_has ls 1 [(0, .ref (ad 0))] := hl
  refine lv_aload_n hx hb dX5_canGrease_0 rfl (lv_at hl 0 rfl) ?_
  refine va_get (ci := 5) (v := .ref (sA ad 0)) (C := RX5) (T := TX5) (N := 6) hx hb hts inX5 hown hK hP _ (cw_arm (kA := kA) (ad := ad) (X := X)) rfl 0 (by decide) (hts _ q_170) (fun _ h9 => h9) rfl dX5_canGrease_1 ?_
  refine va_get (ci := 4) (v := .int ((X 0) 6)) (C := RX4) (T := TX4) (N := 4) hx hb hts inX4 hown hK hP _ (cw_state (kA := kA) (ad := ad) (X := X) (r := 0) (by omega)) rfl 2 (by decide) (hts _ q_117) (fun _ h9 => h9) rfl dX5_canGrease_4 ?_
  refine lv_aload_n hx hb dX5_canGrease_7 rfl (lv_at hl 0 rfl) ?_
  refine va_get (ci := 5) (v := .ref (sA ad 0)) (C := RX5) (T := TX5) (N := 6) hx hb hts inX5 hown hK hP _ (cw_arm (kA := kA) (ad := ad) (X := X)) rfl 0 (by decide) (hts _ q_170) (fun _ h9 => h9) rfl dX5_canGrease_8 ?_
  refine va_get (ci := 4) (v := .ref (rA ad 0)) (C := RX4) (T := TX4) (N := 4) hx hb hts inX4 hown hK hP _ (cw_state (kA := kA) (ad := ad) (X := X) (r := 0) (by omega)) rfl 0 (by decide) (hts _ q_114) (fun _ h9 => h9) rfl dX5_canGrease_11 ?_
  refine va_get (ci := 3) (v := .int ((X 0) 5)) (C := RX3) (T := TX3) (N := 6) hx hb hts inX3 hown hK hP _ (cw_rules (kA := kA) (ad := ad) (X := X) (r := 0) (by omega)) rfl 5 (by decide) (hts _ q_47) (fun _ h9 => h9) rfl dX5_canGrease_14 ?_
  refine lv_icmp_lt (tgt := 24) hx hb dX5_canGrease_17 (by decide) (fun c_1 => ?_) (fun c_1 => ?_)
  · skip
    refine lv_iconst (v := 0) hx hb dX5_canGrease_24 (by decide) ?_
    exact end_pz hx hb hrt hlk (by decide) (by first | rfl | (rw [gsF, if_pos c_1]; done) | (simp only [gsF, c_1, ↓reduceIte, bI]; done) | (simp only [gsF, c_1, ↓reduceIte, bI]; rfl) | (simp [gsF, c_1, bI]; done)) dX5_canGrease_25
  · skip
    refine lv_iconst (v := 1) hx hb dX5_canGrease_20 (by decide) ?_
    refine lv_goto (tgt := 25) hx hb dX5_canGrease_21 (by decide) ?_
    exact end_pz hx hb hrt hlk (by decide) (by first | rfl | (rw [gsF, if_neg c_1]; done) | (simp only [gsF, c_1, ↓reduceIte, bI]; done) | (simp only [gsF, c_1, ↓reduceIte, bI]; rfl) | (simp [gsF, c_1, bI]; done)) dX5_canGrease_25

theorem hd_X5_makeSteps : yX5_makeSteps.cls ≠ "java/lang/invoke/MethodHandle" ∧ yX5_makeSteps.cls ≠ "java/lang/invoke/VarHandle" ∧ (parseMethodDescriptor yX5_makeSteps.desc).map (fun d => d.parameters.length) = some 3 := by decide +kernel
set_option maxRecDepth 100000 in
set_option maxHeartbeats 4000000 in
theorem m_X5_makeSteps (l : Launch) (D : va_G) (kA : Nat → Nat) (ad : Nat → Nat) (X : Nat → Nat → Int32) (a : Nat) (p0 : Int32) (p1 : Int32) (k : Nat) (ha : a < 4) (hm : p1 = nI k) (hk : k < 1000) : Met l yX5_makeSteps (Cond.code yX5_makeSteps cX5_makeSteps 6 (some .int) :: AW) ({ frames := 2, cells := 0, slots := 0, locals := 51 } : Room) (Pz [.ref (ad 0), .ref (gA ad 0 a), .int p0, .int p1] D (TY kA) (cw kA ad X)) (fQ (some (.int ((msL a p0 k (X 0) 0).1))) D (cw kA ad X) (cw kA ad (up2 X 0 (msL a p0 k (X 0) 0).2))) 0 0 (Aw (cw kA ad X)) := by
  refine MetZ (by decide +kernel) (Nat.le_of_ble_eq_true rfl) ?_
  intro p e s m below meth c ls hx hb hrt hts hown hml hlk hnm hP hK hD hS hl
  have hl : lv_has ls 6 [(0, .ref (ad 0)), (1, .ref (gA ad 0 a)), (2, .int p0), (3, .int p1)] := hl
  rw [← up2_self (X := X) (r := 0)] at hP hD
  refine lv_iconst (v := 0) hx hb dX5_makeSteps_0 (by decide) ?_
  refine lv_istore (lv' := [(4, .int 0), (0, .ref (ad 0)), (1, .ref (gA ad 0 a)), (2, .int p0), (3, .int p1)]) hx hb dX5_makeSteps_1 hl (by decide) rfl (fun ls hl => ?_)
  have loop_3 : ∀ (n : Nat) (j : Nat) (z : Nat → Int32) (x4 : Int32) (hj : j + n = k) (e4 : x4 = nI j) (hres : msL a p0 n z x4 = msL a p0 k (X 0) 0), ∀ (H : Heap) (locs : List Loc), va_P D vwCl (cw kA ad (up2 X 0 z)) H → va_D (Aw (cw kA ad X)) (cw kA ad (up2 X 0 z)) → va_S (Aw (cw kA ad X)) s.heap H locs → ∀ ls : Array Slot, lv_has ls 6 [(0, .ref (ad 0)), (1, .ref (gA ad 0 a)), (2, .int p0), (3, .int p1), (4, .int x4)] → W p l e ({ frames := 2, cells := 0, slots := 0, locals := 51 } : Room) s m [.ref (ad 0), .ref (gA ad 0 a), .int p0, .int p1].toArray below meth c H locs 0 0 (MQ below (fQ (some (.int ((msL a p0 k (X 0) 0).1))) D (cw kA ad X) (cw kA ad (up2 X 0 (msL a p0 k (X 0) 0).2))) [.ref (ad 0), .ref (gA ad 0 a), .int p0, .int p1].toArray s 0 0 (Aw (cw kA ad X))) (F0 m 3 ls []) := by
    clear hl
    clear hP hD hS
    intro n
    induction n with
    | zero =>
      intro j z x4 hj e4 hres H locs hP hD hS ls hl
      refine lv_iload hx hb dX5_makeSteps_3 (lv_at hl 4 rfl) ?_
      refine lv_iload_n hx hb dX5_makeSteps_5 rfl (lv_at hl 3 rfl) ?_
      refine lv_icmp_ge (tgt := 58) hx hb dX5_makeSteps_6 (by decide) (fun c_1 => ?_) (fun c_1 => ?_)
      · skip
        replace c_1 := ge_n c_1
        refine lv_iload hx hb dX5_makeSteps_58 (lv_at hl 4 rfl) ?_
        exact end_fi hx hb hrt hlk hP hS (by rw [← hres]; rfl) (fun h => by rw [← hres]; exact h) dX5_makeSteps_60
      · exact absurd c_1 (fun h => h (cnt_ge (N := k) e4 hm.symm (by omega) (by omega)))
    | succ n ih3 =>
      intro j z x4 hj e4 hres H locs hP hD hS ls hl
      refine lv_iload hx hb dX5_makeSteps_3 (lv_at hl 4 rfl) ?_
      refine lv_iload_n hx hb dX5_makeSteps_5 rfl (lv_at hl 3 rfl) ?_
      refine lv_icmp_ge (tgt := 58) hx hb dX5_makeSteps_6 (by decide) (fun c_2 => ?_) (fun c_2 => ?_)
      · exact absurd c_2 (cnt_nge (N := k) e4 hm.symm (by omega) (by omega))
      · skip
        replace c_2 := nge_l c_2
        refine lv_aload_n hx hb dX5_makeSteps_9 rfl (lv_at hl 1 rfl) ?_
        refine lv_iload_n hx hb dX5_makeSteps_10 rfl (lv_at hl 2 rfl) ?_
        refine lv_aload_n hx hb dX5_makeSteps_11 rfl (lv_at hl 0 rfl) ?_
        refine va_get (ci := 5) (v := .ref (sA ad 0)) (C := RX5) (T := TX5) (N := 6) hx hb hts inX5 hown hK hP _ (cw_arm (kA := kA) (ad := ad) (X := up2 X 0 z)) rfl 0 (by decide) (hts _ q_170) (fun _ h9 => h9) rfl dX5_makeSteps_12 ?_
        refine va_get (ci := 4) (v := .int (z 6)) (C := RX4) (T := TX4) (N := 4) hx hb hts inX4 hown hK hP _ (cw_state (kA := kA) (ad := ad) (X := up2 X 0 z) (r := 0) (by omega)) rfl 2 (by decide) (hts _ q_117) (fun _ h9 => h9) rfl dX5_makeSteps_15 ?_
        refine lv_aload_n hx hb dX5_makeSteps_18 rfl (lv_at hl 0 rfl) ?_
        refine va_get (ci := 5) (v := .ref (sA ad 0)) (C := RX5) (T := TX5) (N := 6) hx hb hts inX5 hown hK hP _ (cw_arm (kA := kA) (ad := ad) (X := up2 X 0 z)) rfl 0 (by decide) (hts _ q_170) (fun _ h9 => h9) rfl dX5_makeSteps_19 ?_
        refine va_get (ci := 4) (v := .ref (rA ad 0)) (C := RX4) (T := TX4) (N := 4) hx hb hts inX4 hown hK hP _ (cw_state (kA := kA) (ad := ad) (X := up2 X 0 z) (r := 0) (by omega)) rfl 0 (by decide) (hts _ q_114) (fun _ h9 => h9) rfl dX5_makeSteps_22 ?_
        refine cs_fs (runV (As := [.int p0, .int (z 6), .ref (rA ad 0)]) (rest := []) ⟨hx, hb, hml, hown, hts⟩ (m_X0_makeStep l D kA (gA ad 0 a) (wA ad 0 a) (sl (z) a) (rA ad 0) z p0 (z 6) ) q_383 q_384 q_385 q_4 q_386 hd_X0_makeStep ⟨rfl, rfl⟩ ⟨Nat.le_of_ble_eq_true rfl, Nat.le_of_ble_eq_true rfl⟩ hK (ws := [((gA ad 0 a), gC (wA ad 0 a) (sl (z) a)), ((wA ad 0 a), wC kA (sl (z) a)), ((rA ad 0), rC z)]) (P3 hP (cw_gear (kA := kA) (ad := ad) (X := up2 X 0 z) (r := 0) (a := a) (by omega) (by omega)) (cw_wears (kA := kA) (ad := ad) (X := up2 X 0 z) (r := 0) (a := a) (by omega) (by omega)) (cw_rules (kA := kA) (ad := ad) (X := up2 X 0 z) (r := 0) (by omega))) (D3 hD (cw_gear (kA := kA) (ad := ad) (X := up2 X 0 z) (r := 0) (a := a) (by omega) (by omega)) (cw_wears (kA := kA) (ad := ad) (X := up2 X 0 z) (r := 0) (a := a) (by omega) (by omega)) (cw_rules (kA := kA) (ad := ad) (X := up2 X 0 z) (r := 0) (by omega)) (by omega) (by omega) (by omega)) 0 (ci := 0) (C := RX0) (T := TX0) (N := 12) rfl rfl rfl hl.1 rfl (Nat.le_of_ble_eq_true rfl) dX5_makeSteps_25 ⟨Nat.zero_le _, Nat.zero_le _⟩) hS (cw_sub (fun q hq => by simp only [List.mem_cons, List.not_mem_nil, or_false] at hq; rcases hq with rfl | rfl | rfl <;> first | exact ⟨2 * (4 * 0 + a) + 5, by omega, rfl⟩ | exact ⟨2 * (4 * 0 + a) + 6, by omega, rfl⟩ | exact ⟨3 * 0 + 64, by omega, rfl⟩)) (fun H locs hP1 hk1 hS => ?_)
        obtain ⟨hP, hD⟩ := jn_G3 (r := 0) (a := a) (by omega) (by omega) (r' := 0) (by omega) (G' := (msG (sl (z) a) z p0 (z 6))) hP hD hk1 hP1
        clear hk1 hP1
        rw [nf_G] at hP hD
        refine lv_istore (lv' := [(5, .int (msR (sl (z) a) z p0 (z 6))), (0, .ref (ad 0)), (1, .ref (gA ad 0 a)), (2, .int p0), (3, .int p1), (4, .int x4)]) hx hb dX5_makeSteps_28 hl (by decide) rfl (fun ls hl => ?_)
        refine lv_iload hx hb dX5_makeSteps_30 (lv_at hl 0 rfl) ?_
        refine lv_if_ne (tgt := 38) hx hb dX5_makeSteps_32 (by decide) (fun c_3 => ?_) (fun c_3 => ?_)
        · skip
          refine lv_aload_n hx hb dX5_makeSteps_38 rfl (lv_at hl 1 rfl) ?_
          refine va_get (ci := 5) (v := .ref (sA ad 0)) (C := RX5) (T := TX5) (N := 6) hx hb hts inX5 hown hK hP _ (cw_arm (kA := kA) (ad := ad) (X := up2 X 0 (inG z a (msG (sl (z) a) z p0 (z 6))))) rfl 0 (by decide) (hts _ q_170) (fun _ h9 => h9) rfl dX5_makeSteps_39 ?_
          refine lv_dup hx hb dX5_makeSteps_42 rfl ?_
          refine va_get (ci := 4) (v := .int ((inG z a (msG (sl (z) a) z p0 (z 6))) 6)) (C := RX4) (T := TX4) (N := 4) hx hb hts inX4 hown hK hP _ (cw_state (kA := kA) (ad := ad) (X := up2 X 0 (inG z a (msG (sl (z) a) z p0 (z 6)))) (r := 0) (by omega)) rfl 2 (by decide) (hts _ q_117) (fun _ h9 => h9) rfl dX5_makeSteps_43 ?_
          refine lv_iload hx hb dX5_makeSteps_46 (lv_at hl 0 rfl) ?_
          refine lv_isub hx hb dX5_makeSteps_48 ?_
          refine va_put (ci := 4) (v := .int (((inG z a (msG (sl (z) a) z p0 (z 6))) 6) - (msR (sl (z) a) z p0 (z 6)))) (ty := tyX4 2) (C := RX4) (T := TX4) (N := 4) hx hb hts inX4 tyX4 tyX4_ok nmX4 hown hK hP hD hS _ (cw_state (kA := kA) (ad := ad) (X := up2 X 0 (inG z a (msG (sl (z) a) z p0 (z 6)))) (r := 0) (by omega)) rfl 2 (by decide) (hts _ q_117) (fun _ h9 => h9) rfl (tyX4_ok 2 (by decide)) rfl rfl (Nat.le_of_ble_eq_true rfl) dX5_makeSteps_49 (fun H locs hP hD hS => ?_)
          have hP : va_P D vwCl (cw kA ad (up3 (up2 X 0 (inG z a (msG (sl (z) a) z p0 (z 6)))) 0 6 (((inG z a (msG (sl (z) a) z p0 (z 6))) 6) - (msR (sl (z) a) z p0 (z 6))))) H := by rw [← st_purse (r := 0) (by omega)]; exact hP
          have hD : va_D (Aw (cw kA ad X)) (cw kA ad (up3 (up2 X 0 (inG z a (msG (sl (z) a) z p0 (z 6)))) 0 6 (((inG z a (msG (sl (z) a) z p0 (z 6))) 6) - (msR (sl (z) a) z p0 (z 6))))) := by rw [← st_purse (r := 0) (by omega)]; exact hD
          rw [nf_3] at hP hD
          refine lv_iinc (v := x4 + 1) (lv' := [(4, .int (x4 + 1)), (5, .int (msR (sl (z) a) z p0 (z 6))), (0, .ref (ad 0)), (1, .ref (gA ad 0 a)), (2, .int p0), (3, .int p1)]) hx hb dX5_makeSteps_52 hl (k := 5) rfl (by first | rfl | exact congrArg (_ + ·) (by decide)) (by decide) rfl (fun ls hl => ?_)
          refine lv_goto (tgt := 3) hx hb dX5_makeSteps_55 (by decide) ?_
          exact ih3 (j + 1) (upd (inG z a (msG (sl (z) a) z p0 (z 6))) 6 (((inG z a (msG (sl (z) a) z p0 (z 6))) 6) - (msR (sl (z) a) z p0 (z 6)))) (x4 + 1) (by omega) (by rw [e4]; exact nI_1 j) (by rw [← hres, msL, if_neg c_3]; rfl) _ _ hP hD hS ls (lv_sub hl [2, 3, 4, 5, 0] rfl)
        · skip
          refine lv_goto (tgt := 58) hx hb dX5_makeSteps_35 (by decide) ?_
          refine lv_iload hx hb dX5_makeSteps_58 (lv_at hl 5 rfl) ?_
          exact end_fi hx hb hrt hlk hP hS (by rw [← hres, msL, if_pos c_3]) (fun h => by rw [← hres, msL, if_pos c_3]; exact h) dX5_makeSteps_60
  exact loop_3 k 0 (X 0) 0 (by omega) (nI_0.symm) (rfl) _ _ hP hD hS ls (lv_sub hl [1, 2, 3, 4, 0] rfl)

theorem hd_X5_goTo : yX5_goTo.cls ≠ "java/lang/invoke/MethodHandle" ∧ yX5_goTo.cls ≠ "java/lang/invoke/VarHandle" ∧ (parseMethodDescriptor yX5_goTo.desc).map (fun d => d.parameters.length) = some 2 := by decide +kernel
set_option maxRecDepth 100000 in
set_option maxHeartbeats 4000000 in
theorem m_X5_goTo (l : Launch) (D : va_G) (kA : Nat → Nat) (ad : Nat → Nat) (X : Nat → Nat → Int32) (a : Nat) (p0 : Int32) (ha : a < 4) : Met l yX5_goTo (Cond.code yX5_goTo cX5_goTo 7 (some .int) :: AW) ({ frames := 3, cells := 0, slots := 0, locals := 77 } : Room) (Pz [.ref (ad 0), .ref (gA ad 0 a), .int p0] D (TY kA) (cw kA ad X)) (fQ (some (.int ((gtF (X 0) a p0).1))) D (cw kA ad X) (cw kA ad (up2 X 0 (gtF (X 0) a p0).2))) 0 0 (Aw (cw kA ad X)) := by
  refine MetZ (by decide +kernel) (Nat.le_of_ble_eq_true rfl) ?_
  intro p e s m below meth c ls hx hb hrt hts hown hml hlk hnm hP hK hD hS hl
  have hl : lv_has ls 7 [(0, .ref (ad 0)), (1, .ref (gA ad 0 a)), (2, .int p0)] := hl
  rw [← up2_self (X := X) (r := 0)] at hP hD
  refine lv_aload_n hx hb dX5_goTo_0 rfl (lv_at hl 0 rfl) ?_
  refine lv_aload_n hx hb dX5_goTo_1 rfl (lv_at hl 1 rfl) ?_
  refine lv_iload_n hx hb dX5_goTo_2 rfl (lv_at hl 2 rfl) ?_
  refine cs_p (runV (As := [.ref (gA ad 0 a), .int p0]) (rest := []) ⟨hx, hb, hml, hown, hts⟩ (m_X5_cheaperWay l D kA ad (up2 X 0 (X 0)) a p0 (ha)) q_424 q_426 qp_5 q_1 q_427 hd_X5_cheaperWay ⟨rfl, rfl⟩ ⟨Nat.le_of_ble_eq_true rfl, Nat.le_of_ble_eq_true rfl⟩ hK (ws := (cw kA ad (up2 X 0 (X 0)))) hP hD _ (ci := 5) (C := RX5) (T := TX5) (N := 6) rfl (cw_arm (kA := kA) (ad := ad) (X := up2 X 0 (X 0))) rfl hl.1 rfl (Nat.le_of_ble_eq_true rfl) dX5_goTo_3 ⟨Nat.zero_le _, Nat.zero_le _⟩) ?_
  refine lv_istore_n (lv' := [(3, .int (chF ((up2 X 0 (X 0)) 0) a p0)), (0, .ref (ad 0)), (1, .ref (gA ad 0 a)), (2, .int p0)]) hx hb dX5_goTo_6 rfl hl (by decide) rfl (fun ls hl => ?_)
  refine lv_iconst (v := 0) hx hb dX5_goTo_7 (by decide) ?_
  refine lv_istore (lv' := [(4, .int 0), (3, .int (chF ((up2 X 0 (X 0)) 0) a p0)), (0, .ref (ad 0)), (1, .ref (gA ad 0 a)), (2, .int p0)]) hx hb dX5_goTo_8 hl (by decide) rfl (fun ls hl => ?_)
  refine lv_iconst (v := 0) hx hb dX5_goTo_10 (by decide) ?_
  refine lv_istore (lv' := [(5, .int 0), (4, .int 0), (3, .int (chF ((up2 X 0 (X 0)) 0) a p0)), (0, .ref (ad 0)), (1, .ref (gA ad 0 a)), (2, .int p0)]) hx hb dX5_goTo_11 hl (by decide) rfl (fun ls hl => ?_)
  have loop_13 : ∀ (n : Nat) (j : Nat) (z : Nat → Int32) (x4 : Int32) (x5 : Int32) (hj : j + n = 24) (e5 : x5 = nI j) (hres : gtL a (chF (X 0) a p0) p0 n z x4 = gtF (X 0) a p0), ∀ (H : Heap) (locs : List Loc), va_P D vwCl (cw kA ad (up2 X 0 z)) H → va_D (Aw (cw kA ad X)) (cw kA ad (up2 X 0 z)) → va_S (Aw (cw kA ad X)) s.heap H locs → ∀ ls : Array Slot, lv_has ls 7 [(0, .ref (ad 0)), (1, .ref (gA ad 0 a)), (2, .int p0), (3, .int (chF (X 0) a p0)), (4, .int x4), (5, .int x5)] → W p l e ({ frames := 3, cells := 0, slots := 0, locals := 77 } : Room) s m [.ref (ad 0), .ref (gA ad 0 a), .int p0].toArray below meth c H locs 0 0 (MQ below (fQ (some (.int ((gtF (X 0) a p0).1))) D (cw kA ad X) (cw kA ad (up2 X 0 (gtF (X 0) a p0).2))) [.ref (ad 0), .ref (gA ad 0 a), .int p0].toArray s 0 0 (Aw (cw kA ad X))) (F0 m 13 ls []) := by
    clear hl
    clear hP hD hS
    intro n
    induction n with
    | zero =>
      intro j z x4 x5 hj e5 hres H locs hP hD hS ls hl
      refine lv_iload hx hb dX5_goTo_13 (lv_at hl 5 rfl) ?_
      refine lv_bipush (v := 24) hx hb dX5_goTo_15 (by decide) ?_
      refine lv_icmp_ge (tgt := 84) hx hb dX5_goTo_17 (by decide) (fun c_1 => ?_) (fun c_1 => ?_)
      · skip
        replace c_1 := ge_n c_1
        refine lv_iload hx hb dX5_goTo_84 (lv_at hl 4 rfl) ?_
        exact end_fi hx hb hrt hlk hP hS (by rw [← hres]; rfl) (fun h => by rw [← hres]; exact h) dX5_goTo_86
      · exact absurd c_1 (fun h => h (cnt_ge (N := 24) e5 rfl (by omega) (by omega)))
    | succ n ih13 =>
      intro j z x4 x5 hj e5 hres H locs hP hD hS ls hl
      refine lv_iload hx hb dX5_goTo_13 (lv_at hl 5 rfl) ?_
      refine lv_bipush (v := 24) hx hb dX5_goTo_15 (by decide) ?_
      refine lv_icmp_ge (tgt := 84) hx hb dX5_goTo_17 (by decide) (fun c_2 => ?_) (fun c_2 => ?_)
      · exact absurd c_2 (cnt_nge (N := 24) e5 rfl (by decide) (by omega))
      · skip
        replace c_2 := nge_l c_2
        refine lv_aload_n hx hb dX5_goTo_20 rfl (lv_at hl 1 rfl) ?_
        refine va_get (ci := 0) (v := .int (sl (z) a 1)) (C := RX0) (T := TX0) (N := 12) hx hb hts inX0 hown hK hP _ (cw_gear (kA := kA) (ad := ad) (X := up2 X 0 z) (r := 0) (a := a) (by omega) (by omega)) rfl 2 (by decide) (hts _ q_73) (fun _ h9 => h9) rfl dX5_goTo_21 ?_
        refine lv_iload_n hx hb dX5_goTo_24 rfl (lv_at hl 2 rfl) ?_
        refine lv_icmp_eq (tgt := 84) hx hb dX5_goTo_25 (by decide) (fun c_3 => ?_) (fun c_3 => ?_)
        · skip
          refine lv_iload hx hb dX5_goTo_84 (lv_at hl 4 rfl) ?_
          exact end_fi hx hb hrt hlk hP hS (by rw [← hres, gtL, if_pos c_3]) (fun h => by rw [← hres, gtL, if_pos c_3]; exact h) dX5_goTo_86
        · skip
          refine lv_aload_n hx hb dX5_goTo_28 rfl (lv_at hl 1 rfl) ?_
          refine lv_iload_n hx hb dX5_goTo_29 rfl (lv_at hl 3 rfl) ?_
          refine lv_aload_n hx hb dX5_goTo_30 rfl (lv_at hl 0 rfl) ?_
          refine va_get (ci := 5) (v := .ref (sA ad 0)) (C := RX5) (T := TX5) (N := 6) hx hb hts inX5 hown hK hP _ (cw_arm (kA := kA) (ad := ad) (X := up2 X 0 z)) rfl 0 (by decide) (hts _ q_170) (fun _ h9 => h9) rfl dX5_goTo_31 ?_
          refine va_get (ci := 4) (v := .int (z 6)) (C := RX4) (T := TX4) (N := 4) hx hb hts inX4 hown hK hP _ (cw_state (kA := kA) (ad := ad) (X := up2 X 0 z) (r := 0) (by omega)) rfl 2 (by decide) (hts _ q_117) (fun _ h9 => h9) rfl dX5_goTo_34 ?_
          refine lv_aload_n hx hb dX5_goTo_37 rfl (lv_at hl 0 rfl) ?_
          refine va_get (ci := 5) (v := .ref (sA ad 0)) (C := RX5) (T := TX5) (N := 6) hx hb hts inX5 hown hK hP _ (cw_arm (kA := kA) (ad := ad) (X := up2 X 0 z)) rfl 0 (by decide) (hts _ q_170) (fun _ h9 => h9) rfl dX5_goTo_38 ?_
          refine va_get (ci := 4) (v := .ref (rA ad 0)) (C := RX4) (T := TX4) (N := 4) hx hb hts inX4 hown hK hP _ (cw_state (kA := kA) (ad := ad) (X := up2 X 0 z) (r := 0) (by omega)) rfl 0 (by decide) (hts _ q_114) (fun _ h9 => h9) rfl dX5_goTo_41 ?_
          refine cs_fs (runV (As := [.int (chF (X 0) a p0), .int (z 6), .ref (rA ad 0)]) (rest := []) ⟨hx, hb, hml, hown, hts⟩ (m_X0_makeStep l D kA (gA ad 0 a) (wA ad 0 a) (sl (z) a) (rA ad 0) z (chF (X 0) a p0) (z 6) ) q_383 q_384 q_385 q_4 q_386 hd_X0_makeStep ⟨rfl, rfl⟩ ⟨Nat.le_of_ble_eq_true rfl, Nat.le_of_ble_eq_true rfl⟩ hK (ws := [((gA ad 0 a), gC (wA ad 0 a) (sl (z) a)), ((wA ad 0 a), wC kA (sl (z) a)), ((rA ad 0), rC z)]) (P3 hP (cw_gear (kA := kA) (ad := ad) (X := up2 X 0 z) (r := 0) (a := a) (by omega) (by omega)) (cw_wears (kA := kA) (ad := ad) (X := up2 X 0 z) (r := 0) (a := a) (by omega) (by omega)) (cw_rules (kA := kA) (ad := ad) (X := up2 X 0 z) (r := 0) (by omega))) (D3 hD (cw_gear (kA := kA) (ad := ad) (X := up2 X 0 z) (r := 0) (a := a) (by omega) (by omega)) (cw_wears (kA := kA) (ad := ad) (X := up2 X 0 z) (r := 0) (a := a) (by omega) (by omega)) (cw_rules (kA := kA) (ad := ad) (X := up2 X 0 z) (r := 0) (by omega)) (by omega) (by omega) (by omega)) 0 (ci := 0) (C := RX0) (T := TX0) (N := 12) rfl rfl rfl hl.1 rfl (Nat.le_of_ble_eq_true rfl) dX5_goTo_44 ⟨Nat.zero_le _, Nat.zero_le _⟩) hS (cw_sub (fun q hq => by simp only [List.mem_cons, List.not_mem_nil, or_false] at hq; rcases hq with rfl | rfl | rfl <;> first | exact ⟨2 * (4 * 0 + a) + 5, by omega, rfl⟩ | exact ⟨2 * (4 * 0 + a) + 6, by omega, rfl⟩ | exact ⟨3 * 0 + 64, by omega, rfl⟩)) (fun H locs hP1 hk1 hS => ?_)
          obtain ⟨hP, hD⟩ := jn_G3 (r := 0) (a := a) (by omega) (by omega) (r' := 0) (by omega) (G' := (msG (sl (z) a) z (chF (X 0) a p0) (z 6))) hP hD hk1 hP1
          clear hk1 hP1
          rw [nf_G] at hP hD
          refine lv_istore (lv' := [(6, .int (msR (sl (z) a) z (chF (X 0) a p0) (z 6))), (0, .ref (ad 0)), (1, .ref (gA ad 0 a)), (2, .int p0), (3, .int (chF (X 0) a p0)), (4, .int x4), (5, .int x5)]) hx hb dX5_goTo_47 hl (by decide) rfl (fun ls hl => ?_)
          refine lv_iload hx hb dX5_goTo_49 (lv_at hl 0 rfl) ?_
          refine lv_if_ne (tgt := 57) hx hb dX5_goTo_51 (by decide) (fun c_4 => ?_) (fun c_4 => ?_)
          · skip
            refine lv_aload_n hx hb dX5_goTo_57 rfl (lv_at hl 1 rfl) ?_
            refine va_get (ci := 5) (v := .ref (sA ad 0)) (C := RX5) (T := TX5) (N := 6) hx hb hts inX5 hown hK hP _ (cw_arm (kA := kA) (ad := ad) (X := up2 X 0 (inG z a (msG (sl (z) a) z (chF (X 0) a p0) (z 6))))) rfl 0 (by decide) (hts _ q_170) (fun _ h9 => h9) rfl dX5_goTo_58 ?_
            refine lv_dup hx hb dX5_goTo_61 rfl ?_
            refine va_get (ci := 4) (v := .int ((inG z a (msG (sl (z) a) z (chF (X 0) a p0) (z 6))) 6)) (C := RX4) (T := TX4) (N := 4) hx hb hts inX4 hown hK hP _ (cw_state (kA := kA) (ad := ad) (X := up2 X 0 (inG z a (msG (sl (z) a) z (chF (X 0) a p0) (z 6)))) (r := 0) (by omega)) rfl 2 (by decide) (hts _ q_117) (fun _ h9 => h9) rfl dX5_goTo_62 ?_
            refine lv_iload hx hb dX5_goTo_65 (lv_at hl 0 rfl) ?_
            refine lv_isub hx hb dX5_goTo_67 ?_
            refine va_put (ci := 4) (v := .int (((inG z a (msG (sl (z) a) z (chF (X 0) a p0) (z 6))) 6) - (msR (sl (z) a) z (chF (X 0) a p0) (z 6)))) (ty := tyX4 2) (C := RX4) (T := TX4) (N := 4) hx hb hts inX4 tyX4 tyX4_ok nmX4 hown hK hP hD hS _ (cw_state (kA := kA) (ad := ad) (X := up2 X 0 (inG z a (msG (sl (z) a) z (chF (X 0) a p0) (z 6)))) (r := 0) (by omega)) rfl 2 (by decide) (hts _ q_117) (fun _ h9 => h9) rfl (tyX4_ok 2 (by decide)) rfl rfl (Nat.le_of_ble_eq_true rfl) dX5_goTo_68 (fun H locs hP hD hS => ?_)
            have hP : va_P D vwCl (cw kA ad (up3 (up2 X 0 (inG z a (msG (sl (z) a) z (chF (X 0) a p0) (z 6)))) 0 6 (((inG z a (msG (sl (z) a) z (chF (X 0) a p0) (z 6))) 6) - (msR (sl (z) a) z (chF (X 0) a p0) (z 6))))) H := by rw [← st_purse (r := 0) (by omega)]; exact hP
            have hD : va_D (Aw (cw kA ad X)) (cw kA ad (up3 (up2 X 0 (inG z a (msG (sl (z) a) z (chF (X 0) a p0) (z 6)))) 0 6 (((inG z a (msG (sl (z) a) z (chF (X 0) a p0) (z 6))) 6) - (msR (sl (z) a) z (chF (X 0) a p0) (z 6))))) := by rw [← st_purse (r := 0) (by omega)]; exact hD
            rw [nf_3] at hP hD
            refine lv_iload hx hb dX5_goTo_71 (lv_at hl 5 rfl) ?_
            refine lv_iload hx hb dX5_goTo_73 (lv_at hl 0 rfl) ?_
            refine lv_iadd hx hb dX5_goTo_75 ?_
            refine lv_istore (lv' := [(4, .int (x4 + (msR (sl (z) a) z (chF (X 0) a p0) (z 6)))), (6, .int (msR (sl (z) a) z (chF (X 0) a p0) (z 6))), (0, .ref (ad 0)), (1, .ref (gA ad 0 a)), (2, .int p0), (3, .int (chF (X 0) a p0)), (5, .int x5)]) hx hb dX5_goTo_76 hl (by decide) rfl (fun ls hl => ?_)
            refine lv_iinc (v := x5 + 1) (lv' := [(5, .int (x5 + 1)), (4, .int (x4 + (msR (sl (z) a) z (chF (X 0) a p0) (z 6)))), (6, .int (msR (sl (z) a) z (chF (X 0) a p0) (z 6))), (0, .ref (ad 0)), (1, .ref (gA ad 0 a)), (2, .int p0), (3, .int (chF (X 0) a p0))]) hx hb dX5_goTo_78 hl (k := 6) rfl (by first | rfl | exact congrArg (_ + ·) (by decide)) (by decide) rfl (fun ls hl => ?_)
            refine lv_goto (tgt := 13) hx hb dX5_goTo_81 (by decide) ?_
            exact ih13 (j + 1) (upd (inG z a (msG (sl (z) a) z (chF (X 0) a p0) (z 6))) 6 (((inG z a (msG (sl (z) a) z (chF (X 0) a p0) (z 6))) 6) - (msR (sl (z) a) z (chF (X 0) a p0) (z 6)))) (x4 + (msR (sl (z) a) z (chF (X 0) a p0) (z 6))) (x5 + 1) (by omega) (by rw [e5]; exact nI_1 j) (by rw [← hres, gtL, if_neg c_3, if_neg c_4]; rfl) _ _ hP hD hS ls (lv_sub hl [3, 4, 5, 6, 1, 0] rfl)
          · skip
            refine lv_goto (tgt := 84) hx hb dX5_goTo_54 (by decide) ?_
            refine lv_iload hx hb dX5_goTo_84 (lv_at hl 5 rfl) ?_
            exact end_fi hx hb hrt hlk hP hS (by rw [← hres, gtL, if_neg c_3, if_pos c_4]) (fun h => by rw [← hres, gtL, if_neg c_3, if_pos c_4]; exact h) dX5_goTo_86
  exact loop_13 24 0 (X 0) 0 0 (by omega) (nI_0.symm) (rfl) _ _ hP hD hS ls (lv_sub hl [3, 4, 5, 2, 1, 0] rfl)

theorem hd_X5_makeHomed : yX5_makeHomed.cls ≠ "java/lang/invoke/MethodHandle" ∧ yX5_makeHomed.cls ≠ "java/lang/invoke/VarHandle" ∧ (parseMethodDescriptor yX5_makeHomed.desc).map (fun d => d.parameters.length) = some 1 := by decide +kernel
set_option maxRecDepth 100000 in
set_option maxHeartbeats 4000000 in
theorem m_X5_makeHomed (l : Launch) (D : va_G) (kA : Nat → Nat) (ad : Nat → Nat) (X : Nat → Nat → Int32) (a : Nat) (ha : a < 4) : Met l yX5_makeHomed (Cond.code yX5_makeHomed cX5_makeHomed 3 (some .boolean) :: AW) ({ frames := 3, cells := 0, slots := 0, locals := 76 } : Room) (Pz [.ref (ad 0), .ref (gA ad 0 a)] D (TY kA) (cw kA ad X)) (fQ (some (.int (bI (hmB (X 0) a)))) D (cw kA ad X) (cw kA ad (up2 X 0 (hmZ (X 0) a)))) 0 0 (Aw (cw kA ad X)) := by
  refine MetZ (by decide +kernel) (Nat.le_of_ble_eq_true rfl) ?_
  intro p e s m below meth c ls hx hb hrt hts hown hml hlk hnm hP hK hD hS hl
  have hl : lv_has ls 3 [(0, .ref (ad 0)), (1, .ref (gA ad 0 a))] := hl
  rw [← up2_self (X := X) (r := 0)] at hP hD
  refine lv_aload_n hx hb dX5_makeHomed_0 rfl (lv_at hl 1 rfl) ?_
  refine va_get (ci := 0) (v := .int (sl ((X 0)) a 10)) (C := RX0) (T := TX0) (N := 12) hx hb hts inX0 hown hK hP _ (cw_gear (kA := kA) (ad := ad) (X := up2 X 0 (X 0)) (r := 0) (a := a) (by omega) (by omega)) rfl 11 (by decide) (hts _ q_86) (fun _ h9 => h9) rfl dX5_makeHomed_1 ?_
  refine lv_istore_n (lv' := [(2, .int (sl ((X 0)) a 10)), (0, .ref (ad 0)), (1, .ref (gA ad 0 a))]) hx hb dX5_makeHomed_4 rfl hl (by decide) rfl (fun ls hl => ?_)
  refine lv_aload_n hx hb dX5_makeHomed_5 rfl (lv_at hl 1 rfl) ?_
  refine va_get (ci := 5) (v := .ref (sA ad 0)) (C := RX5) (T := TX5) (N := 6) hx hb hts inX5 hown hK hP _ (cw_arm (kA := kA) (ad := ad) (X := up2 X 0 (X 0))) rfl 0 (by decide) (hts _ q_170) (fun _ h9 => h9) rfl dX5_makeHomed_6 ?_
  refine lv_dup hx hb dX5_makeHomed_9 rfl ?_
  refine va_get (ci := 4) (v := .int ((X 0) 6)) (C := RX4) (T := TX4) (N := 4) hx hb hts inX4 hown hK hP _ (cw_state (kA := kA) (ad := ad) (X := up2 X 0 (X 0)) (r := 0) (by omega)) rfl 2 (by decide) (hts _ q_117) (fun _ h9 => h9) rfl dX5_makeHomed_10 ?_
  refine lv_aload_n hx hb dX5_makeHomed_13 rfl (lv_at hl 2 rfl) ?_
  refine lv_aload_n hx hb dX5_makeHomed_14 rfl (lv_at hl 1 rfl) ?_
  refine va_get (ci := 5) (v := .ref (sA ad 0)) (C := RX5) (T := TX5) (N := 6) hx hb hts inX5 hown hK hP _ (cw_arm (kA := kA) (ad := ad) (X := up2 X 0 (X 0))) rfl 0 (by decide) (hts _ q_170) (fun _ h9 => h9) rfl dX5_makeHomed_15 ?_
  refine va_get (ci := 4) (v := .int ((X 0) 6)) (C := RX4) (T := TX4) (N := 4) hx hb hts inX4 hown hK hP _ (cw_state (kA := kA) (ad := ad) (X := up2 X 0 (X 0)) (r := 0) (by omega)) rfl 2 (by decide) (hts _ q_117) (fun _ h9 => h9) rfl dX5_makeHomed_18 ?_
  refine lv_aload_n hx hb dX5_makeHomed_21 rfl (lv_at hl 1 rfl) ?_
  refine va_get (ci := 5) (v := .ref (sA ad 0)) (C := RX5) (T := TX5) (N := 6) hx hb hts inX5 hown hK hP _ (cw_arm (kA := kA) (ad := ad) (X := up2 X 0 (X 0))) rfl 0 (by decide) (hts _ q_170) (fun _ h9 => h9) rfl dX5_makeHomed_22 ?_
  refine va_get (ci := 4) (v := .ref (rA ad 0)) (C := RX4) (T := TX4) (N := 4) hx hb hts inX4 hown hK hP _ (cw_state (kA := kA) (ad := ad) (X := up2 X 0 (X 0)) (r := 0) (by omega)) rfl 0 (by decide) (hts _ q_114) (fun _ h9 => h9) rfl dX5_makeHomed_25 ?_
  refine cs_fs (runV (As := [.int ((X 0) 6), .ref (rA ad 0)]) (rest := [.int ((X 0) 6), .ref (sA ad 0)]) ⟨hx, hb, hml, hown, hts⟩ (m_X0_makeHomed l D kA (gA ad 0 a) (wA ad 0 a) (sl ((X 0)) a) (rA ad 0) (X 0) ((X 0) 6) ) q_442 q_443 q_444 q_4 q_445 hd_X0_makeHomed ⟨rfl, rfl⟩ ⟨Nat.le_of_ble_eq_true rfl, Nat.le_of_ble_eq_true rfl⟩ hK (ws := [((gA ad 0 a), gC (wA ad 0 a) (sl ((X 0)) a)), ((wA ad 0 a), wC kA (sl ((X 0)) a)), ((rA ad 0), rC (X 0))]) (P3 hP (cw_gear (kA := kA) (ad := ad) (X := up2 X 0 (X 0)) (r := 0) (a := a) (by omega) (by omega)) (cw_wears (kA := kA) (ad := ad) (X := up2 X 0 (X 0)) (r := 0) (a := a) (by omega) (by omega)) (cw_rules (kA := kA) (ad := ad) (X := up2 X 0 (X 0)) (r := 0) (by omega))) (D3 hD (cw_gear (kA := kA) (ad := ad) (X := up2 X 0 (X 0)) (r := 0) (a := a) (by omega) (by omega)) (cw_wears (kA := kA) (ad := ad) (X := up2 X 0 (X 0)) (r := 0) (a := a) (by omega) (by omega)) (cw_rules (kA := kA) (ad := ad) (X := up2 X 0 (X 0)) (r := 0) (by omega)) (by omega) (by omega) (by omega)) 0 (ci := 0) (C := RX0) (T := TX0) (N := 12) rfl rfl rfl hl.1 rfl (Nat.le_of_ble_eq_true rfl) dX5_makeHomed_28 ⟨Nat.zero_le _, Nat.zero_le _⟩) hS (cw_sub (fun q hq => by simp only [List.mem_cons, List.not_mem_nil, or_false] at hq; rcases hq with rfl | rfl | rfl <;> first | exact ⟨2 * (4 * 0 + a) + 5, by omega, rfl⟩ | exact ⟨2 * (4 * 0 + a) + 6, by omega, rfl⟩ | exact ⟨3 * 0 + 64, by omega, rfl⟩)) (fun H locs hP1 hk1 hS => ?_)
  obtain ⟨hP, hD⟩ := jn_G3 (r := 0) (a := a) (by omega) (by omega) (r' := 0) (by omega) (G' := (hmG (sl ((X 0)) a) (X 0) ((X 0) 6))) hP hD hk1 hP1
  clear hk1 hP1
  rw [nf_G] at hP hD
  refine lv_isub hx hb dX5_makeHomed_31 ?_
  refine va_put (ci := 4) (v := .int (((X 0) 6) - (hmP (sl ((X 0)) a) (X 0) ((X 0) 6)))) (ty := tyX4 2) (C := RX4) (T := TX4) (N := 4) hx hb hts inX4 tyX4 tyX4_ok nmX4 hown hK hP hD hS _ (cw_state (kA := kA) (ad := ad) (X := up2 X 0 (inG (X 0) a (hmG (sl ((X 0)) a) (X 0) ((X 0) 6)))) (r := 0) (by omega)) rfl 2 (by decide) (hts _ q_117) (fun _ h9 => h9) rfl (tyX4_ok 2 (by decide)) rfl rfl (Nat.le_of_ble_eq_true rfl) dX5_makeHomed_32 (fun H locs hP hD hS => ?_)
  have hP : va_P D vwCl (cw kA ad (up3 (up2 X 0 (inG (X 0) a (hmG (sl ((X 0)) a) (X 0) ((X 0) 6)))) 0 6 (((X 0) 6) - (hmP (sl ((X 0)) a) (X 0) ((X 0) 6))))) H := by rw [← st_purse (r := 0) (by omega)]; exact hP
  have hD : va_D (Aw (cw kA ad X)) (cw kA ad (up3 (up2 X 0 (inG (X 0) a (hmG (sl ((X 0)) a) (X 0) ((X 0) 6)))) 0 6 (((X 0) 6) - (hmP (sl ((X 0)) a) (X 0) ((X 0) 6))))) := by rw [← st_purse (r := 0) (by omega)]; exact hD
  rw [nf_3] at hP hD
  refine lv_aload_n hx hb dX5_makeHomed_35 rfl (lv_at hl 2 rfl) ?_
  refine va_get (ci := 0) (v := .int (sl ((upd (inG (X 0) a (hmG (sl ((X 0)) a) (X 0) ((X 0) 6))) 6 (((X 0) 6) - (hmP (sl ((X 0)) a) (X 0) ((X 0) 6))))) a 10)) (C := RX0) (T := TX0) (N := 12) hx hb hts inX0 hown hK hP _ (cw_gear (kA := kA) (ad := ad) (X := up2 X 0 (upd (inG (X 0) a (hmG (sl ((X 0)) a) (X 0) ((X 0) 6))) 6 (((X 0) 6) - (hmP (sl ((X 0)) a) (X 0) ((X 0) 6))))) (r := 0) (a := a) (by omega) (by omega)) rfl 11 (by decide) (hts _ q_86) (fun _ h9 => h9) rfl dX5_makeHomed_36 ?_
  refine lv_iload_n hx hb dX5_makeHomed_39 rfl (lv_at hl 0 rfl) ?_
  refine lv_icmp_le (tgt := 47) hx hb dX5_makeHomed_40 (by decide) (fun c_1 => ?_) (fun c_1 => ?_)
  · skip
    replace c_1 := ge_n c_1
    refine lv_iconst (v := 0) hx hb dX5_makeHomed_47 (by decide) ?_
    exact end_fz hx hb hrt hlk (by decide) hP hS (by rw [hmB, hmZ, if_neg c_1]; rfl) (fun h => h) dX5_makeHomed_48
  · skip
    replace c_1 := nge_l c_1
    refine lv_iconst (v := 1) hx hb dX5_makeHomed_43 (by decide) ?_
    refine lv_goto (tgt := 48) hx hb dX5_makeHomed_44 (by decide) ?_
    exact end_fz hx hb hrt hlk (by decide) hP hS (by rw [hmB, hmZ, if_pos c_1]; rfl) (fun h => h) dX5_makeHomed_48

theorem hd_X5_makeGreased : yX5_makeGreased.cls ≠ "java/lang/invoke/MethodHandle" ∧ yX5_makeGreased.cls ≠ "java/lang/invoke/VarHandle" ∧ (parseMethodDescriptor yX5_makeGreased.desc).map (fun d => d.parameters.length) = some 1 := by decide +kernel
set_option maxRecDepth 100000 in
set_option maxHeartbeats 4000000 in
theorem m_X5_makeGreased (l : Launch) (D : va_G) (kA : Nat → Nat) (ad : Nat → Nat) (X : Nat → Nat → Int32) (a : Nat) (ha : a < 4) : Met l yX5_makeGreased (Cond.code yX5_makeGreased cX5_makeGreased 2 none :: AW) ({ frames := 1, cells := 0, slots := 0, locals := 21 } : Room) (Pz [.ref (ad 0), .ref (gA ad 0 a)] D (TY kA) (cw kA ad X)) (fQ none D (cw kA ad X) (cw kA ad (up2 X 0 (grZ (X 0) a)))) 0 0 (Aw (cw kA ad X)) := by
  refine MetZ (by decide +kernel) (Nat.le_of_ble_eq_true rfl) ?_
  intro p e s m below meth c ls hx hb hrt hts hown hml hlk hnm hP hK hD hS hl
  have hl : lv_has ls 2 [(0, .ref (ad 0)), (1, .ref (gA ad 0 a))] := hl
  rw [← up2_self (X := X) (r := 0)] at hP hD
  refine lv_aload_n hx hb dX5_makeGreased_0 rfl (lv_at hl 0 rfl) ?_
  refine va_get (ci := 5) (v := .ref (sA ad 0)) (C := RX5) (T := TX5) (N := 6) hx hb hts inX5 hown hK hP _ (cw_arm (kA := kA) (ad := ad) (X := up2 X 0 (X 0))) rfl 0 (by decide) (hts _ q_170) (fun _ h9 => h9) rfl dX5_makeGreased_1 ?_
  refine lv_aload_n hx hb dX5_makeGreased_4 rfl (lv_at hl 0 rfl) ?_
  refine va_get (ci := 5) (v := .ref (sA ad 0)) (C := RX5) (T := TX5) (N := 6) hx hb hts inX5 hown hK hP _ (cw_arm (kA := kA) (ad := ad) (X := up2 X 0 (X 0))) rfl 0 (by decide) (hts _ q_170) (fun _ h9 => h9) rfl dX5_makeGreased_5 ?_
  refine va_get (ci := 4) (v := .ref (rA ad 0)) (C := RX4) (T := TX4) (N := 4) hx hb hts inX4 hown hK hP _ (cw_state (kA := kA) (ad := ad) (X := up2 X 0 (X 0)) (r := 0) (by omega)) rfl 0 (by decide) (hts _ q_114) (fun _ h9 => h9) rfl dX5_makeGreased_8 ?_
  refine va_get (ci := 3) (v := .int ((X 0) 5)) (C := RX3) (T := TX3) (N := 6) hx hb hts inX3 hown hK hP _ (cw_rules (kA := kA) (ad := ad) (X := up2 X 0 (X 0)) (r := 0) (by omega)) rfl 5 (by decide) (hts _ q_47) (fun _ h9 => h9) rfl dX5_makeGreased_11 ?_
  refine cs_fn (runV (As := [.int ((X 0) 5)]) (rest := []) ⟨hx, hb, hml, hown, hts⟩ (m_X4_payCare l D kA ad (up2 X 0 (X 0)) 0 ((X 0) 5) (by omega)) q_483 q_484 q_485 q_2 q_486 hd_X4_payCare ⟨rfl, rfl⟩ ⟨Nat.le_of_ble_eq_true rfl, Nat.le_of_ble_eq_true rfl⟩ hK (ws := (cw kA ad (up2 X 0 (X 0)))) hP hD _ (ci := 4) (C := RX4) (T := TX4) (N := 4) rfl (cw_state (kA := kA) (ad := ad) (X := up2 X 0 (X 0)) (r := 0) (by omega)) rfl hl.1 rfl (Nat.le_of_ble_eq_true rfl) dX5_makeGreased_14 ⟨Nat.zero_le _, Nat.zero_le _⟩) hS (fun _ h => cw_Aw h) (fun H locs hP _ hS => ?_)
  have hD := cw_D (X' := up2 (up2 X 0 (X 0)) 0 (payZ ((up2 X 0 (X 0)) 0) ((X 0) 5))) hD
  rw [nf_2] at hP hD
  refine lv_aload_n hx hb dX5_makeGreased_17 rfl (lv_at hl 1 rfl) ?_
  refine lv_aload_n hx hb dX5_makeGreased_18 rfl (lv_at hl 0 rfl) ?_
  refine va_get (ci := 5) (v := .ref (sA ad 0)) (C := RX5) (T := TX5) (N := 6) hx hb hts inX5 hown hK hP _ (cw_arm (kA := kA) (ad := ad) (X := up2 X 0 (payZ ((up2 X 0 (X 0)) 0) ((X 0) 5)))) rfl 0 (by decide) (hts _ q_170) (fun _ h9 => h9) rfl dX5_makeGreased_19 ?_
  refine va_get (ci := 4) (v := .ref (rA ad 0)) (C := RX4) (T := TX4) (N := 4) hx hb hts inX4 hown hK hP _ (cw_state (kA := kA) (ad := ad) (X := up2 X 0 (payZ ((up2 X 0 (X 0)) 0) ((X 0) 5))) (r := 0) (by omega)) rfl 0 (by decide) (hts _ q_114) (fun _ h9 => h9) rfl dX5_makeGreased_22 ?_
  refine va_get (ci := 3) (v := .int ((payZ ((up2 X 0 (X 0)) 0) ((X 0) 5)) 4)) (C := RX3) (T := TX3) (N := 6) hx hb hts inX3 hown hK hP _ (cw_rules (kA := kA) (ad := ad) (X := up2 X 0 (payZ ((up2 X 0 (X 0)) 0) ((X 0) 5))) (r := 0) (by omega)) rfl 4 (by decide) (hts _ q_45) (fun _ h9 => h9) rfl dX5_makeGreased_25 ?_
  refine va_put (ci := 0) (v := .int ((payZ ((up2 X 0 (X 0)) 0) ((X 0) 5)) 4)) (ty := tyX0 6) (C := RX0) (T := TX0) (N := 12) hx hb hts inX0 tyX0 tyX0_ok nmX0 hown hK hP hD hS _ (cw_gear (kA := kA) (ad := ad) (X := up2 X 0 (payZ ((up2 X 0 (X 0)) 0) ((X 0) 5))) (r := 0) (a := a) (by omega) (by omega)) rfl 6 (by decide) (hts _ q_79) (fun _ h9 => h9) rfl (tyX0_ok 6 (by decide)) rfl rfl (Nat.le_of_ble_eq_true rfl) dX5_makeGreased_28 (fun H locs hP hD hS => ?_)
  have hP : va_P D vwCl (cw kA ad (up3 (up2 X 0 (payZ ((up2 X 0 (X 0)) 0) ((X 0) 5))) 0 (5 + (8 + 35 * a)) ((payZ ((up2 X 0 (X 0)) 0) ((X 0) 5)) 4))) H := by rw [← st_greased (r := 0) (a := a) (by omega) (by omega)]; exact hP
  have hD : va_D (Aw (cw kA ad X)) (cw kA ad (up3 (up2 X 0 (payZ ((up2 X 0 (X 0)) 0) ((X 0) 5))) 0 (5 + (8 + 35 * a)) ((payZ ((up2 X 0 (X 0)) 0) ((X 0) 5)) 4))) := by rw [← st_greased (r := 0) (a := a) (by omega) (by omega)]; exact hD
  rw [nf_3] at hP hD
  exact end_fv hx hb hrt hlk hP hS (fun h => h) dX5_makeGreased_31

theorem hd_X5_homingFact : yX5_homingFact.cls ≠ "java/lang/invoke/MethodHandle" ∧ yX5_homingFact.cls ≠ "java/lang/invoke/VarHandle" ∧ (parseMethodDescriptor yX5_homingFact.desc).map (fun d => d.parameters.length) = some 2 := by decide +kernel
set_option maxRecDepth 100000 in
set_option maxHeartbeats 4000000 in
theorem m_X5_homingFact (l : Launch) (D : va_G) (kA : Nat → Nat) (ad : Nat → Nat) (X : Nat → Nat → Int32) (a : Nat) (p0 : Int32) (ha : a < 4) : Met l yX5_homingFact (Cond.code yX5_homingFact cX5_homingFact 4 (some .int) :: AW) ({ frames := 3, cells := 0, slots := 0, locals := 81 } : Room) (Pz [.ref (ad 0), .ref (gA ad 0 a), .int p0] D (TY kA) (cw kA ad X)) (fQ (some (.int (hfF (X 7) (X 0) a p0))) D (cw kA ad X) (cw kA ad (up2 X 7 (hfT (X 7) (X 0) a)))) 0 0 (Aw (cw kA ad X)) := by
  refine MetZ (by decide +kernel) (Nat.le_of_ble_eq_true rfl) ?_
  intro p e s m below meth c ls hx hb hrt hts hown hml hlk hnm hP hK hD hS hl
  have hl : lv_has ls 4 [(0, .ref (ad 0)), (1, .ref (gA ad 0 a)), (2, .int p0)] := hl
  rw [← up2_self (X := X) (r := 7)] at hP hD
  refine lv_aload_n hx hb dX5_homingFact_0 rfl (lv_at hl 0 rfl) ?_
  refine va_get (ci := 5) (v := .ref (gA ad 7 0)) (C := RX5) (T := TX5) (N := 6) hx hb hts inX5 hown hK hP _ (cw_arm (kA := kA) (ad := ad) (X := up2 X 7 (X 7))) rfl 2 (by decide) (hts _ q_172) (fun _ h9 => h9) rfl dX5_homingFact_1 ?_
  refine lv_aload_n hx hb dX5_homingFact_4 rfl (lv_at hl 1 rfl) ?_
  refine cs_fn (runV (As := [.ref (gA ad 0 a)]) (rest := []) ⟨hx, hb, hml, hown, hts⟩ (m_X0_copyFrom l D kA (gA ad 7 0) (wA ad 7 0) (sl ((X 7)) 0) (gA ad 0 a) (wA ad 0 a) (sl ((X 0)) a) ) q_441 q_372 q_373 q_4 q_374 hd_X0_copyFrom ⟨rfl, rfl⟩ ⟨Nat.le_of_ble_eq_true rfl, Nat.le_of_ble_eq_true rfl⟩ hK (ws := [((gA ad 7 0), gC (wA ad 7 0) (sl ((X 7)) 0)), ((wA ad 7 0), wC kA (sl ((X 7)) 0)), ((gA ad 0 a), gC (wA ad 0 a) (sl ((X 0)) a)), ((wA ad 0 a), wC kA (sl ((X 0)) a))]) (P4 hP (cw_gear (kA := kA) (ad := ad) (X := up2 X 7 (X 7)) (r := 7) (a := 0) (by omega) (by omega)) (cw_wears (kA := kA) (ad := ad) (X := up2 X 7 (X 7)) (r := 7) (a := 0) (by omega) (by omega)) (cw_gear (kA := kA) (ad := ad) (X := up2 X 7 (X 7)) (r := 0) (a := a) (by omega) (by omega)) (cw_wears (kA := kA) (ad := ad) (X := up2 X 7 (X 7)) (r := 0) (a := a) (by omega) (by omega))) (D4 hD (cw_gear (kA := kA) (ad := ad) (X := up2 X 7 (X 7)) (r := 7) (a := 0) (by omega) (by omega)) (cw_wears (kA := kA) (ad := ad) (X := up2 X 7 (X 7)) (r := 7) (a := 0) (by omega) (by omega)) (cw_gear (kA := kA) (ad := ad) (X := up2 X 7 (X 7)) (r := 0) (a := a) (by omega) (by omega)) (cw_wears (kA := kA) (ad := ad) (X := up2 X 7 (X 7)) (r := 0) (a := a) (by omega) (by omega)) (by omega) (by omega) (by omega) (by omega) (by omega) (by omega)) 0 (ci := 0) (C := RX0) (T := TX0) (N := 12) rfl rfl rfl hl.1 rfl (Nat.le_of_ble_eq_true rfl) dX5_homingFact_5 ⟨Nat.zero_le _, Nat.zero_le _⟩) hS (cw_sub (fun q hq => by simp only [List.mem_cons, List.not_mem_nil, or_false] at hq; rcases hq with rfl | rfl | rfl | rfl <;> first | exact ⟨2 * (4 * 7 + 0) + 5, by omega, rfl⟩ | exact ⟨2 * (4 * 7 + 0) + 6, by omega, rfl⟩ | exact ⟨2 * (4 * 0 + a) + 5, by omega, rfl⟩ | exact ⟨2 * (4 * 0 + a) + 6, by omega, rfl⟩)) (fun H locs hP1 hk1 hS => ?_)
  obtain ⟨hP, hD⟩ := jn_G4 (r := 7) (a := 0) (by omega) (by omega) (r' := 0) (a' := a) (by omega) (by omega) (by omega) (G' := (sl ((X 0)) a)) hP hD hk1 hP1
  clear hk1 hP1
  rw [nf_G] at hP hD
  refine lv_aload_n hx hb dX5_homingFact_8 rfl (lv_at hl 0 rfl) ?_
  refine va_get (ci := 5) (v := .ref (gA ad 7 0)) (C := RX5) (T := TX5) (N := 6) hx hb hts inX5 hown hK hP _ (cw_arm (kA := kA) (ad := ad) (X := up2 X 7 (inG (X 7) 0 (sl ((X 0)) a)))) rfl 2 (by decide) (hts _ q_172) (fun _ h9 => h9) rfl dX5_homingFact_9 ?_
  refine lv_aload_n hx hb dX5_homingFact_12 rfl (lv_at hl 0 rfl) ?_
  refine va_get (ci := 5) (v := .ref (sA ad 0)) (C := RX5) (T := TX5) (N := 6) hx hb hts inX5 hown hK hP _ (cw_arm (kA := kA) (ad := ad) (X := up2 X 7 (inG (X 7) 0 (sl ((X 0)) a)))) rfl 0 (by decide) (hts _ q_170) (fun _ h9 => h9) rfl dX5_homingFact_13 ?_
  refine va_get (ci := 4) (v := .int ((X 0) 6)) (C := RX4) (T := TX4) (N := 4) hx hb hts inX4 hown hK hP _ (cw_state (kA := kA) (ad := ad) (X := up2 X 7 (inG (X 7) 0 (sl ((X 0)) a))) (r := 0) (by omega)) rfl 2 (by decide) (hts _ q_117) (fun _ h9 => h9) rfl dX5_homingFact_16 ?_
  refine lv_aload_n hx hb dX5_homingFact_19 rfl (lv_at hl 0 rfl) ?_
  refine va_get (ci := 5) (v := .ref (sA ad 0)) (C := RX5) (T := TX5) (N := 6) hx hb hts inX5 hown hK hP _ (cw_arm (kA := kA) (ad := ad) (X := up2 X 7 (inG (X 7) 0 (sl ((X 0)) a)))) rfl 0 (by decide) (hts _ q_170) (fun _ h9 => h9) rfl dX5_homingFact_20 ?_
  refine va_get (ci := 4) (v := .ref (rA ad 0)) (C := RX4) (T := TX4) (N := 4) hx hb hts inX4 hown hK hP _ (cw_state (kA := kA) (ad := ad) (X := up2 X 7 (inG (X 7) 0 (sl ((X 0)) a))) (r := 0) (by omega)) rfl 0 (by decide) (hts _ q_114) (fun _ h9 => h9) rfl dX5_homingFact_23 ?_
  refine cs_fs (runV (As := [.int ((X 0) 6), .ref (rA ad 0)]) (rest := []) ⟨hx, hb, hml, hown, hts⟩ (m_X0_makeHomed l D kA (gA ad 7 0) (wA ad 7 0) (sl ((inG (X 7) 0 (sl ((X 0)) a))) 0) (rA ad 0) (X 0) ((X 0) 6) ) q_442 q_443 q_444 q_4 q_445 hd_X0_makeHomed ⟨rfl, rfl⟩ ⟨Nat.le_of_ble_eq_true rfl, Nat.le_of_ble_eq_true rfl⟩ hK (ws := [((gA ad 7 0), gC (wA ad 7 0) (sl ((inG (X 7) 0 (sl ((X 0)) a))) 0)), ((wA ad 7 0), wC kA (sl ((inG (X 7) 0 (sl ((X 0)) a))) 0)), ((rA ad 0), rC (X 0))]) (P3 hP (cw_gear (kA := kA) (ad := ad) (X := up2 X 7 (inG (X 7) 0 (sl ((X 0)) a))) (r := 7) (a := 0) (by omega) (by omega)) (cw_wears (kA := kA) (ad := ad) (X := up2 X 7 (inG (X 7) 0 (sl ((X 0)) a))) (r := 7) (a := 0) (by omega) (by omega)) (cw_rules (kA := kA) (ad := ad) (X := up2 X 7 (inG (X 7) 0 (sl ((X 0)) a))) (r := 0) (by omega))) (D3 hD (cw_gear (kA := kA) (ad := ad) (X := up2 X 7 (inG (X 7) 0 (sl ((X 0)) a))) (r := 7) (a := 0) (by omega) (by omega)) (cw_wears (kA := kA) (ad := ad) (X := up2 X 7 (inG (X 7) 0 (sl ((X 0)) a))) (r := 7) (a := 0) (by omega) (by omega)) (cw_rules (kA := kA) (ad := ad) (X := up2 X 7 (inG (X 7) 0 (sl ((X 0)) a))) (r := 0) (by omega)) (by omega) (by omega) (by omega)) 0 (ci := 0) (C := RX0) (T := TX0) (N := 12) rfl rfl rfl hl.1 rfl (Nat.le_of_ble_eq_true rfl) dX5_homingFact_26 ⟨Nat.zero_le _, Nat.zero_le _⟩) hS (cw_sub (fun q hq => by simp only [List.mem_cons, List.not_mem_nil, or_false] at hq; rcases hq with rfl | rfl | rfl <;> first | exact ⟨2 * (4 * 7 + 0) + 5, by omega, rfl⟩ | exact ⟨2 * (4 * 7 + 0) + 6, by omega, rfl⟩ | exact ⟨3 * 0 + 64, by omega, rfl⟩)) (fun H locs hP1 hk1 hS => ?_)
  obtain ⟨hP, hD⟩ := jn_G3 (r := 7) (a := 0) (by omega) (by omega) (r' := 0) (by omega) (G' := (hmG (sl ((inG (X 7) 0 (sl ((X 0)) a))) 0) (X 0) ((X 0) 6))) hP hD hk1 hP1
  clear hk1 hP1
  rw [nf_G] at hP hD
  refine lv_istore_n (lv' := [(3, .int (hmP (sl ((inG (X 7) 0 (sl ((X 0)) a))) 0) (X 0) ((X 0) 6))), (0, .ref (ad 0)), (1, .ref (gA ad 0 a)), (2, .int p0)]) hx hb dX5_homingFact_29 rfl hl (by decide) rfl (fun ls hl => ?_)
  refine lv_iload_n hx hb dX5_homingFact_30 rfl (lv_at hl 3 rfl) ?_
  by_cases c_1 : p0 = 0
  · skip
    refine lv_lookup (off := 25) (tgt := 56) hx hb dX5_homingFact_31 (by decide +kernel) (by rw [c_1]; decide +kernel) (by decide) ?_
    refine lv_aload_n hx hb dX5_homingFact_56 rfl (lv_at hl 1 rfl) ?_
    refine va_get (ci := 5) (v := .ref (gA ad 7 0)) (C := RX5) (T := TX5) (N := 6) hx hb hts inX5 hown hK hP _ (cw_arm (kA := kA) (ad := ad) (X := up2 X 7 (inG (inG (X 7) 0 (sl ((X 0)) a)) 0 (hmG (sl ((inG (X 7) 0 (sl ((X 0)) a))) 0) (X 0) ((X 0) 6))))) rfl 2 (by decide) (hts _ q_172) (fun _ h9 => h9) rfl dX5_homingFact_57 ?_
    refine va_get (ci := 0) (v := .int (sl ((inG (inG (X 7) 0 (sl ((X 0)) a)) 0 (hmG (sl ((inG (X 7) 0 (sl ((X 0)) a))) 0) (X 0) ((X 0) 6)))) 0 6)) (C := RX0) (T := TX0) (N := 12) hx hb hts inX0 hown hK hP _ (cw_gear (kA := kA) (ad := ad) (X := up2 X 7 (inG (inG (X 7) 0 (sl ((X 0)) a)) 0 (hmG (sl ((inG (X 7) 0 (sl ((X 0)) a))) 0) (X 0) ((X 0) 6)))) (r := 7) (a := 0) (by omega) (by omega)) rfl 7 (by decide) (hts _ q_81) (fun _ h9 => h9) rfl dX5_homingFact_60 ?_
    refine lv_aload_n hx hb dX5_homingFact_63 rfl (lv_at hl 2 rfl) ?_
    refine va_get (ci := 0) (v := .int (sl ((X 0)) a 6)) (C := RX0) (T := TX0) (N := 12) hx hb hts inX0 hown hK hP _ (cw_gear (kA := kA) (ad := ad) (X := up2 X 7 (inG (inG (X 7) 0 (sl ((X 0)) a)) 0 (hmG (sl ((inG (X 7) 0 (sl ((X 0)) a))) 0) (X 0) ((X 0) 6)))) (r := 0) (a := a) (by omega) (by omega)) rfl 7 (by decide) (hts _ q_81) (fun _ h9 => h9) rfl dX5_homingFact_64 ?_
    refine lv_isub hx hb dX5_homingFact_67 ?_
    exact end_fi hx hb hrt hlk hP hS (by rw [hfF, if_pos c_1]; rfl) (fun h => h) dX5_homingFact_68
  by_cases c_2 : p0 = 1
  · skip
    refine lv_lookup (off := 38) (tgt := 69) hx hb dX5_homingFact_31 (by decide +kernel) (by rw [c_2]; decide +kernel) (by decide) ?_
    refine lv_iload_n hx hb dX5_homingFact_69 rfl (lv_at hl 0 rfl) ?_
    exact end_fi hx hb hrt hlk hP hS (by rw [hfF, if_neg c_1, if_pos c_2]; rfl) (fun h => h) dX5_homingFact_70
  refine lv_lookup (off := 40) (tgt := 71) hx hb dX5_homingFact_31 (by decide +kernel) (by rw [lv_osw c_1 (by decide)]; rw [lv_osw c_2 (by decide)]; rfl) (by decide) ?_
  refine lv_aload_n hx hb dX5_homingFact_71 rfl (lv_at hl 1 rfl) ?_
  refine va_get (ci := 5) (v := .ref (gA ad 7 0)) (C := RX5) (T := TX5) (N := 6) hx hb hts inX5 hown hK hP _ (cw_arm (kA := kA) (ad := ad) (X := up2 X 7 (inG (inG (X 7) 0 (sl ((X 0)) a)) 0 (hmG (sl ((inG (X 7) 0 (sl ((X 0)) a))) 0) (X 0) ((X 0) 6))))) rfl 2 (by decide) (hts _ q_172) (fun _ h9 => h9) rfl dX5_homingFact_72 ?_
  refine va_get (ci := 0) (v := .int (sl ((inG (inG (X 7) 0 (sl ((X 0)) a)) 0 (hmG (sl ((inG (X 7) 0 (sl ((X 0)) a))) 0) (X 0) ((X 0) 6)))) 0 10)) (C := RX0) (T := TX0) (N := 12) hx hb hts inX0 hown hK hP _ (cw_gear (kA := kA) (ad := ad) (X := up2 X 7 (inG (inG (X 7) 0 (sl ((X 0)) a)) 0 (hmG (sl ((inG (X 7) 0 (sl ((X 0)) a))) 0) (X 0) ((X 0) 6)))) (r := 7) (a := 0) (by omega) (by omega)) rfl 11 (by decide) (hts _ q_86) (fun _ h9 => h9) rfl dX5_homingFact_75 ?_
  refine lv_aload_n hx hb dX5_homingFact_78 rfl (lv_at hl 2 rfl) ?_
  refine va_get (ci := 0) (v := .int (sl ((X 0)) a 10)) (C := RX0) (T := TX0) (N := 12) hx hb hts inX0 hown hK hP _ (cw_gear (kA := kA) (ad := ad) (X := up2 X 7 (inG (inG (X 7) 0 (sl ((X 0)) a)) 0 (hmG (sl ((inG (X 7) 0 (sl ((X 0)) a))) 0) (X 0) ((X 0) 6)))) (r := 0) (a := a) (by omega) (by omega)) rfl 11 (by decide) (hts _ q_86) (fun _ h9 => h9) rfl dX5_homingFact_79 ?_
  refine lv_isub hx hb dX5_homingFact_82 ?_
  exact end_fi hx hb hrt hlk hP hS (by rw [hfF, if_neg c_1, if_neg c_2]; rfl) (fun h => h) dX5_homingFact_83

theorem hd_X5_countOf : yX5_countOf.cls ≠ "java/lang/invoke/MethodHandle" ∧ yX5_countOf.cls ≠ "java/lang/invoke/VarHandle" ∧ (parseMethodDescriptor yX5_countOf.desc).map (fun d => d.parameters.length) = some 1 := by decide +kernel
set_option maxRecDepth 100000 in
set_option maxHeartbeats 4000000 in
theorem m_X5_countOf (l : Launch) (D : va_G) (kA : Nat → Nat) (ad : Nat → Nat) (X : Nat → Nat → Int32) (p0 : Int32) : Met l yX5_countOf (Cond.code yX5_countOf cX5_countOf 2 (some .int) :: AW) ({ frames := 4, cells := 0, slots := 0, locals := 89 } : Room) (Pz [.ref (ad 0), .int p0] D (TY kA) (cw kA ad X)) (pQ (some (.int (coF X p0)))) 0 0 (fun _ => False) := by
  refine MetZ (by decide +kernel) (Nat.le_of_ble_eq_true rfl) ?_
  intro p e s m below meth c ls hx hb hrt hts hown hml hlk hnm hP hK hD hS hl
  have hl : lv_has ls 2 [(0, .ref (ad 0)), (1, .int p0)] := hl
  refine lv_iload_n hx hb dX5_countOf_0 rfl (lv_at hl 1 rfl) ?_
  by_cases c_1 : p0 = 0
  · skip
    refine lv_tableIn (off := 47) (tgt := 48) hx hb dX5_countOf_1 (by rw [c_1]; decide) (by rw [c_1]; decide) (by rw [c_1]; decide +kernel) (by decide) ?_
    refine lv_aload_n hx hb dX5_countOf_48 rfl (lv_at hl 0 rfl) ?_
    refine va_get (ci := 5) (v := .ref (sA ad 0)) (C := RX5) (T := TX5) (N := 6) hx hb hts inX5 hown hK hP _ (cw_arm (kA := kA) (ad := ad) (X := X)) rfl 0 (by decide) (hts _ q_170) (fun _ h9 => h9) rfl dX5_countOf_49 ?_
    refine va_get (ci := 4) (v := .int ((X 0) 6)) (C := RX4) (T := TX4) (N := 4) hx hb hts inX4 hown hK hP _ (cw_state (kA := kA) (ad := ad) (X := X) (r := 0) (by omega)) rfl 2 (by decide) (hts _ q_117) (fun _ h9 => h9) rfl dX5_countOf_52 ?_
    exact end_pi hx hb hrt hlk (by rw [coF, if_pos c_1]) dX5_countOf_55
  by_cases c_2 : p0 = 1
  · skip
    refine lv_tableIn (off := 55) (tgt := 56) hx hb dX5_countOf_1 (by rw [c_2]; decide) (by rw [c_2]; decide) (by rw [c_2]; decide +kernel) (by decide) ?_
    refine lv_aload_n hx hb dX5_countOf_56 rfl (lv_at hl 0 rfl) ?_
    refine va_get (ci := 5) (v := .ref (sA ad 0)) (C := RX5) (T := TX5) (N := 6) hx hb hts inX5 hown hK hP _ (cw_arm (kA := kA) (ad := ad) (X := X)) rfl 0 (by decide) (hts _ q_170) (fun _ h9 => h9) rfl dX5_countOf_57 ?_
    refine lv_bipush (v := 6) hx hb dX5_countOf_60 (by decide) ?_
    refine cs_p (runV (As := [.int 6]) (rest := []) ⟨hx, hb, hml, hown, hts⟩ (m_X4_sumOf l D kA ad X 0 6 (by omega)) q_553 q_554 q_555 q_2 q_556 hd_X4_sumOf ⟨rfl, rfl⟩ ⟨Nat.le_of_ble_eq_true rfl, Nat.le_of_ble_eq_true rfl⟩ hK (ws := (cw kA ad X)) hP hD _ (ci := 4) (C := RX4) (T := TX4) (N := 4) rfl (cw_state (kA := kA) (ad := ad) (X := X) (r := 0) (by omega)) rfl hl.1 rfl (Nat.le_of_ble_eq_true rfl) dX5_countOf_62 ⟨Nat.zero_le _, Nat.zero_le _⟩) ?_
    exact end_pi hx hb hrt hlk (by rw [coF, if_neg c_1, if_pos c_2]) dX5_countOf_65
  by_cases c_3 : p0 = 2
  · skip
    refine lv_tableIn (off := 65) (tgt := 66) hx hb dX5_countOf_1 (by rw [c_3]; decide) (by rw [c_3]; decide) (by rw [c_3]; decide +kernel) (by decide) ?_
    refine lv_aload_n hx hb dX5_countOf_66 rfl (lv_at hl 0 rfl) ?_
    refine va_get (ci := 5) (v := .ref (sA ad 0)) (C := RX5) (T := TX5) (N := 6) hx hb hts inX5 hown hK hP _ (cw_arm (kA := kA) (ad := ad) (X := X)) rfl 0 (by decide) (hts _ q_170) (fun _ h9 => h9) rfl dX5_countOf_67 ?_
    refine lv_bipush (v := 8) hx hb dX5_countOf_70 (by decide) ?_
    refine cs_p (runV (As := [.int 8]) (rest := []) ⟨hx, hb, hml, hown, hts⟩ (m_X4_sumOf l D kA ad X 0 8 (by omega)) q_553 q_554 q_555 q_2 q_556 hd_X4_sumOf ⟨rfl, rfl⟩ ⟨Nat.le_of_ble_eq_true rfl, Nat.le_of_ble_eq_true rfl⟩ hK (ws := (cw kA ad X)) hP hD _ (ci := 4) (C := RX4) (T := TX4) (N := 4) rfl (cw_state (kA := kA) (ad := ad) (X := X) (r := 0) (by omega)) rfl hl.1 rfl (Nat.le_of_ble_eq_true rfl) dX5_countOf_72 ⟨Nat.zero_le _, Nat.zero_le _⟩) ?_
    exact end_pi hx hb hrt hlk (by rw [coF, if_neg c_1, if_neg c_2, if_pos c_3]) dX5_countOf_75
  by_cases c_4 : p0 = 3
  · skip
    refine lv_tableIn (off := 75) (tgt := 76) hx hb dX5_countOf_1 (by rw [c_4]; decide) (by rw [c_4]; decide) (by rw [c_4]; decide +kernel) (by decide) ?_
    refine lv_aload_n hx hb dX5_countOf_76 rfl (lv_at hl 0 rfl) ?_
    refine va_get (ci := 5) (v := .ref (sA ad 0)) (C := RX5) (T := TX5) (N := 6) hx hb hts inX5 hown hK hP _ (cw_arm (kA := kA) (ad := ad) (X := X)) rfl 0 (by decide) (hts _ q_170) (fun _ h9 => h9) rfl dX5_countOf_77 ?_
    refine lv_bipush (v := 7) hx hb dX5_countOf_80 (by decide) ?_
    refine cs_p (runV (As := [.int 7]) (rest := []) ⟨hx, hb, hml, hown, hts⟩ (m_X4_sumOf l D kA ad X 0 7 (by omega)) q_553 q_554 q_555 q_2 q_556 hd_X4_sumOf ⟨rfl, rfl⟩ ⟨Nat.le_of_ble_eq_true rfl, Nat.le_of_ble_eq_true rfl⟩ hK (ws := (cw kA ad X)) hP hD _ (ci := 4) (C := RX4) (T := TX4) (N := 4) rfl (cw_state (kA := kA) (ad := ad) (X := X) (r := 0) (by omega)) rfl hl.1 rfl (Nat.le_of_ble_eq_true rfl) dX5_countOf_82 ⟨Nat.zero_le _, Nat.zero_le _⟩) ?_
    exact end_pi hx hb hrt hlk (by rw [coF, if_neg c_1, if_neg c_2, if_neg c_3, if_pos c_4]) dX5_countOf_85
  by_cases c_5 : p0 = 4
  · skip
    refine lv_tableIn (off := 85) (tgt := 86) hx hb dX5_countOf_1 (by rw [c_5]; decide) (by rw [c_5]; decide) (by rw [c_5]; decide +kernel) (by decide) ?_
    refine lv_aload_n hx hb dX5_countOf_86 rfl (lv_at hl 0 rfl) ?_
    refine va_get (ci := 5) (v := .ref (sA ad 0)) (C := RX5) (T := TX5) (N := 6) hx hb hts inX5 hown hK hP _ (cw_arm (kA := kA) (ad := ad) (X := X)) rfl 0 (by decide) (hts _ q_170) (fun _ h9 => h9) rfl dX5_countOf_87 ?_
    refine va_get (ci := 4) (v := .int ((X 0) 7)) (C := RX4) (T := TX4) (N := 4) hx hb hts inX4 hown hK hP _ (cw_state (kA := kA) (ad := ad) (X := X) (r := 0) (by omega)) rfl 3 (by decide) (hts _ q_119) (fun _ h9 => h9) rfl dX5_countOf_90 ?_
    exact end_pi hx hb hrt hlk (by rw [coF, if_neg c_1, if_neg c_2, if_neg c_3, if_neg c_4, if_pos c_5]) dX5_countOf_93
  by_cases c_6 : p0 = 5
  · skip
    refine lv_tableIn (off := 93) (tgt := 94) hx hb dX5_countOf_1 (by rw [c_6]; decide) (by rw [c_6]; decide) (by rw [c_6]; decide +kernel) (by decide) ?_
    refine lv_aload_n hx hb dX5_countOf_94 rfl (lv_at hl 0 rfl) ?_
    refine va_get (ci := 5) (v := .ref (sA ad 0)) (C := RX5) (T := TX5) (N := 6) hx hb hts inX5 hown hK hP _ (cw_arm (kA := kA) (ad := ad) (X := X)) rfl 0 (by decide) (hts _ q_170) (fun _ h9 => h9) rfl dX5_countOf_95 ?_
    refine cs_p (runV (As := []) (rest := []) ⟨hx, hb, hml, hown, hts⟩ (m_X4_wearOfAll l D kA ad X 0 (by omega)) q_558 q_559 q_560 q_2 q_561 hd_X4_wearOfAll ⟨rfl, rfl⟩ ⟨Nat.le_of_ble_eq_true rfl, Nat.le_of_ble_eq_true rfl⟩ hK (ws := (cw kA ad X)) hP hD _ (ci := 4) (C := RX4) (T := TX4) (N := 4) rfl (cw_state (kA := kA) (ad := ad) (X := X) (r := 0) (by omega)) rfl hl.1 rfl (Nat.le_of_ble_eq_true rfl) dX5_countOf_98 ⟨Nat.zero_le _, Nat.zero_le _⟩) ?_
    exact end_pi hx hb hrt hlk (by rw [coF, if_neg c_1, if_neg c_2, if_neg c_3, if_neg c_4, if_neg c_5, if_pos c_6]) dX5_countOf_101
  by_cases c_7 : p0 = 6
  · skip
    refine lv_tableIn (off := 101) (tgt := 102) hx hb dX5_countOf_1 (by rw [c_7]; decide) (by rw [c_7]; decide) (by rw [c_7]; decide +kernel) (by decide) ?_
    refine lv_aload_n hx hb dX5_countOf_102 rfl (lv_at hl 0 rfl) ?_
    refine va_get (ci := 5) (v := .ref (sA ad 0)) (C := RX5) (T := TX5) (N := 6) hx hb hts inX5 hown hK hP _ (cw_arm (kA := kA) (ad := ad) (X := X)) rfl 0 (by decide) (hts _ q_170) (fun _ h9 => h9) rfl dX5_countOf_103 ?_
    refine lv_aload_n hx hb dX5_countOf_106 rfl (lv_at hl 0 rfl) ?_
    refine va_get (ci := 5) (v := .ref (sA ad 0)) (C := RX5) (T := TX5) (N := 6) hx hb hts inX5 hown hK hP _ (cw_arm (kA := kA) (ad := ad) (X := X)) rfl 0 (by decide) (hts _ q_170) (fun _ h9 => h9) rfl dX5_countOf_107 ?_
    refine va_get (ci := 4) (v := .ref (rA ad 0)) (C := RX4) (T := TX4) (N := 4) hx hb hts inX4 hown hK hP _ (cw_state (kA := kA) (ad := ad) (X := X) (r := 0) (by omega)) rfl 0 (by decide) (hts _ q_114) (fun _ h9 => h9) rfl dX5_countOf_110 ?_
    refine va_get (ci := 3) (v := .int ((X 0) 2)) (C := RX3) (T := TX3) (N := 6) hx hb hts inX3 hown hK hP _ (cw_rules (kA := kA) (ad := ad) (X := X) (r := 0) (by omega)) rfl 2 (by decide) (hts _ q_41) (fun _ h9 => h9) rfl dX5_countOf_113 ?_
    refine cs_p (runV (As := [.int ((X 0) 2)]) (rest := []) ⟨hx, hb, hml, hown, hts⟩ (m_X4_teethWornTo l D kA ad X 0 ((X 0) 2) (by omega)) q_563 q_564 q_565 q_2 q_566 hd_X4_teethWornTo ⟨rfl, rfl⟩ ⟨Nat.le_of_ble_eq_true rfl, Nat.le_of_ble_eq_true rfl⟩ hK (ws := (cw kA ad X)) hP hD _ (ci := 4) (C := RX4) (T := TX4) (N := 4) rfl (cw_state (kA := kA) (ad := ad) (X := X) (r := 0) (by omega)) rfl hl.1 rfl (Nat.le_of_ble_eq_true rfl) dX5_countOf_116 ⟨Nat.zero_le _, Nat.zero_le _⟩) ?_
    exact end_pi hx hb hrt hlk (by rw [coF, if_neg c_1, if_neg c_2, if_neg c_3, if_neg c_4, if_neg c_5, if_neg c_6, if_pos c_7]) dX5_countOf_119
  by_cases c_8 : p0 = 7
  · skip
    refine lv_tableIn (off := 119) (tgt := 120) hx hb dX5_countOf_1 (by rw [c_8]; decide) (by rw [c_8]; decide) (by rw [c_8]; decide +kernel) (by decide) ?_
    refine lv_aload_n hx hb dX5_countOf_120 rfl (lv_at hl 0 rfl) ?_
    refine va_get (ci := 5) (v := .ref (sA ad 0)) (C := RX5) (T := TX5) (N := 6) hx hb hts inX5 hown hK hP _ (cw_arm (kA := kA) (ad := ad) (X := X)) rfl 0 (by decide) (hts _ q_170) (fun _ h9 => h9) rfl dX5_countOf_121 ?_
    refine cs_p (runV (As := []) (rest := []) ⟨hx, hb, hml, hown, hts⟩ (m_X4_axesWhereBelieved l D kA ad X 0 (by omega)) q_567 q_568 q_569 q_2 q_570 hd_X4_axesWhereBelieved ⟨rfl, rfl⟩ ⟨Nat.le_of_ble_eq_true rfl, Nat.le_of_ble_eq_true rfl⟩ hK (ws := (cw kA ad X)) hP hD _ (ci := 4) (C := RX4) (T := TX4) (N := 4) rfl (cw_state (kA := kA) (ad := ad) (X := X) (r := 0) (by omega)) rfl hl.1 rfl (Nat.le_of_ble_eq_true rfl) dX5_countOf_124 ⟨Nat.zero_le _, Nat.zero_le _⟩) ?_
    exact end_pi hx hb hrt hlk (by rw [coF, if_neg c_1, if_neg c_2, if_neg c_3, if_neg c_4, if_neg c_5, if_neg c_6, if_neg c_7, if_pos c_8]) dX5_countOf_127
  refine lv_tableOut (tgt := 128) hx hb dX5_countOf_1 (sw_out 0 7 (by intro k h1 h2; rcases (show k = 0 ∨ k = 1 ∨ k = 2 ∨ k = 3 ∨ k = 4 ∨ k = 5 ∨ k = 6 ∨ k = 7 by omega) with rfl | rfl | rfl | rfl | rfl | rfl | rfl | rfl <;> first | exact lv_neT c_1 (by decide) | exact lv_neT c_2 (by decide) | exact lv_neT c_3 (by decide) | exact lv_neT c_4 (by decide) | exact lv_neT c_5 (by decide) | exact lv_neT c_6 (by decide) | exact lv_neT c_7 (by decide) | exact lv_neT c_8 (by decide))) (by decide) ?_
  refine lv_aload_n hx hb dX5_countOf_128 rfl (lv_at hl 0 rfl) ?_
  refine va_get (ci := 5) (v := .ref (ad 1)) (C := RX5) (T := TX5) (N := 6) hx hb hts inX5 hown hK hP _ (cw_arm (kA := kA) (ad := ad) (X := X)) rfl 1 (by decide) (hts _ q_171) (fun _ h9 => h9) rfl dX5_countOf_129 ?_
  refine va_get (ci := 1) (v := .int ((X 8) 1)) (C := RX1) (T := TX1) (N := 3) hx hb hts inX1 hown hK hP _ (cw_hist (kA := kA) (ad := ad) (X := X)) rfl 2 (by decide) (hts _ q_141) (fun _ h9 => h9) rfl dX5_countOf_132 ?_
  exact end_pi hx hb hrt hlk (by rw [coF, if_neg c_1, if_neg c_2, if_neg c_3, if_neg c_4, if_neg c_5, if_neg c_6, if_neg c_7, if_neg c_8]) dX5_countOf_135

