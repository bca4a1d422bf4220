theorem hd_X5_wayOf : yX5_wayOf.cls ≠ "java/lang/invoke/MethodHandle" ∧ yX5_wayOf.cls ≠ "java/lang/invoke/VarHandle" ∧ (parseMethodDescriptor yX5_wayOf.desc).map (fun d => d.parameters.length) = some 1 := by decide +kernel
set_option maxRecDepth 100000 in
set_option maxHeartbeats 4000000 in
theorem m_X5_wayOf (l : Launch) (D : va_G) (kA : Nat → Nat) (ad : Nat → Nat) (X : Nat → Nat → Int32) (b : Bool) : Met l yX5_wayOf (Cond.code yX5_wayOf cX5_wayOf 1 (some .int) :: AW) ({ frames := 0, cells := 0, slots := 0, locals := 0 } : Room) (Pz [.int (bI b)] D (TY kA) (cw kA ad X)) (pQ (some (.int (wI b)))) 0 0 (fun _ => False) := by
  refine MetZ (by decide +kernel) (Nat.le_of_ble_eq_true rfl) ?_
  intro p e s m below meth c ls hx hb hrt hts hown hml hlk hnm hP hK hD hS hl
  have hl : lv_has ls 1 [(0, .int (bI b))] := hl
  refine lv_iload_n hx hb dX5_wayOf_0 rfl (lv_at hl 0 rfl) ?_
  refine lv_if_eq (tgt := 8) hx hb dX5_wayOf_1 (by decide) (fun c_1 => ?_) (fun c_1 => ?_)
  · skip
    replace c_1 := bI_0.mp c_1
    refine lv_iconst (v := (-1)) hx hb dX5_wayOf_8 (by decide) ?_
    exact end_pi hx hb hrt hlk (by first | rfl | (rw [wI, if_neg (by rw [c_1]; decide)]; done) | (simp only [wI, c_1, ↓reduceIte, bI]; done) | (simp only [wI, c_1, ↓reduceIte, bI]; rfl) | (simp [wI, c_1, bI]; done)) dX5_wayOf_9
  · skip
    replace c_1 := bI_n0 c_1
    refine lv_iconst (v := 1) hx hb dX5_wayOf_4 (by decide) ?_
    refine lv_goto (tgt := 9) hx hb dX5_wayOf_5 (by decide) ?_
    exact end_pi hx hb hrt hlk (by first | rfl | (rw [wI, if_pos c_1]; done) | (simp only [wI, c_1, ↓reduceIte, bI]; done) | (simp only [wI, c_1, ↓reduceIte, bI]; rfl) | (simp [wI, c_1, bI]; done)) dX5_wayOf_9

theorem hd_X5_canStep : yX5_canStep.cls ≠ "java/lang/invoke/MethodHandle" ∧ yX5_canStep.cls ≠ "java/lang/invoke/VarHandle" ∧ (parseMethodDescriptor yX5_canStep.desc).map (fun d => d.parameters.length) = some 2 := by decide +kernel
set_option maxRecDepth 100000 in
set_option maxHeartbeats 4000000 in
theorem m_X5_canStep (l : Launch) (D : va_G) (kA : Nat → Nat) (ad : Nat → Nat) (X : Nat → Nat → Int32) (a : Nat) (p0 : Int32) (ha : a < 4) : Met l yX5_canStep (Cond.code yX5_canStep cX5_canStep 3 (some .boolean) :: AW) ({ frames := 2, cells := 0, slots := 0, locals := 46 } : Room) (Pz [.ref (ad 0), .ref (gA ad 0 a), .int p0] D (TY kA) (cw kA ad X)) (pQ (some (.int (bI (canF (X 0) a p0))))) 0 0 (fun _ => False) := by
  refine MetZ (by decide +kernel) (Nat.le_of_ble_eq_true rfl) ?_
  intro p e s m below meth c ls hx hb hrt hts hown hml hlk hnm hP hK hD hS hl
  have hl : lv_has ls 3 [(0, .ref (ad 0)), (1, .ref (gA ad 0 a)), (2, .int p0)] := hl
  refine lv_aload_n hx hb dX5_canStep_0 rfl (lv_at hl 1 rfl) ?_
  refine lv_iload_n hx hb dX5_canStep_1 rfl (lv_at hl 2 rfl) ?_
  refine lv_aload_n hx hb dX5_canStep_2 rfl (lv_at hl 0 rfl) ?_
  refine va_get (ci := 5) (v := .ref (sA ad 0)) (C := RX5) (T := TX5) (N := 6) hx hb hts inX5 hown hK hP _ (cw_arm (kA := kA) (ad := ad) (X := X)) rfl 0 (by decide) (hts _ q_176) (fun _ h9 => h9) rfl dX5_canStep_3 ?_
  refine va_get (ci := 4) (v := .ref (rA ad 0)) (C := RX4) (T := TX4) (N := 4) hx hb hts inX4 hown hK hP _ (cw_state (kA := kA) (ad := ad) (X := X) (r := 0) (by omega)) rfl 0 (by decide) (hts _ q_117) (fun _ h9 => h9) rfl dX5_canStep_6 ?_
  refine cs_p (runV (As := [.int p0, .ref (rA ad 0)]) (rest := []) ⟨hx, hb, hml, hown, hts⟩ (m_X0_tollOfStep l D kA (gA ad 0 a) (wA ad 0 a) (sl ((X 0)) a) (rA ad 0) (X 0) p0 ) q_307 q_308 q_309 q_4 q_310 hd_X0_tollOfStep ⟨rfl, rfl⟩ ⟨Nat.le_of_ble_eq_true rfl, Nat.le_of_ble_eq_true rfl⟩ hK (ws := [((gA ad 0 a), gC (wA ad 0 a) (sl ((X 0)) a)), ((wA ad 0 a), wC kA (sl ((X 0)) a)), ((rA ad 0), rC (X 0))]) (P3 hP (cw_gear (kA := kA) (ad := ad) (X := X) (r := 0) (a := a) (by omega) (by omega)) (cw_wears (kA := kA) (ad := ad) (X := X) (r := 0) (a := a) (by omega) (by omega)) (cw_rules (kA := kA) (ad := ad) (X := X) (r := 0) (by omega))) (D3 hD (cw_gear (kA := kA) (ad := ad) (X := X) (r := 0) (a := a) (by omega) (by omega)) (cw_wears (kA := kA) (ad := ad) (X := X) (r := 0) (a := a) (by omega) (by omega)) (cw_rules (kA := kA) (ad := ad) (X := X) (r := 0) (by omega)) (by omega) (by omega) (by omega)) 0 (ci := 0) (C := RX0) (T := TX0) (N := 12) rfl rfl rfl hl.1 rfl (Nat.le_of_ble_eq_true rfl) dX5_canStep_9 ⟨Nat.zero_le _, Nat.zero_le _⟩) ?_
  refine lv_aload_n hx hb dX5_canStep_12 rfl (lv_at hl 0 rfl) ?_
  refine va_get (ci := 5) (v := .ref (sA ad 0)) (C := RX5) (T := TX5) (N := 6) hx hb hts inX5 hown hK hP _ (cw_arm (kA := kA) (ad := ad) (X := X)) rfl 0 (by decide) (hts _ q_176) (fun _ h9 => h9) rfl dX5_canStep_13 ?_
  refine va_get (ci := 4) (v := .int ((X 0) 6)) (C := RX4) (T := TX4) (N := 4) hx hb hts inX4 hown hK hP _ (cw_state (kA := kA) (ad := ad) (X := X) (r := 0) (by omega)) rfl 2 (by decide) (hts _ q_120) (fun _ h9 => h9) rfl dX5_canStep_16 ?_
  refine lv_icmp_gt (tgt := 26) hx hb dX5_canStep_19 (by decide) (fun c_1 => ?_) (fun c_1 => ?_)
  · skip
    refine lv_iconst (v := 0) hx hb dX5_canStep_26 (by decide) ?_
    exact end_pz hx hb hrt hlk (by decide) (by first | rfl | (rw [canF, if_pos c_1]; done) | (simp only [canF, c_1, ↓reduceIte, bI]; done) | (simp only [canF, c_1, ↓reduceIte, bI]; rfl) | (simp [canF, c_1, bI]; done)) dX5_canStep_27
  · skip
    refine lv_iconst (v := 1) hx hb dX5_canStep_22 (by decide) ?_
    refine lv_goto (tgt := 27) hx hb dX5_canStep_23 (by decide) ?_
    exact end_pz hx hb hrt hlk (by decide) (by first | rfl | (rw [canF, if_neg c_1]; done) | (simp only [canF, c_1, ↓reduceIte, bI]; done) | (simp only [canF, c_1, ↓reduceIte, bI]; rfl) | (simp [canF, c_1, bI]; done)) dX5_canStep_27

theorem hd_X5_cheaperWay : yX5_cheaperWay.cls ≠ "java/lang/invoke/MethodHandle" ∧ yX5_cheaperWay.cls ≠ "java/lang/invoke/VarHandle" ∧ (parseMethodDescriptor yX5_cheaperWay.desc).map (fun d => d.parameters.length) = some 2 := by decide +kernel
set_option maxRecDepth 100000 in
set_option maxHeartbeats 4000000 in
theorem m_X5_cheaperWay (l : Launch) (D : va_G) (kA : Nat → Nat) (ad : Nat → Nat) (X : Nat → Nat → Int32) (a : Nat) (p0 : Int32) (ha : a < 4) : Met l yX5_cheaperWay (Cond.code yX5_cheaperWay cX5_cheaperWay 5 (some .int) :: AW) ({ frames := 2, cells := 0, slots := 0, locals := 53 } : Room) (Pz [.ref (ad 0), .ref (gA ad 0 a), .int p0] D (TY kA) (cw kA ad X)) (pQ (some (.int (chF (X 0) a p0)))) 0 0 (fun _ => False) := by
  refine MetZ (by decide +kernel) (Nat.le_of_ble_eq_true rfl) ?_
  intro p e s m below meth c ls hx hb hrt hts hown hml hlk hnm hP hK hD hS hl
  have hl : lv_has ls 5 [(0, .ref (ad 0)), (1, .ref (gA ad 0 a)), (2, .int p0)] := hl
  refine lv_aload_n hx hb dX5_cheaperWay_0 rfl (lv_at hl 1 rfl) ?_
  refine lv_iload_n hx hb dX5_cheaperWay_1 rfl (lv_at hl 2 rfl) ?_
  refine lv_iconst (v := 1) hx hb dX5_cheaperWay_2 (by decide) ?_
  refine lv_iconst (v := (-1)) hx hb dX5_cheaperWay_3 (by decide) ?_
  refine lv_aload_n hx hb dX5_cheaperWay_4 rfl (lv_at hl 0 rfl) ?_
  refine va_get (ci := 5) (v := .ref (sA ad 0)) (C := RX5) (T := TX5) (N := 6) hx hb hts inX5 hown hK hP _ (cw_arm (kA := kA) (ad := ad) (X := X)) rfl 0 (by decide) (hts _ q_176) (fun _ h9 => h9) rfl dX5_cheaperWay_5 ?_
  refine va_get (ci := 4) (v := .ref (rA ad 0)) (C := RX4) (T := TX4) (N := 4) hx hb hts inX4 hown hK hP _ (cw_state (kA := kA) (ad := ad) (X := X) (r := 0) (by omega)) rfl 0 (by decide) (hts _ q_117) (fun _ h9 => h9) rfl dX5_cheaperWay_8 ?_
  refine cs_p (runV (As := [.int p0, .int 1, .int (-1), .ref (rA ad 0)]) (rest := []) ⟨hx, hb, hml, hown, hts⟩ (m_X0_costOfWay l D kA (gA ad 0 a) (wA ad 0 a) (sl ((X 0)) a) (rA ad 0) (X 0) p0 1 (-1) ) q_328 q_329 q_330 q_4 q_331 hd_X0_costOfWay ⟨rfl, rfl⟩ ⟨Nat.le_of_ble_eq_true rfl, Nat.le_of_ble_eq_true rfl⟩ hK (ws := [((gA ad 0 a), gC (wA ad 0 a) (sl ((X 0)) a)), ((wA ad 0 a), wC kA (sl ((X 0)) a)), ((rA ad 0), rC (X 0))]) (P3 hP (cw_gear (kA := kA) (ad := ad) (X := X) (r := 0) (a := a) (by omega) (by omega)) (cw_wears (kA := kA) (ad := ad) (X := X) (r := 0) (a := a) (by omega) (by omega)) (cw_rules (kA := kA) (ad := ad) (X := X) (r := 0) (by omega))) (D3 hD (cw_gear (kA := kA) (ad := ad) (X := X) (r := 0) (a := a) (by omega) (by omega)) (cw_wears (kA := kA) (ad := ad) (X := X) (r := 0) (a := a) (by omega) (by omega)) (cw_rules (kA := kA) (ad := ad) (X := X) (r := 0) (by omega)) (by omega) (by omega) (by omega)) 0 (ci := 0) (C := RX0) (T := TX0) (N := 12) rfl rfl rfl hl.1 rfl (Nat.le_of_ble_eq_true rfl) dX5_cheaperWay_11 ⟨Nat.zero_le _, Nat.zero_le _⟩) ?_
  refine lv_istore_n (lv' := [(3, .int (costG (sl ((X 0)) a) (X 0) p0 1 (-1))), (0, .ref (ad 0)), (1, .ref (gA ad 0 a)), (2, .int p0)]) hx hb dX5_cheaperWay_14 rfl hl (by decide) rfl (fun ls hl => ?_)
  refine lv_aload_n hx hb dX5_cheaperWay_15 rfl (lv_at hl 2 rfl) ?_
  refine lv_iload_n hx hb dX5_cheaperWay_16 rfl (lv_at hl 3 rfl) ?_
  refine lv_iconst (v := (-1)) hx hb dX5_cheaperWay_17 (by decide) ?_
  refine lv_iconst (v := (-1)) hx hb dX5_cheaperWay_18 (by decide) ?_
  refine lv_aload_n hx hb dX5_cheaperWay_19 rfl (lv_at hl 1 rfl) ?_
  refine va_get (ci := 5) (v := .ref (sA ad 0)) (C := RX5) (T := TX5) (N := 6) hx hb hts inX5 hown hK hP _ (cw_arm (kA := kA) (ad := ad) (X := X)) rfl 0 (by decide) (hts _ q_176) (fun _ h9 => h9) rfl dX5_cheaperWay_20 ?_
  refine va_get (ci := 4) (v := .ref (rA ad 0)) (C := RX4) (T := TX4) (N := 4) hx hb hts inX4 hown hK hP _ (cw_state (kA := kA) (ad := ad) (X := X) (r := 0) (by omega)) rfl 0 (by decide) (hts _ q_117) (fun _ h9 => h9) rfl dX5_cheaperWay_23 ?_
  refine cs_p (runV (As := [.int p0, .int (-1), .int (-1), .ref (rA ad 0)]) (rest := []) ⟨hx, hb, hml, hown, hts⟩ (m_X0_costOfWay l D kA (gA ad 0 a) (wA ad 0 a) (sl ((X 0)) a) (rA ad 0) (X 0) p0 (-1) (-1) ) q_328 q_329 q_330 q_4 q_331 hd_X0_costOfWay ⟨rfl, rfl⟩ ⟨Nat.le_of_ble_eq_true rfl, Nat.le_of_ble_eq_true rfl⟩ hK (ws := [((gA ad 0 a), gC (wA ad 0 a) (sl ((X 0)) a)), ((wA ad 0 a), wC kA (sl ((X 0)) a)), ((rA ad 0), rC (X 0))]) (P3 hP (cw_gear (kA := kA) (ad := ad) (X := X) (r := 0) (a := a) (by omega) (by omega)) (cw_wears (kA := kA) (ad := ad) (X := X) (r := 0) (a := a) (by omega) (by omega)) (cw_rules (kA := kA) (ad := ad) (X := X) (r := 0) (by omega))) (D3 hD (cw_gear (kA := kA) (ad := ad) (X := X) (r := 0) (a := a) (by omega) (by omega)) (cw_wears (kA := kA) (ad := ad) (X := X) (r := 0) (a := a) (by omega) (by omega)) (cw_rules (kA := kA) (ad := ad) (X := X) (r := 0) (by omega)) (by omega) (by omega) (by omega)) 0 (ci := 0) (C := RX0) (T := TX0) (N := 12) rfl rfl rfl hl.1 rfl (Nat.le_of_ble_eq_true rfl) dX5_cheaperWay_26 ⟨Nat.zero_le _, Nat.zero_le _⟩) ?_
  refine lv_istore (lv' := [(4, .int (costG (sl ((X 0)) a) (X 0) p0 (-1) (-1))), (3, .int (costG (sl ((X 0)) a) (X 0) p0 1 (-1))), (0, .ref (ad 0)), (1, .ref (gA ad 0 a)), (2, .int p0)]) hx hb dX5_cheaperWay_29 hl (by decide) rfl (fun ls hl => ?_)
  refine lv_iload_n hx hb dX5_cheaperWay_31 rfl (lv_at hl 1 rfl) ?_
  refine lv_iload hx hb dX5_cheaperWay_32 (lv_at hl 0 rfl) ?_
  refine lv_icmp_gt (tgt := 41) hx hb dX5_cheaperWay_34 (by decide) (fun c_1 => ?_) (fun c_1 => ?_)
  · skip
    refine lv_iconst (v := (-1)) hx hb dX5_cheaperWay_41 (by decide) ?_
    exact end_pi hx hb hrt hlk (by first | rfl | (rw [chF, if_pos c_1]; done) | (simp only [chF, c_1, ↓reduceIte, bI]; done) | (simp only [chF, c_1, ↓reduceIte, bI]; rfl) | (simp [chF, c_1, bI]; done)) dX5_cheaperWay_42
  · skip
    refine lv_iconst (v := 1) hx hb dX5_cheaperWay_37 (by decide) ?_
    refine lv_goto (tgt := 42) hx hb dX5_cheaperWay_38 (by decide) ?_
    exact end_pi hx hb hrt hlk (by first | rfl | (rw [chF, if_neg c_1]; done) | (simp only [chF, c_1, ↓reduceIte, bI]; done) | (simp only [chF, c_1, ↓reduceIte, bI]; rfl) | (simp [chF, c_1, bI]; done)) dX5_cheaperWay_42

theorem hd_X5_canGo : yX5_canGo.cls ≠ "java/lang/invoke/MethodHandle" ∧ yX5_canGo.cls ≠ "java/lang/invoke/VarHandle" ∧ (parseMethodDescriptor yX5_canGo.desc).map (fun d => d.parameters.length) = some 2 := by decide +kernel
set_option maxRecDepth 100000 in
set_option maxHeartbeats 4000000 in
theorem m_X5_canGo (l : Launch) (D : va_G) (kA : Nat → Nat) (ad : Nat → Nat) (X : Nat → Nat → Int32) (a : Nat) (p0 : Int32) (ha : a < 4) : Met l yX5_canGo (Cond.code yX5_canGo cX5_canGo 3 (some .boolean) :: AW) ({ frames := 3, cells := 0, slots := 0, locals := 77 } : Room) (Pz [.ref (ad 0), .ref (gA ad 0 a), .int p0] D (TY kA) (cw kA ad X)) (pQ (some (.int (bI (cgF (X 0) a p0))))) 0 0 (fun _ => False) := by
  refine MetZ (by decide +kernel) (Nat.le_of_ble_eq_true rfl) ?_
  intro p e s m below meth c ls hx hb hrt hts hown hml hlk hnm hP hK hD hS hl
  have hl : lv_has ls 3 [(0, .ref (ad 0)), (1, .ref (gA ad 0 a)), (2, .int p0)] := hl
  refine lv_aload_n hx hb dX5_canGo_0 rfl (lv_at hl 1 rfl) ?_
  refine va_get (ci := 0) (v := .int (sl ((X 0)) a 1)) (C := RX0) (T := TX0) (N := 12) hx hb hts inX0 hown hK hP _ (cw_gear (kA := kA) (ad := ad) (X := X) (r := 0) (a := a) (by omega) (by omega)) rfl 2 (by decide) (hts _ q_76) (fun _ h9 => h9) rfl dX5_canGo_1 ?_
  refine lv_iload_n hx hb dX5_canGo_4 rfl (lv_at hl 2 rfl) ?_
  refine lv_icmp_eq (tgt := 22) hx hb dX5_canGo_5 (by decide) (fun c_1 => ?_) (fun c_1 => ?_)
  · skip
    refine lv_iconst (v := 1) hx hb dX5_canGo_22 (by decide) ?_
    refine lv_goto (tgt := 27) hx hb dX5_canGo_23 (by decide) ?_
    exact end_pz hx hb hrt hlk (by decide) (by first | rfl | (rw [cgF, if_pos c_1]; done) | (simp only [cgF, c_1, ↓reduceIte, bI]; done) | (simp only [cgF, c_1, ↓reduceIte, bI]; rfl) | (simp [cgF, c_1, bI]; done)) dX5_canGo_27
  · skip
    refine lv_aload_n hx hb dX5_canGo_8 rfl (lv_at hl 0 rfl) ?_
    refine lv_aload_n hx hb dX5_canGo_9 rfl (lv_at hl 1 rfl) ?_
    refine lv_aload_n hx hb dX5_canGo_10 rfl (lv_at hl 0 rfl) ?_
    refine lv_aload_n hx hb dX5_canGo_11 rfl (lv_at hl 1 rfl) ?_
    refine lv_iload_n hx hb dX5_canGo_12 rfl (lv_at hl 2 rfl) ?_
    refine cs_p (runV (As := [.ref (gA ad 0 a), .int p0]) (rest := [.ref (gA ad 0 a), .ref (ad 0)]) ⟨hx, hb, hml, hown, hts⟩ (m_X5_cheaperWay l D kA ad X a p0 (ha)) q_586 q_588 qp_14 q_1 q_589 hd_X5_cheaperWay ⟨rfl, rfl⟩ ⟨Nat.le_of_ble_eq_true rfl, Nat.le_of_ble_eq_true rfl⟩ hK (ws := (cw kA ad X)) hP hD _ (ci := 5) (C := RX5) (T := TX5) (N := 6) rfl (cw_arm (kA := kA) (ad := ad) (X := X)) rfl hl.1 rfl (Nat.le_of_ble_eq_true rfl) dX5_canGo_13 ⟨Nat.zero_le _, Nat.zero_le _⟩) ?_
    refine cs_p (runV (As := [.ref (gA ad 0 a), .int (chF (X 0) a p0)]) (rest := []) ⟨hx, hb, hml, hown, hts⟩ (m_X5_canStep l D kA ad X a (chF (X 0) a p0) (ha)) q_562 q_564 qp_11 q_1 q_565 hd_X5_canStep ⟨rfl, rfl⟩ ⟨Nat.le_of_ble_eq_true rfl, Nat.le_of_ble_eq_true rfl⟩ hK (ws := (cw kA ad X)) hP hD _ (ci := 5) (C := RX5) (T := TX5) (N := 6) rfl (cw_arm (kA := kA) (ad := ad) (X := X)) rfl hl.1 rfl (Nat.le_of_ble_eq_true rfl) dX5_canGo_16 ⟨Nat.zero_le _, Nat.zero_le _⟩) ?_
    refine lv_if_eq (tgt := 26) hx hb dX5_canGo_19 (by decide) (fun c_2 => ?_) (fun c_2 => ?_)
    · skip
      replace c_2 := bI_0.mp c_2
      refine lv_iconst (v := 0) hx hb dX5_canGo_26 (by decide) ?_
      exact end_pz hx hb hrt hlk (by decide) (by first | rfl | (rw [cgF, if_neg c_1, if_neg (by rw [c_2]; decide)]; done) | (simp only [cgF, c_1, c_2, ↓reduceIte, bI]; done) | (simp only [cgF, c_1, c_2, ↓reduceIte, bI]; rfl) | (simp [cgF, c_1, c_2, bI]; done)) dX5_canGo_27
    · skip
      replace c_2 := bI_n0 c_2
      refine lv_iconst (v := 1) hx hb dX5_canGo_22 (by decide) ?_
      refine lv_goto (tgt := 27) hx hb dX5_canGo_23 (by decide) ?_
      exact end_pz hx hb hrt hlk (by decide) (by first | rfl | (rw [cgF, if_neg c_1, if_pos c_2]; done) | (simp only [cgF, c_1, c_2, ↓reduceIte, bI]; done) | (simp only [cgF, c_1, c_2, ↓reduceIte, bI]; rfl) | (simp [cgF, c_1, c_2, bI]; done)) dX5_canGo_27

theorem hd_X5_canGrease : yX5_canGrease.cls ≠ "java/lang/invoke/MethodHandle" ∧ yX5_canGrease.cls ≠ "java/lang/invoke/VarHandle" ∧ (parseMethodDescriptor yX5_canGrease.desc).map (fun d => d.parameters.length) = some 0 := by decide +kernel
set_option maxRecDepth 100000 in
set_option maxHeartbeats 4000000 in
theorem m_X5_canGrease (l : Launch) (D : va_G) (kA : Nat → Nat) (ad : Nat → Nat) (X : Nat → Nat → Int32) : Met l yX5_canGrease (Cond.code yX5_canGrease cX5_canGrease 1 (some .boolean) :: AW) ({ frames := 0, cells := 0, slots := 0, locals := 0 } : Room) (Pz [.ref (ad 0)] D (TY kA) (cw kA ad X)) (pQ (some (.int (bI (gsF (X 0)))))) 0 0 (fun _ => False) := by
  refine MetZ (by decide +kernel) (Nat.le_of_ble_eq_true rfl) ?_
  intro p e s m below meth c ls hx hb hrt hts hown hml hlk hnm hP hK hD hS hl
  have hl : lv_has ls 1 [(0, .ref (ad 0))] := hl
  refine lv_aload_n hx hb dX5_canGrease_0 rfl (lv_at hl 0 rfl) ?_
  refine va_get (ci := 5) (v := .ref (sA ad 0)) (C := RX5) (T := TX5) (N := 6) hx hb hts inX5 hown hK hP _ (cw_arm (kA := kA) (ad := ad) (X := X)) rfl 0 (by decide) (hts _ q_176) (fun _ h9 => h9) rfl dX5_canGrease_1 ?_
  refine va_get (ci := 4) (v := .int ((X 0) 6)) (C := RX4) (T := TX4) (N := 4) hx hb hts inX4 hown hK hP _ (cw_state (kA := kA) (ad := ad) (X := X) (r := 0) (by omega)) rfl 2 (by decide) (hts _ q_120) (fun _ h9 => h9) rfl dX5_canGrease_4 ?_
  refine lv_aload_n hx hb dX5_canGrease_7 rfl (lv_at hl 0 rfl) ?_
  refine va_get (ci := 5) (v := .ref (sA ad 0)) (C := RX5) (T := TX5) (N := 6) hx hb hts inX5 hown hK hP _ (cw_arm (kA := kA) (ad := ad) (X := X)) rfl 0 (by decide) (hts _ q_176) (fun _ h9 => h9) rfl dX5_canGrease_8 ?_
  refine va_get (ci := 4) (v := .ref (rA ad 0)) (C := RX4) (T := TX4) (N := 4) hx hb hts inX4 hown hK hP _ (cw_state (kA := kA) (ad := ad) (X := X) (r := 0) (by omega)) rfl 0 (by decide) (hts _ q_117) (fun _ h9 => h9) rfl dX5_canGrease_11 ?_
  refine va_get (ci := 3) (v := .int ((X 0) 5)) (C := RX3) (T := TX3) (N := 6) hx hb hts inX3 hown hK hP _ (cw_rules (kA := kA) (ad := ad) (X := X) (r := 0) (by omega)) rfl 5 (by decide) (hts _ q_49) (fun _ h9 => h9) rfl dX5_canGrease_14 ?_
  refine lv_icmp_lt (tgt := 24) hx hb dX5_canGrease_17 (by decide) (fun c_1 => ?_) (fun c_1 => ?_)
  · skip
    refine lv_iconst (v := 0) hx hb dX5_canGrease_24 (by decide) ?_
    exact end_pz hx hb hrt hlk (by decide) (by first | rfl | (rw [gsF, if_pos c_1]; done) | (simp only [gsF, c_1, ↓reduceIte, bI]; done) | (simp only [gsF, c_1, ↓reduceIte, bI]; rfl) | (simp [gsF, c_1, bI]; done)) dX5_canGrease_25
  · skip
    refine lv_iconst (v := 1) hx hb dX5_canGrease_20 (by decide) ?_
    refine lv_goto (tgt := 25) hx hb dX5_canGrease_21 (by decide) ?_
    exact end_pz hx hb hrt hlk (by decide) (by first | rfl | (rw [gsF, if_neg c_1]; done) | (simp only [gsF, c_1, ↓reduceIte, bI]; done) | (simp only [gsF, c_1, ↓reduceIte, bI]; rfl) | (simp [gsF, c_1, bI]; done)) dX5_canGrease_25

theorem hd_X5_makeSteps : yX5_makeSteps.cls ≠ "java/lang/invoke/MethodHandle" ∧ yX5_makeSteps.cls ≠ "java/lang/invoke/VarHandle" ∧ (parseMethodDescriptor yX5_makeSteps.desc).map (fun d => d.parameters.length) = some 3 := by decide +kernel
set_option maxRecDepth 100000 in
set_option maxHeartbeats 4000000 in
theorem m_X5_makeSteps (l : Launch) (D : va_G) (kA : Nat → Nat) (ad : Nat → Nat) (X : Nat → Nat → Int32) (a : Nat) (p0 : Int32) (p1 : Int32) (k : Nat) (ha : a < 4) (hm : p1 = nI k) (hk : k < 1000) : Met l yX5_makeSteps (Cond.code yX5_makeSteps cX5_makeSteps 6 (some .int) :: AW) ({ frames := 2, cells := 0, slots := 0, locals := 51 } : Room) (Pz [.ref (ad 0), .ref (gA ad 0 a), .int p0, .int p1] D (TY kA) (cw kA ad X)) (fQ (some (.int ((msL a p0 k (X 0) 0).1))) D (cw kA ad X) (cw kA ad (up2 X 0 (msL a p0 k (X 0) 0).2))) 0 0 (Aw (cw kA ad X)) := by
  refine MetZ (by decide +kernel) (Nat.le_of_ble_eq_true rfl) ?_
  intro p e s m below meth c ls hx hb hrt hts hown hml hlk hnm hP hK hD hS hl
  have hl : lv_has ls 6 [(0, .ref (ad 0)), (1, .ref (gA ad 0 a)), (2, .int p0), (3, .int p1)] := hl
  rw [← up2_self (X := X) (r := 0)] at hP hD
  refine lv_iconst (v := 0) hx hb dX5_makeSteps_0 (by decide) ?_
  refine lv_istore (lv' := [(4, .int 0), (0, .ref (ad 0)), (1, .ref (gA ad 0 a)), (2, .int p0), (3, .int p1)]) hx hb dX5_makeSteps_1 hl (by decide) rfl (fun ls hl => ?_)
  have loop_3 : ∀ (n : Nat) (j : Nat) (z : Nat → Int32) (x4 : Int32) (hj : j + n = k) (e4 : x4 = nI j) (hres : msL a p0 n z x4 = msL a p0 k (X 0) 0), ∀ (H : Heap) (locs : List Loc), va_P D vwCl (cw kA ad (up2 X 0 z)) H → va_D (Aw (cw kA ad X)) (cw kA ad (up2 X 0 z)) → va_S (Aw (cw kA ad X)) s.heap H locs → ∀ ls : Array Slot, lv_has ls 6 [(0, .ref (ad 0)), (1, .ref (gA ad 0 a)), (2, .int p0), (3, .int p1), (4, .int x4)] → W p l e ({ frames := 2, cells := 0, slots := 0, locals := 51 } : Room) s m [.ref (ad 0), .ref (gA ad 0 a), .int p0, .int p1].toArray below meth c H locs 0 0 (MQ below (fQ (some (.int ((msL a p0 k (X 0) 0).1))) D (cw kA ad X) (cw kA ad (up2 X 0 (msL a p0 k (X 0) 0).2))) [.ref (ad 0), .ref (gA ad 0 a), .int p0, .int p1].toArray s 0 0 (Aw (cw kA ad X))) (F0 m 3 ls []) := by
    clear hl
    clear hP hD hS
    intro n
    induction n with
    | zero =>
      intro j z x4 hj e4 hres H locs hP hD hS ls hl
      refine lv_iload hx hb dX5_makeSteps_3 (lv_at hl 4 rfl) ?_
      refine lv_iload_n hx hb dX5_makeSteps_5 rfl (lv_at hl 3 rfl) ?_
      refine lv_icmp_ge (tgt := 58) hx hb dX5_makeSteps_6 (by decide) (fun c_1 => ?_) (fun c_1 => ?_)
      · skip
        replace c_1 := ge_n c_1
        refine lv_iload hx hb dX5_makeSteps_58 (lv_at hl 4 rfl) ?_
        exact end_fi hx hb hrt hlk hP hS (by rw [← hres]; rfl) (fun h => by rw [← hres]; exact h) dX5_makeSteps_60
      · exact absurd c_1 (fun h => h (cnt_ge (N := k) e4 hm.symm (by omega) (by omega)))
    | succ n ih3 =>
      intro j z x4 hj e4 hres H locs hP hD hS ls hl
      refine lv_iload hx hb dX5_makeSteps_3 (lv_at hl 4 rfl) ?_
      refine lv_iload_n hx hb dX5_makeSteps_5 rfl (lv_at hl 3 rfl) ?_
      refine lv_icmp_ge (tgt := 58) hx hb dX5_makeSteps_6 (by decide) (fun c_2 => ?_) (fun c_2 => ?_)
      · exact absurd c_2 (cnt_nge (N := k) e4 hm.symm (by omega) (by omega))
      · skip
        replace c_2 := nge_l c_2
        refine lv_aload_n hx hb dX5_makeSteps_9 rfl (lv_at hl 1 rfl) ?_
        refine lv_iload_n hx hb dX5_makeSteps_10 rfl (lv_at hl 2 rfl) ?_
        refine lv_aload_n hx hb dX5_makeSteps_11 rfl (lv_at hl 0 rfl) ?_
        refine va_get (ci := 5) (v := .ref (sA ad 0)) (C := RX5) (T := TX5) (N := 6) hx hb hts inX5 hown hK hP _ (cw_arm (kA := kA) (ad := ad) (X := up2 X 0 z)) rfl 0 (by decide) (hts _ q_176) (fun _ h9 => h9) rfl dX5_makeSteps_12 ?_
        refine va_get (ci := 4) (v := .int (z 6)) (C := RX4) (T := TX4) (N := 4) hx hb hts inX4 hown hK hP _ (cw_state (kA := kA) (ad := ad) (X := up2 X 0 z) (r := 0) (by omega)) rfl 2 (by decide) (hts _ q_120) (fun _ h9 => h9) rfl dX5_makeSteps_15 ?_
        refine lv_aload_n hx hb dX5_makeSteps_18 rfl (lv_at hl 0 rfl) ?_
        refine va_get (ci := 5) (v := .ref (sA ad 0)) (C := RX5) (T := TX5) (N := 6) hx hb hts inX5 hown hK hP _ (cw_arm (kA := kA) (ad := ad) (X := up2 X 0 z)) rfl 0 (by decide) (hts _ q_176) (fun _ h9 => h9) rfl dX5_makeSteps_19 ?_
        refine va_get (ci := 4) (v := .ref (rA ad 0)) (C := RX4) (T := TX4) (N := 4) hx hb hts inX4 hown hK hP _ (cw_state (kA := kA) (ad := ad) (X := up2 X 0 z) (r := 0) (by omega)) rfl 0 (by decide) (hts _ q_117) (fun _ h9 => h9) rfl dX5_makeSteps_22 ?_
        refine cs_fs (runV (As := [.int p0, .int (z 6), .ref (rA ad 0)]) (rest := []) ⟨hx, hb, hml, hown, hts⟩ (m_X0_makeStep l D kA (gA ad 0 a) (wA ad 0 a) (sl (z) a) (rA ad 0) z p0 (z 6) ) q_366 q_351 q_352 q_4 q_353 hd_X0_makeStep ⟨rfl, rfl⟩ ⟨Nat.le_of_ble_eq_true rfl, Nat.le_of_ble_eq_true rfl⟩ hK (ws := [((gA ad 0 a), gC (wA ad 0 a) (sl (z) a)), ((wA ad 0 a), wC kA (sl (z) a)), ((rA ad 0), rC z)]) (P3 hP (cw_gear (kA := kA) (ad := ad) (X := up2 X 0 z) (r := 0) (a := a) (by omega) (by omega)) (cw_wears (kA := kA) (ad := ad) (X := up2 X 0 z) (r := 0) (a := a) (by omega) (by omega)) (cw_rules (kA := kA) (ad := ad) (X := up2 X 0 z) (r := 0) (by omega))) (D3 hD (cw_gear (kA := kA) (ad := ad) (X := up2 X 0 z) (r := 0) (a := a) (by omega) (by omega)) (cw_wears (kA := kA) (ad := ad) (X := up2 X 0 z) (r := 0) (a := a) (by omega) (by omega)) (cw_rules (kA := kA) (ad := ad) (X := up2 X 0 z) (r := 0) (by omega)) (by omega) (by omega) (by omega)) 0 (ci := 0) (C := RX0) (T := TX0) (N := 12) rfl rfl rfl hl.1 rfl (Nat.le_of_ble_eq_true rfl) dX5_makeSteps_25 ⟨Nat.zero_le _, Nat.zero_le _⟩) hS (cw_sub (fun q hq => by simp only [List.mem_cons, List.not_mem_nil, or_false] at hq; rcases hq with rfl | rfl | rfl <;> first | exact ⟨2 * (4 * 0 + a) + 5, by omega, rfl⟩ | exact ⟨2 * (4 * 0 + a) + 6, by omega, rfl⟩ | exact ⟨3 * 0 + 64, by omega, rfl⟩)) (fun H locs hP1 hk1 hS => ?_)
        obtain ⟨hP, hD⟩ := jn_G3 (r := 0) (a := a) (by omega) (by omega) (r' := 0) (by omega) (G' := (msG (sl (z) a) z p0 (z 6))) hP hD hk1 hP1
        clear hk1 hP1
        rw [nf_G] at hP hD
        refine lv_istore (lv' := [(5, .int (msR (sl (z) a) z p0 (z 6))), (0, .ref (ad 0)), (1, .ref (gA ad 0 a)), (2, .int p0), (3, .int p1), (4, .int x4)]) hx hb dX5_makeSteps_28 hl (by decide) rfl (fun ls hl => ?_)
        refine lv_iload hx hb dX5_makeSteps_30 (lv_at hl 0 rfl) ?_
        refine lv_if_ne (tgt := 38) hx hb dX5_makeSteps_32 (by decide) (fun c_3 => ?_) (fun c_3 => ?_)
        · skip
          refine lv_aload_n hx hb dX5_makeSteps_38 rfl (lv_at hl 1 rfl) ?_
          refine va_get (ci := 5) (v := .ref (sA ad 0)) (C := RX5) (T := TX5) (N := 6) hx hb hts inX5 hown hK hP _ (cw_arm (kA := kA) (ad := ad) (X := up2 X 0 (inG z a (msG (sl (z) a) z p0 (z 6))))) rfl 0 (by decide) (hts _ q_176) (fun _ h9 => h9) rfl dX5_makeSteps_39 ?_
          refine lv_dup hx hb dX5_makeSteps_42 rfl ?_
          refine va_get (ci := 4) (v := .int ((inG z a (msG (sl (z) a) z p0 (z 6))) 6)) (C := RX4) (T := TX4) (N := 4) hx hb hts inX4 hown hK hP _ (cw_state (kA := kA) (ad := ad) (X := up2 X 0 (inG z a (msG (sl (z) a) z p0 (z 6)))) (r := 0) (by omega)) rfl 2 (by decide) (hts _ q_120) (fun _ h9 => h9) rfl dX5_makeSteps_43 ?_
          refine lv_iload hx hb dX5_makeSteps_46 (lv_at hl 0 rfl) ?_
          refine lv_isub hx hb dX5_makeSteps_48 ?_
          refine va_put (ci := 4) (v := .int (((inG z a (msG (sl (z) a) z p0 (z 6))) 6) - (msR (sl (z) a) z p0 (z 6)))) (ty := tyX4 2) (C := RX4) (T := TX4) (N := 4) hx hb hts inX4 tyX4 tyX4_ok nmX4 hown hK hP hD hS _ (cw_state (kA := kA) (ad := ad) (X := up2 X 0 (inG z a (msG (sl (z) a) z p0 (z 6)))) (r := 0) (by omega)) rfl 2 (by decide) (hts _ q_120) (fun _ h9 => h9) rfl (tyX4_ok 2 (by decide)) rfl rfl (Nat.le_of_ble_eq_true rfl) dX5_makeSteps_49 (fun H locs hP hD hS => ?_)
          have hP : va_P D vwCl (cw kA ad (up3 (up2 X 0 (inG z a (msG (sl (z) a) z p0 (z 6)))) 0 6 (((inG z a (msG (sl (z) a) z p0 (z 6))) 6) - (msR (sl (z) a) z p0 (z 6))))) H := by rw [← st_purse (r := 0) (by omega)]; exact hP
          have hD : va_D (Aw (cw kA ad X)) (cw kA ad (up3 (up2 X 0 (inG z a (msG (sl (z) a) z p0 (z 6)))) 0 6 (((inG z a (msG (sl (z) a) z p0 (z 6))) 6) - (msR (sl (z) a) z p0 (z 6))))) := by rw [← st_purse (r := 0) (by omega)]; exact hD
          rw [nf_3] at hP hD
          refine lv_iinc (v := x4 + 1) (lv' := [(4, .int (x4 + 1)), (5, .int (msR (sl (z) a) z p0 (z 6))), (0, .ref (ad 0)), (1, .ref (gA ad 0 a)), (2, .int p0), (3, .int p1)]) hx hb dX5_makeSteps_52 hl (k := 5) rfl (by first | rfl | exact congrArg (_ + ·) (by decide)) (by decide) rfl (fun ls hl => ?_)
          refine lv_goto (tgt := 3) hx hb dX5_makeSteps_55 (by decide) ?_
          exact ih3 (j + 1) (upd (inG z a (msG (sl (z) a) z p0 (z 6))) 6 (((inG z a (msG (sl (z) a) z p0 (z 6))) 6) - (msR (sl (z) a) z p0 (z 6)))) (x4 + 1) (by omega) (by rw [e4]; exact nI_1 j) (by rw [← hres, msL, if_neg c_3]; rfl) _ _ hP hD hS ls (lv_sub hl [2, 3, 4, 5, 0] rfl)
        · skip
          refine lv_goto (tgt := 58) hx hb dX5_makeSteps_35 (by decide) ?_
          refine lv_iload hx hb dX5_makeSteps_58 (lv_at hl 5 rfl) ?_
          exact end_fi hx hb hrt hlk hP hS (by rw [← hres, msL, if_pos c_3]) (fun h => by rw [← hres, msL, if_pos c_3]; exact h) dX5_makeSteps_60
  exact loop_3 k 0 (X 0) 0 (by omega) (nI_0.symm) (rfl) _ _ hP hD hS ls (lv_sub hl [1, 2, 3, 4, 0] rfl)

theorem hd_X5_goTo : yX5_goTo.cls ≠ "java/lang/invoke/MethodHandle" ∧ yX5_goTo.cls ≠ "java/lang/invoke/VarHandle" ∧ (parseMethodDescriptor yX5_goTo.desc).map (fun d => d.parameters.length) = some 2 := by decide +kernel
set_option maxRecDepth 100000 in
set_option maxHeartbeats 4000000 in
theorem m_X5_goTo (l : Launch) (D : va_G) (kA : Nat → Nat) (ad : Nat → Nat) (X : Nat → Nat → Int32) (a : Nat) (p0 : Int32) (ha : a < 4) : Met l yX5_goTo (Cond.code yX5_goTo cX5_goTo 7 (some .int) :: AW) ({ frames := 3, cells := 0, slots := 0, locals := 77 } : Room) (Pz [.ref (ad 0), .ref (gA ad 0 a), .int p0] D (TY kA) (cw kA ad X)) (fQ (some (.int ((gtF (X 0) a p0).1))) D (cw kA ad X) (cw kA ad (up2 X 0 (gtF (X 0) a p0).2))) 0 0 (Aw (cw kA ad X)) := by
  refine MetZ (by decide +kernel) (Nat.le_of_ble_eq_true rfl) ?_
  intro p e s m below meth c ls hx hb hrt hts hown hml hlk hnm hP hK hD hS hl
  have hl : lv_has ls 7 [(0, .ref (ad 0)), (1, .ref (gA ad 0 a)), (2, .int p0)] := hl
  rw [← up2_self (X := X) (r := 0)] at hP hD
  refine lv_aload_n hx hb dX5_goTo_0 rfl (lv_at hl 0 rfl) ?_
  refine lv_aload_n hx hb dX5_goTo_1 rfl (lv_at hl 1 rfl) ?_
  refine lv_iload_n hx hb dX5_goTo_2 rfl (lv_at hl 2 rfl) ?_
  refine cs_p (runV (As := [.ref (gA ad 0 a), .int p0]) (rest := []) ⟨hx, hb, hml, hown, hts⟩ (m_X5_cheaperWay l D kA ad (up2 X 0 (X 0)) a p0 (ha)) q_586 q_588 qp_14 q_1 q_589 hd_X5_cheaperWay ⟨rfl, rfl⟩ ⟨Nat.le_of_ble_eq_true rfl, Nat.le_of_ble_eq_true rfl⟩ hK (ws := (cw kA ad (up2 X 0 (X 0)))) hP hD _ (ci := 5) (C := RX5) (T := TX5) (N := 6) rfl (cw_arm (kA := kA) (ad := ad) (X := up2 X 0 (X 0))) rfl hl.1 rfl (Nat.le_of_ble_eq_true rfl) dX5_goTo_3 ⟨Nat.zero_le _, Nat.zero_le _⟩) ?_
  refine lv_istore_n (lv' := [(3, .int (chF ((up2 X 0 (X 0)) 0) a p0)), (0, .ref (ad 0)), (1, .ref (gA ad 0 a)), (2, .int p0)]) hx hb dX5_goTo_6 rfl hl (by decide) rfl (fun ls hl => ?_)
  refine lv_iconst (v := 0) hx hb dX5_goTo_7 (by decide) ?_
  refine lv_istore (lv' := [(4, .int 0), (3, .int (chF ((up2 X 0 (X 0)) 0) a p0)), (0, .ref (ad 0)), (1, .ref (gA ad 0 a)), (2, .int p0)]) hx hb dX5_goTo_8 hl (by decide) rfl (fun ls hl => ?_)
  refine lv_iconst (v := 0) hx hb dX5_goTo_10 (by decide) ?_
  refine lv_istore (lv' := [(5, .int 0), (4, .int 0), (3, .int (chF ((up2 X 0 (X 0)) 0) a p0)), (0, .ref (ad 0)), (1, .ref (gA ad 0 a)), (2, .int p0)]) hx hb dX5_goTo_11 hl (by decide) rfl (fun ls hl => ?_)
  have loop_13 : ∀ (n : Nat) (j : Nat) (z : Nat → Int32) (x4 : Int32) (x5 : Int32) (hj : j + n = 24) (e5 : x5 = nI j) (hres : gtL a (chF (X 0) a p0) p0 n z x4 = gtF (X 0) a p0), ∀ (H : Heap) (locs : List Loc), va_P D vwCl (cw kA ad (up2 X 0 z)) H → va_D (Aw (cw kA ad X)) (cw kA ad (up2 X 0 z)) → va_S (Aw (cw kA ad X)) s.heap H locs → ∀ ls : Array Slot, lv_has ls 7 [(0, .ref (ad 0)), (1, .ref (gA ad 0 a)), (2, .int p0), (3, .int (chF (X 0) a p0)), (4, .int x4), (5, .int x5)] → W p l e ({ frames := 3, cells := 0, slots := 0, locals := 77 } : Room) s m [.ref (ad 0), .ref (gA ad 0 a), .int p0].toArray below meth c H locs 0 0 (MQ below (fQ (some (.int ((gtF (X 0) a p0).1))) D (cw kA ad X) (cw kA ad (up2 X 0 (gtF (X 0) a p0).2))) [.ref (ad 0), .ref (gA ad 0 a), .int p0].toArray s 0 0 (Aw (cw kA ad X))) (F0 m 13 ls []) := by
    clear hl
    clear hP hD hS
    intro n
    induction n with
    | zero =>
      intro j z x4 x5 hj e5 hres H locs hP hD hS ls hl
      refine lv_iload hx hb dX5_goTo_13 (lv_at hl 5 rfl) ?_
      refine lv_bipush (v := 24) hx hb dX5_goTo_15 (by decide) ?_
      refine lv_icmp_ge (tgt := 84) hx hb dX5_goTo_17 (by decide) (fun c_1 => ?_) (fun c_1 => ?_)
      · skip
        replace c_1 := ge_n c_1
        refine lv_iload hx hb dX5_goTo_84 (lv_at hl 4 rfl) ?_
        exact end_fi hx hb hrt hlk hP hS (by rw [← hres]; rfl) (fun h => by rw [← hres]; exact h) dX5_goTo_86
      · exact absurd c_1 (fun h => h (cnt_ge (N := 24) e5 rfl (by omega) (by omega)))
    | succ n ih13 =>
      intro j z x4 x5 hj e5 hres H locs hP hD hS ls hl
      refine lv_iload hx hb dX5_goTo_13 (lv_at hl 5 rfl) ?_
      refine lv_bipush (v := 24) hx hb dX5_goTo_15 (by decide) ?_
      refine lv_icmp_ge (tgt := 84) hx hb dX5_goTo_17 (by decide) (fun c_2 => ?_) (fun c_2 => ?_)
      · exact absurd c_2 (cnt_nge (N := 24) e5 rfl (by decide) (by omega))
      · skip
        replace c_2 := nge_l c_2
        refine lv_aload_n hx hb dX5_goTo_20 rfl (lv_at hl 1 rfl) ?_
        refine va_get (ci := 0) (v := .int (sl (z) a 1)) (C := RX0) (T := TX0) (N := 12) hx hb hts inX0 hown hK hP _ (cw_gear (kA := kA) (ad := ad) (X := up2 X 0 z) (r := 0) (a := a) (by omega) (by omega)) rfl 2 (by decide) (hts _ q_76) (fun _ h9 => h9) rfl dX5_goTo_21 ?_
        refine lv_iload_n hx hb dX5_goTo_24 rfl (lv_at hl 2 rfl) ?_
        refine lv_icmp_eq (tgt := 84) hx hb dX5_goTo_25 (by decide) (fun c_3 => ?_) (fun c_3 => ?_)
        · skip
          refine lv_iload hx hb dX5_goTo_84 (lv_at hl 4 rfl) ?_
          exact end_fi hx hb hrt hlk hP hS (by rw [← hres, gtL, if_pos c_3]) (fun h => by rw [← hres, gtL, if_pos c_3]; exact h) dX5_goTo_86
        · skip
          refine lv_aload_n hx hb dX5_goTo_28 rfl (lv_at hl 1 rfl) ?_
          refine lv_iload_n hx hb dX5_goTo_29 rfl (lv_at hl 3 rfl) ?_
          refine lv_aload_n hx hb dX5_goTo_30 rfl (lv_at hl 0 rfl) ?_
          refine va_get (ci := 5) (v := .ref (sA ad 0)) (C := RX5) (T := TX5) (N := 6) hx hb hts inX5 hown hK hP _ (cw_arm (kA := kA) (ad := ad) (X := up2 X 0 z)) rfl 0 (by decide) (hts _ q_176) (fun _ h9 => h9) rfl dX5_goTo_31 ?_
          refine va_get (ci := 4) (v := .int (z 6)) (C := RX4) (T := TX4) (N := 4) hx hb hts inX4 hown hK hP _ (cw_state (kA := kA) (ad := ad) (X := up2 X 0 z) (r := 0) (by omega)) rfl 2 (by decide) (hts _ q_120) (fun _ h9 => h9) rfl dX5_goTo_34 ?_
          refine lv_aload_n hx hb dX5_goTo_37 rfl (lv_at hl 0 rfl) ?_
          refine va_get (ci := 5) (v := .ref (sA ad 0)) (C := RX5) (T := TX5) (N := 6) hx hb hts inX5 hown hK hP _ (cw_arm (kA := kA) (ad := ad) (X := up2 X 0 z)) rfl 0 (by decide) (hts _ q_176) (fun _ h9 => h9) rfl dX5_goTo_38 ?_
          refine va_get (ci := 4) (v := .ref (rA ad 0)) (C := RX4) (T := TX4) (N := 4) hx hb hts inX4 hown hK hP _ (cw_state (kA := kA) (ad := ad) (X := up2 X 0 z) (r := 0) (by omega)) rfl 0 (by decide) (hts _ q_117) (fun _ h9 => h9) rfl dX5_goTo_41 ?_
          refine cs_fs (runV (As := [.int (chF (X 0) a p0), .int (z 6), .ref (rA ad 0)]) (rest := []) ⟨hx, hb, hml, hown, hts⟩ (m_X0_makeStep l D kA (gA ad 0 a) (wA ad 0 a) (sl (z) a) (rA ad 0) z (chF (X 0) a p0) (z 6) ) q_366 q_351 q_352 q_4 q_353 hd_X0_makeStep ⟨rfl, rfl⟩ ⟨Nat.le_of_ble_eq_true rfl, Nat.le_of_ble_eq_true rfl⟩ hK (ws := [((gA ad 0 a), gC (wA ad 0 a) (sl (z) a)), ((wA ad 0 a), wC kA (sl (z) a)), ((rA ad 0), rC z)]) (P3 hP (cw_gear (kA := kA) (ad := ad) (X := up2 X 0 z) (r := 0) (a := a) (by omega) (by omega)) (cw_wears (kA := kA) (ad := ad) (X := up2 X 0 z) (r := 0) (a := a) (by omega) (by omega)) (cw_rules (kA := kA) (ad := ad) (X := up2 X 0 z) (r := 0) (by omega))) (D3 hD (cw_gear (kA := kA) (ad := ad) (X := up2 X 0 z) (r := 0) (a := a) (by omega) (by omega)) (cw_wears (kA := kA) (ad := ad) (X := up2 X 0 z) (r := 0) (a := a) (by omega) (by omega)) (cw_rules (kA := kA) (ad := ad) (X := up2 X 0 z) (r := 0) (by omega)) (by omega) (by omega) (by omega)) 0 (ci := 0) (C := RX0) (T := TX0) (N := 12) rfl rfl rfl hl.1 rfl (Nat.le_of_ble_eq_true rfl) dX5_goTo_44 ⟨Nat.zero_le _, Nat.zero_le _⟩) hS (cw_sub (fun q hq => by simp only [List.mem_cons, List.not_mem_nil, or_false] at hq; rcases hq with rfl | rfl | rfl <;> first | exact ⟨2 * (4 * 0 + a) + 5, by omega, rfl⟩ | exact ⟨2 * (4 * 0 + a) + 6, by omega, rfl⟩ | exact ⟨3 * 0 + 64, by omega, rfl⟩)) (fun H locs hP1 hk1 hS => ?_)
          obtain ⟨hP, hD⟩ := jn_G3 (r := 0) (a := a) (by omega) (by omega) (r' := 0) (by omega) (G' := (msG (sl (z) a) z (chF (X 0) a p0) (z 6))) hP hD hk1 hP1
          clear hk1 hP1
          rw [nf_G] at hP hD
          refine lv_istore (lv' := [(6, .int (msR (sl (z) a) z (chF (X 0) a p0) (z 6))), (0, .ref (ad 0)), (1, .ref (gA ad 0 a)), (2, .int p0), (3, .int (chF (X 0) a p0)), (4, .int x4), (5, .int x5)]) hx hb dX5_goTo_47 hl (by decide) rfl (fun ls hl => ?_)
          refine lv_iload hx hb dX5_goTo_49 (lv_at hl 0 rfl) ?_
          refine lv_if_ne (tgt := 57) hx hb dX5_goTo_51 (by decide) (fun c_4 => ?_) (fun c_4 => ?_)
          · skip
            refine lv_aload_n hx hb dX5_goTo_57 rfl (lv_at hl 1 rfl) ?_
            refine va_get (ci := 5) (v := .ref (sA ad 0)) (C := RX5) (T := TX5) (N := 6) hx hb hts inX5 hown hK hP _ (cw_arm (kA := kA) (ad := ad) (X := up2 X 0 (inG z a (msG (sl (z) a) z (chF (X 0) a p0) (z 6))))) rfl 0 (by decide) (hts _ q_176) (fun _ h9 => h9) rfl dX5_goTo_58 ?_
            refine lv_dup hx hb dX5_goTo_61 rfl ?_
            refine va_get (ci := 4) (v := .int ((inG z a (msG (sl (z) a) z (chF (X 0) a p0) (z 6))) 6)) (C := RX4) (T := TX4) (N := 4) hx hb hts inX4 hown hK hP _ (cw_state (kA := kA) (ad := ad) (X := up2 X 0 (inG z a (msG (sl (z) a) z (chF (X 0) a p0) (z 6)))) (r := 0) (by omega)) rfl 2 (by decide) (hts _ q_120) (fun _ h9 => h9) rfl dX5_goTo_62 ?_
            refine lv_iload hx hb dX5_goTo_65 (lv_at hl 0 rfl) ?_
            refine lv_isub hx hb dX5_goTo_67 ?_
            refine va_put (ci := 4) (v := .int (((inG z a (msG (sl (z) a) z (chF (X 0) a p0) (z 6))) 6) - (msR (sl (z) a) z (chF (X 0) a p0) (z 6)))) (ty := tyX4 2) (C := RX4) (T := TX4) (N := 4) hx hb hts inX4 tyX4 tyX4_ok nmX4 hown hK hP hD hS _ (cw_state (kA := kA) (ad := ad) (X := up2 X 0 (inG z a (msG (sl (z) a) z (chF (X 0) a p0) (z 6)))) (r := 0) (by omega)) rfl 2 (by decide) (hts _ q_120) (fun _ h9 => h9) rfl (tyX4_ok 2 (by decide)) rfl rfl (Nat.le_of_ble_eq_true rfl) dX5_goTo_68 (fun H locs hP hD hS => ?_)
            have hP : va_P D vwCl (cw kA ad (up3 (up2 X 0 (inG z a (msG (sl (z) a) z (chF (X 0) a p0) (z 6)))) 0 6 (((inG z a (msG (sl (z) a) z (chF (X 0) a p0) (z 6))) 6) - (msR (sl (z) a) z (chF (X 0) a p0) (z 6))))) H := by rw [← st_purse (r := 0) (by omega)]; exact hP
            have hD : va_D (Aw (cw kA ad X)) (cw kA ad (up3 (up2 X 0 (inG z a (msG (sl (z) a) z (chF (X 0) a p0) (z 6)))) 0 6 (((inG z a (msG (sl (z) a) z (chF (X 0) a p0) (z 6))) 6) - (msR (sl (z) a) z (chF (X 0) a p0) (z 6))))) := by rw [← st_purse (r := 0) (by omega)]; exact hD
            rw [nf_3] at hP hD
            refine lv_iload hx hb dX5_goTo_71 (lv_at hl 5 rfl) ?_
            refine lv_iload hx hb dX5_goTo_73 (lv_at hl 0 rfl) ?_
            refine lv_iadd hx hb dX5_goTo_75 ?_
            refine lv_istore (lv' := [(4, .int (x4 + (msR (sl (z) a) z (chF (X 0) a p0) (z 6)))), (6, .int (msR (sl (z) a) z (chF (X 0) a p0) (z 6))), (0, .ref (ad 0)), (1, .ref (gA ad 0 a)), (2, .int p0), (3, .int (chF (X 0) a p0)), (5, .int x5)]) hx hb dX5_goTo_76 hl (by decide) rfl (fun ls hl => ?_)
            refine lv_iinc (v := x5 + 1) (lv' := [(5, .int (x5 + 1)), (4, .int (x4 + (msR (sl (z) a) z (chF (X 0) a p0) (z 6)))), (6, .int (msR (sl (z) a) z (chF (X 0) a p0) (z 6))), (0, .ref (ad 0)), (1, .ref (gA ad 0 a)), (2, .int p0), (3, .int (chF (X 0) a p0))]) hx hb dX5_goTo_78 hl (k := 6) rfl (by first | rfl | exact congrArg (_ + ·) (by decide)) (by decide) rfl (fun ls hl => ?_)
            refine lv_goto (tgt := 13) hx hb dX5_goTo_81 (by decide) ?_
            exact ih13 (j + 1) (upd (inG z a (msG (sl (z) a) z (chF (X 0) a p0) (z 6))) 6 (((inG z a (msG (sl (z) a) z (chF (X 0) a p0) (z 6))) 6) - (msR (sl (z) a) z (chF (X 0) a p0) (z 6)))) (x4 + (msR (sl (z) a) z (chF (X 0) a p0) (z 6))) (x5 + 1) (by omega) (by rw [e5]; exact nI_1 j) (by rw [← hres, gtL, if_neg c_3, if_neg c_4]; rfl) _ _ hP hD hS ls (lv_sub hl [3, 4, 5, 6, 1, 0] rfl)
          · skip
            refine lv_goto (tgt := 84) hx hb dX5_goTo_54 (by decide) ?_
            refine lv_iload hx hb dX5_goTo_84 (lv_at hl 5 rfl) ?_
            exact end_fi hx hb hrt hlk hP hS (by rw [← hres, gtL, if_neg c_3, if_pos c_4]) (fun h => by rw [← hres, gtL, if_neg c_3, if_pos c_4]; exact h) dX5_goTo_86
  exact loop_13 24 0 (X 0) 0 0 (by omega) (nI_0.symm) (rfl) _ _ hP hD hS ls (lv_sub hl [3, 4, 5, 2, 1, 0] rfl)

theorem hd_X5_makeHomed : yX5_makeHomed.cls ≠ "java/lang/invoke/MethodHandle" ∧ yX5_makeHomed.cls ≠ "java/lang/invoke/VarHandle" ∧ (parseMethodDescriptor yX5_makeHomed.desc).map (fun d => d.parameters.length) = some 1 := by decide +kernel
set_option maxRecDepth 100000 in
set_option maxHeartbeats 4000000 in
theorem m_X5_makeHomed (l : Launch) (D : va_G) (kA : Nat → Nat) (ad : Nat → Nat) (X : Nat → Nat → Int32) (a : Nat) (ha : a < 4) : Met l yX5_makeHomed (Cond.code yX5_makeHomed cX5_makeHomed 3 (some .boolean) :: AW) ({ frames := 3, cells := 0, slots := 0, locals := 76 } : Room) (Pz [.ref (ad 0), .ref (gA ad 0 a)] D (TY kA) (cw kA ad X)) (fQ (some (.int (bI (hmB (X 0) a)))) D (cw kA ad X) (cw kA ad (up2 X 0 (hmZ (X 0) a)))) 0 0 (Aw (cw kA ad X)) := by
  refine MetZ (by decide +kernel) (Nat.le_of_ble_eq_true rfl) ?_
  intro p e s m below meth c ls hx hb hrt hts hown hml hlk hnm hP hK hD hS hl
  have hl : lv_has ls 3 [(0, .ref (ad 0)), (1, .ref (gA ad 0 a))] := hl
  rw [← up2_self (X := X) (r := 0)] at hP hD
  refine lv_aload_n hx hb dX5_makeHomed_0 rfl (lv_at hl 1 rfl) ?_
  refine va_get (ci := 0) (v := .int (sl ((X 0)) a 10)) (C := RX0) (T := TX0) (N := 12) hx hb hts inX0 hown hK hP _ (cw_gear (kA := kA) (ad := ad) (X := up2 X 0 (X 0)) (r := 0) (a := a) (by omega) (by omega)) rfl 11 (by decide) (hts _ q_89) (fun _ h9 => h9) rfl dX5_makeHomed_1 ?_
  refine lv_istore_n (lv' := [(2, .int (sl ((X 0)) a 10)), (0, .ref (ad 0)), (1, .ref (gA ad 0 a))]) hx hb dX5_makeHomed_4 rfl hl (by decide) rfl (fun ls hl => ?_)
  refine lv_aload_n hx hb dX5_makeHomed_5 rfl (lv_at hl 1 rfl) ?_
  refine va_get (ci := 5) (v := .ref (sA ad 0)) (C := RX5) (T := TX5) (N := 6) hx hb hts inX5 hown hK hP _ (cw_arm (kA := kA) (ad := ad) (X := up2 X 0 (X 0))) rfl 0 (by decide) (hts _ q_176) (fun _ h9 => h9) rfl dX5_makeHomed_6 ?_
  refine lv_dup hx hb dX5_makeHomed_9 rfl ?_
  refine va_get (ci := 4) (v := .int ((X 0) 6)) (C := RX4) (T := TX4) (N := 4) hx hb hts inX4 hown hK hP _ (cw_state (kA := kA) (ad := ad) (X := up2 X 0 (X 0)) (r := 0) (by omega)) rfl 2 (by decide) (hts _ q_120) (fun _ h9 => h9) rfl dX5_makeHomed_10 ?_
  refine lv_aload_n hx hb dX5_makeHomed_13 rfl (lv_at hl 2 rfl) ?_
  refine lv_aload_n hx hb dX5_makeHomed_14 rfl (lv_at hl 1 rfl) ?_
  refine va_get (ci := 5) (v := .ref (sA ad 0)) (C := RX5) (T := TX5) (N := 6) hx hb hts inX5 hown hK hP _ (cw_arm (kA := kA) (ad := ad) (X := up2 X 0 (X 0))) rfl 0 (by decide) (hts _ q_176) (fun _ h9 => h9) rfl dX5_makeHomed_15 ?_
  refine va_get (ci := 4) (v := .int ((X 0) 6)) (C := RX4) (T := TX4) (N := 4) hx hb hts inX4 hown hK hP _ (cw_state (kA := kA) (ad := ad) (X := up2 X 0 (X 0)) (r := 0) (by omega)) rfl 2 (by decide) (hts _ q_120) (fun _ h9 => h9) rfl dX5_makeHomed_18 ?_
  refine lv_aload_n hx hb dX5_makeHomed_21 rfl (lv_at hl 1 rfl) ?_
  refine va_get (ci := 5) (v := .ref (sA ad 0)) (C := RX5) (T := TX5) (N := 6) hx hb hts inX5 hown hK hP _ (cw_arm (kA := kA) (ad := ad) (X := up2 X 0 (X 0))) rfl 0 (by decide) (hts _ q_176) (fun _ h9 => h9) rfl dX5_makeHomed_22 ?_
  refine va_get (ci := 4) (v := .ref (rA ad 0)) (C := RX4) (T := TX4) (N := 4) hx hb hts inX4 hown hK hP _ (cw_state (kA := kA) (ad := ad) (X := up2 X 0 (X 0)) (r := 0) (by omega)) rfl 0 (by decide) (hts _ q_117) (fun _ h9 => h9) rfl dX5_makeHomed_25 ?_
  refine cs_fs (runV (As := [.int ((X 0) 6), .ref (rA ad 0)]) (rest := [.int ((X 0) 6), .ref (sA ad 0)]) ⟨hx, hb, hml, hown, hts⟩ (m_X0_makeHomed l D kA (gA ad 0 a) (wA ad 0 a) (sl ((X 0)) a) (rA ad 0) (X 0) ((X 0) 6) ) q_346 q_347 q_348 q_4 q_349 hd_X0_makeHomed ⟨rfl, rfl⟩ ⟨Nat.le_of_ble_eq_true rfl, Nat.le_of_ble_eq_true rfl⟩ hK (ws := [((gA ad 0 a), gC (wA ad 0 a) (sl ((X 0)) a)), ((wA ad 0 a), wC kA (sl ((X 0)) a)), ((rA ad 0), rC (X 0))]) (P3 hP (cw_gear (kA := kA) (ad := ad) (X := up2 X 0 (X 0)) (r := 0) (a := a) (by omega) (by omega)) (cw_wears (kA := kA) (ad := ad) (X := up2 X 0 (X 0)) (r := 0) (a := a) (by omega) (by omega)) (cw_rules (kA := kA) (ad := ad) (X := up2 X 0 (X 0)) (r := 0) (by omega))) (D3 hD (cw_gear (kA := kA) (ad := ad) (X := up2 X 0 (X 0)) (r := 0) (a := a) (by omega) (by omega)) (cw_wears (kA := kA) (ad := ad) (X := up2 X 0 (X 0)) (r := 0) (a := a) (by omega) (by omega)) (cw_rules (kA := kA) (ad := ad) (X := up2 X 0 (X 0)) (r := 0) (by omega)) (by omega) (by omega) (by omega)) 0 (ci := 0) (C := RX0) (T := TX0) (N := 12) rfl rfl rfl hl.1 rfl (Nat.le_of_ble_eq_true rfl) dX5_makeHomed_28 ⟨Nat.zero_le _, Nat.zero_le _⟩) hS (cw_sub (fun q hq => by simp only [List.mem_cons, List.not_mem_nil, or_false] at hq; rcases hq with rfl | rfl | rfl <;> first | exact ⟨2 * (4 * 0 + a) + 5, by omega, rfl⟩ | exact ⟨2 * (4 * 0 + a) + 6, by omega, rfl⟩ | exact ⟨3 * 0 + 64, by omega, rfl⟩)) (fun H locs hP1 hk1 hS => ?_)
  obtain ⟨hP, hD⟩ := jn_G3 (r := 0) (a := a) (by omega) (by omega) (r' := 0) (by omega) (G' := (hmG (sl ((X 0)) a) (X 0) ((X 0) 6))) hP hD hk1 hP1
  clear hk1 hP1
  rw [nf_G] at hP hD
  refine lv_isub hx hb dX5_makeHomed_31 ?_
  refine va_put (ci := 4) (v := .int (((X 0) 6) - (hmP (sl ((X 0)) a) (X 0) ((X 0) 6)))) (ty := tyX4 2) (C := RX4) (T := TX4) (N := 4) hx hb hts inX4 tyX4 tyX4_ok nmX4 hown hK hP hD hS _ (cw_state (kA := kA) (ad := ad) (X := up2 X 0 (inG (X 0) a (hmG (sl ((X 0)) a) (X 0) ((X 0) 6)))) (r := 0) (by omega)) rfl 2 (by decide) (hts _ q_120) (fun _ h9 => h9) rfl (tyX4_ok 2 (by decide)) rfl rfl (Nat.le_of_ble_eq_true rfl) dX5_makeHomed_32 (fun H locs hP hD hS => ?_)
  have hP : va_P D vwCl (cw kA ad (up3 (up2 X 0 (inG (X 0) a (hmG (sl ((X 0)) a) (X 0) ((X 0) 6)))) 0 6 (((X 0) 6) - (hmP (sl ((X 0)) a) (X 0) ((X 0) 6))))) H := by rw [← st_purse (r := 0) (by omega)]; exact hP
  have hD : va_D (Aw (cw kA ad X)) (cw kA ad (up3 (up2 X 0 (inG (X 0) a (hmG (sl ((X 0)) a) (X 0) ((X 0) 6)))) 0 6 (((X 0) 6) - (hmP (sl ((X 0)) a) (X 0) ((X 0) 6))))) := by rw [← st_purse (r := 0) (by omega)]; exact hD
  rw [nf_3] at hP hD
  refine lv_aload_n hx hb dX5_makeHomed_35 rfl (lv_at hl 2 rfl) ?_
  refine va_get (ci := 0) (v := .int (sl ((upd (inG (X 0) a (hmG (sl ((X 0)) a) (X 0) ((X 0) 6))) 6 (((X 0) 6) - (hmP (sl ((X 0)) a) (X 0) ((X 0) 6))))) a 10)) (C := RX0) (T := TX0) (N := 12) hx hb hts inX0 hown hK hP _ (cw_gear (kA := kA) (ad := ad) (X := up2 X 0 (upd (inG (X 0) a (hmG (sl ((X 0)) a) (X 0) ((X 0) 6))) 6 (((X 0) 6) - (hmP (sl ((X 0)) a) (X 0) ((X 0) 6))))) (r := 0) (a := a) (by omega) (by omega)) rfl 11 (by decide) (hts _ q_89) (fun _ h9 => h9) rfl dX5_makeHomed_36 ?_
  refine lv_iload_n hx hb dX5_makeHomed_39 rfl (lv_at hl 0 rfl) ?_
  refine lv_icmp_le (tgt := 47) hx hb dX5_makeHomed_40 (by decide) (fun c_1 => ?_) (fun c_1 => ?_)
  · skip
    replace c_1 := ge_n c_1
    refine lv_iconst (v := 0) hx hb dX5_makeHomed_47 (by decide) ?_
    exact end_fz hx hb hrt hlk (by decide) hP hS (by rw [hmB, hmZ, if_neg c_1]; rfl) (fun h => h) dX5_makeHomed_48
  · skip
    replace c_1 := nge_l c_1
    refine lv_iconst (v := 1) hx hb dX5_makeHomed_43 (by decide) ?_
    refine lv_goto (tgt := 48) hx hb dX5_makeHomed_44 (by decide) ?_
    exact end_fz hx hb hrt hlk (by decide) hP hS (by rw [hmB, hmZ, if_pos c_1]; rfl) (fun h => h) dX5_makeHomed_48

theorem hd_X5_makeGreased : yX5_makeGreased.cls ≠ "java/lang/invoke/MethodHandle" ∧ yX5_makeGreased.cls ≠ "java/lang/invoke/VarHandle" ∧ (parseMethodDescriptor yX5_makeGreased.desc).map (fun d => d.parameters.length) = some 1 := by decide +kernel
set_option maxRecDepth 100000 in
set_option maxHeartbeats 4000000 in
theorem m_X5_makeGreased (l : Launch) (D : va_G) (kA : Nat → Nat) (ad : Nat → Nat) (X : Nat → Nat → Int32) (a : Nat) (ha : a < 4) : Met l yX5_makeGreased (Cond.code yX5_makeGreased cX5_makeGreased 2 none :: AW) ({ frames := 1, cells := 0, slots := 0, locals := 21 } : Room) (Pz [.ref (ad 0), .ref (gA ad 0 a)] D (TY kA) (cw kA ad X)) (fQ none D (cw kA ad X) (cw kA ad (up2 X 0 (grZ (X 0) a)))) 0 0 (Aw (cw kA ad X)) := by
  refine MetZ (by decide +kernel) (Nat.le_of_ble_eq_true rfl) ?_
  intro p e s m below meth c ls hx hb hrt hts hown hml hlk hnm hP hK hD hS hl
  have hl : lv_has ls 2 [(0, .ref (ad 0)), (1, .ref (gA ad 0 a))] := hl
  rw [← up2_self (X := X) (r := 0)] at hP hD
  refine lv_aload_n hx hb dX5_makeGreased_0 rfl (lv_at hl 0 rfl) ?_
  refine va_get (ci := 5) (v := .ref (sA ad 0)) (C := RX5) (T := TX5) (N := 6) hx hb hts inX5 hown hK hP _ (cw_arm (kA := kA) (ad := ad) (X := up2 X 0 (X 0))) rfl 0 (by decide) (hts _ q_176) (fun _ h9 => h9) rfl dX5_makeGreased_1 ?_
  refine lv_aload_n hx hb dX5_makeGreased_4 rfl (lv_at hl 0 rfl) ?_
  refine va_get (ci := 5) (v := .ref (sA ad 0)) (C := RX5) (T := TX5) (N := 6) hx hb hts inX5 hown hK hP _ (cw_arm (kA := kA) (ad := ad) (X := up2 X 0 (X 0))) rfl 0 (by decide) (hts _ q_176) (fun _ h9 => h9) rfl dX5_makeGreased_5 ?_
  refine va_get (ci := 4) (v := .ref (rA ad 0)) (C := RX4) (T := TX4) (N := 4) hx hb hts inX4 hown hK hP _ (cw_state (kA := kA) (ad := ad) (X := up2 X 0 (X 0)) (r := 0) (by omega)) rfl 0 (by decide) (hts _ q_117) (fun _ h9 => h9) rfl dX5_makeGreased_8 ?_
  refine va_get (ci := 3) (v := .int ((X 0) 5)) (C := RX3) (T := TX3) (N := 6) hx hb hts inX3 hown hK hP _ (cw_rules (kA := kA) (ad := ad) (X := up2 X 0 (X 0)) (r := 0) (by omega)) rfl 5 (by decide) (hts _ q_49) (fun _ h9 => h9) rfl dX5_makeGreased_11 ?_
  refine cs_fn (runV (As := [.int ((X 0) 5)]) (rest := []) ⟨hx, hb, hml, hown, hts⟩ (m_X4_payCare l D kA ad (up2 X 0 (X 0)) 0 ((X 0) 5) (by omega)) q_621 q_622 q_623 q_2 q_624 hd_X4_payCare ⟨rfl, rfl⟩ ⟨Nat.le_of_ble_eq_true rfl, Nat.le_of_ble_eq_true rfl⟩ hK (ws := (cw kA ad (up2 X 0 (X 0)))) hP hD _ (ci := 4) (C := RX4) (T := TX4) (N := 4) rfl (cw_state (kA := kA) (ad := ad) (X := up2 X 0 (X 0)) (r := 0) (by omega)) rfl hl.1 rfl (Nat.le_of_ble_eq_true rfl) dX5_makeGreased_14 ⟨Nat.zero_le _, Nat.zero_le _⟩) hS (fun _ h => cw_Aw h) (fun H locs hP _ hS => ?_)
  have hD := cw_D (X' := up2 (up2 X 0 (X 0)) 0 (payZ ((up2 X 0 (X 0)) 0) ((X 0) 5))) hD
  rw [nf_2] at hP hD
  refine lv_aload_n hx hb dX5_makeGreased_17 rfl (lv_at hl 1 rfl) ?_
  refine lv_aload_n hx hb dX5_makeGreased_18 rfl (lv_at hl 0 rfl) ?_
  refine va_get (ci := 5) (v := .ref (sA ad 0)) (C := RX5) (T := TX5) (N := 6) hx hb hts inX5 hown hK hP _ (cw_arm (kA := kA) (ad := ad) (X := up2 X 0 (payZ ((up2 X 0 (X 0)) 0) ((X 0) 5)))) rfl 0 (by decide) (hts _ q_176) (fun _ h9 => h9) rfl dX5_makeGreased_19 ?_
  refine va_get (ci := 4) (v := .ref (rA ad 0)) (C := RX4) (T := TX4) (N := 4) hx hb hts inX4 hown hK hP _ (cw_state (kA := kA) (ad := ad) (X := up2 X 0 (payZ ((up2 X 0 (X 0)) 0) ((X 0) 5))) (r := 0) (by omega)) rfl 0 (by decide) (hts _ q_117) (fun _ h9 => h9) rfl dX5_makeGreased_22 ?_
  refine va_get (ci := 3) (v := .int ((payZ ((up2 X 0 (X 0)) 0) ((X 0) 5)) 4)) (C := RX3) (T := TX3) (N := 6) hx hb hts inX3 hown hK hP _ (cw_rules (kA := kA) (ad := ad) (X := up2 X 0 (payZ ((up2 X 0 (X 0)) 0) ((X 0) 5))) (r := 0) (by omega)) rfl 4 (by decide) (hts _ q_47) (fun _ h9 => h9) rfl dX5_makeGreased_25 ?_
  refine va_put (ci := 0) (v := .int ((payZ ((up2 X 0 (X 0)) 0) ((X 0) 5)) 4)) (ty := tyX0 6) (C := RX0) (T := TX0) (N := 12) hx hb hts inX0 tyX0 tyX0_ok nmX0 hown hK hP hD hS _ (cw_gear (kA := kA) (ad := ad) (X := up2 X 0 (payZ ((up2 X 0 (X 0)) 0) ((X 0) 5))) (r := 0) (a := a) (by omega) (by omega)) rfl 6 (by decide) (hts _ q_82) (fun _ h9 => h9) rfl (tyX0_ok 6 (by decide)) rfl rfl (Nat.le_of_ble_eq_true rfl) dX5_makeGreased_28 (fun H locs hP hD hS => ?_)
  have hP : va_P D vwCl (cw kA ad (up3 (up2 X 0 (payZ ((up2 X 0 (X 0)) 0) ((X 0) 5))) 0 (5 + (8 + 35 * a)) ((payZ ((up2 X 0 (X 0)) 0) ((X 0) 5)) 4))) H := by rw [← st_greased (r := 0) (a := a) (by omega) (by omega)]; exact hP
  have hD : va_D (Aw (cw kA ad X)) (cw kA ad (up3 (up2 X 0 (payZ ((up2 X 0 (X 0)) 0) ((X 0) 5))) 0 (5 + (8 + 35 * a)) ((payZ ((up2 X 0 (X 0)) 0) ((X 0) 5)) 4))) := by rw [← st_greased (r := 0) (a := a) (by omega) (by omega)]; exact hD
  rw [nf_3] at hP hD
  exact end_fv hx hb hrt hlk hP hS (fun h => h) dX5_makeGreased_31

theorem hd_X5_lesserCost : yX5_lesserCost.cls ≠ "java/lang/invoke/MethodHandle" ∧ yX5_lesserCost.cls ≠ "java/lang/invoke/VarHandle" ∧ (parseMethodDescriptor yX5_lesserCost.desc).map (fun d => d.parameters.length) = some 3 := by decide +kernel
set_option maxRecDepth 100000 in
set_option maxHeartbeats 4000000 in
theorem m_X5_lesserCost (l : Launch) (D : va_G) (kA : Nat → Nat) (ad : Nat → Nat) (X : Nat → Nat → Int32) (a : Nat) (p0 : Int32) (p1 : Int32) (ha : a < 4) : Met l yX5_lesserCost (Cond.code yX5_lesserCost cX5_lesserCost 6 (some .int) :: AW) ({ frames := 2, cells := 0, slots := 0, locals := 53 } : Room) (Pz [.ref (ad 0), .ref (gA ad 0 a), .int p0, .int p1] D (TY kA) (cw kA ad X)) (pQ (some (.int (leF (X 0) a p0 p1)))) 0 0 (fun _ => False) := by
  refine MetZ (by decide +kernel) (Nat.le_of_ble_eq_true rfl) ?_
  intro p e s m below meth c ls hx hb hrt hts hown hml hlk hnm hP hK hD hS hl
  have hl : lv_has ls 6 [(0, .ref (ad 0)), (1, .ref (gA ad 0 a)), (2, .int p0), (3, .int p1)] := hl
  refine lv_aload_n hx hb dX5_lesserCost_0 rfl (lv_at hl 1 rfl) ?_
  refine lv_iload_n hx hb dX5_lesserCost_1 rfl (lv_at hl 2 rfl) ?_
  refine lv_iconst (v := 1) hx hb dX5_lesserCost_2 (by decide) ?_
  refine lv_iload_n hx hb dX5_lesserCost_3 rfl (lv_at hl 3 rfl) ?_
  refine lv_aload_n hx hb dX5_lesserCost_4 rfl (lv_at hl 0 rfl) ?_
  refine va_get (ci := 5) (v := .ref (sA ad 0)) (C := RX5) (T := TX5) (N := 6) hx hb hts inX5 hown hK hP _ (cw_arm (kA := kA) (ad := ad) (X := X)) rfl 0 (by decide) (hts _ q_176) (fun _ h9 => h9) rfl dX5_lesserCost_5 ?_
  refine va_get (ci := 4) (v := .ref (rA ad 0)) (C := RX4) (T := TX4) (N := 4) hx hb hts inX4 hown hK hP _ (cw_state (kA := kA) (ad := ad) (X := X) (r := 0) (by omega)) rfl 0 (by decide) (hts _ q_117) (fun _ h9 => h9) rfl dX5_lesserCost_8 ?_
  refine cs_p (runV (As := [.int p0, .int 1, .int p1, .ref (rA ad 0)]) (rest := []) ⟨hx, hb, hml, hown, hts⟩ (m_X0_costOfWay l D kA (gA ad 0 a) (wA ad 0 a) (sl ((X 0)) a) (rA ad 0) (X 0) p0 1 p1 ) q_328 q_329 q_330 q_4 q_331 hd_X0_costOfWay ⟨rfl, rfl⟩ ⟨Nat.le_of_ble_eq_true rfl, Nat.le_of_ble_eq_true rfl⟩ hK (ws := [((gA ad 0 a), gC (wA ad 0 a) (sl ((X 0)) a)), ((wA ad 0 a), wC kA (sl ((X 0)) a)), ((rA ad 0), rC (X 0))]) (P3 hP (cw_gear (kA := kA) (ad := ad) (X := X) (r := 0) (a := a) (by omega) (by omega)) (cw_wears (kA := kA) (ad := ad) (X := X) (r := 0) (a := a) (by omega) (by omega)) (cw_rules (kA := kA) (ad := ad) (X := X) (r := 0) (by omega))) (D3 hD (cw_gear (kA := kA) (ad := ad) (X := X) (r := 0) (a := a) (by omega) (by omega)) (cw_wears (kA := kA) (ad := ad) (X := X) (r := 0) (a := a) (by omega) (by omega)) (cw_rules (kA := kA) (ad := ad) (X := X) (r := 0) (by omega)) (by omega) (by omega) (by omega)) 0 (ci := 0) (C := RX0) (T := TX0) (N := 12) rfl rfl rfl hl.1 rfl (Nat.le_of_ble_eq_true rfl) dX5_lesserCost_11 ⟨Nat.zero_le _, Nat.zero_le _⟩) ?_
  refine lv_istore (lv' := [(4, .int (costG (sl ((X 0)) a) (X 0) p0 1 p1)), (0, .ref (ad 0)), (1, .ref (gA ad 0 a)), (2, .int p0), (3, .int p1)]) hx hb dX5_lesserCost_14 hl (by decide) rfl (fun ls hl => ?_)
  refine lv_aload_n hx hb dX5_lesserCost_16 rfl (lv_at hl 2 rfl) ?_
  refine lv_iload_n hx hb dX5_lesserCost_17 rfl (lv_at hl 3 rfl) ?_
  refine lv_iconst (v := (-1)) hx hb dX5_lesserCost_18 (by decide) ?_
  refine lv_iload_n hx hb dX5_lesserCost_19 rfl (lv_at hl 4 rfl) ?_
  refine lv_aload_n hx hb dX5_lesserCost_20 rfl (lv_at hl 1 rfl) ?_
  refine va_get (ci := 5) (v := .ref (sA ad 0)) (C := RX5) (T := TX5) (N := 6) hx hb hts inX5 hown hK hP _ (cw_arm (kA := kA) (ad := ad) (X := X)) rfl 0 (by decide) (hts _ q_176) (fun _ h9 => h9) rfl dX5_lesserCost_21 ?_
  refine va_get (ci := 4) (v := .ref (rA ad 0)) (C := RX4) (T := TX4) (N := 4) hx hb hts inX4 hown hK hP _ (cw_state (kA := kA) (ad := ad) (X := X) (r := 0) (by omega)) rfl 0 (by decide) (hts _ q_117) (fun _ h9 => h9) rfl dX5_lesserCost_24 ?_
  refine cs_p (runV (As := [.int p0, .int (-1), .int p1, .ref (rA ad 0)]) (rest := []) ⟨hx, hb, hml, hown, hts⟩ (m_X0_costOfWay l D kA (gA ad 0 a) (wA ad 0 a) (sl ((X 0)) a) (rA ad 0) (X 0) p0 (-1) p1 ) q_328 q_329 q_330 q_4 q_331 hd_X0_costOfWay ⟨rfl, rfl⟩ ⟨Nat.le_of_ble_eq_true rfl, Nat.le_of_ble_eq_true rfl⟩ hK (ws := [((gA ad 0 a), gC (wA ad 0 a) (sl ((X 0)) a)), ((wA ad 0 a), wC kA (sl ((X 0)) a)), ((rA ad 0), rC (X 0))]) (P3 hP (cw_gear (kA := kA) (ad := ad) (X := X) (r := 0) (a := a) (by omega) (by omega)) (cw_wears (kA := kA) (ad := ad) (X := X) (r := 0) (a := a) (by omega) (by omega)) (cw_rules (kA := kA) (ad := ad) (X := X) (r := 0) (by omega))) (D3 hD (cw_gear (kA := kA) (ad := ad) (X := X) (r := 0) (a := a) (by omega) (by omega)) (cw_wears (kA := kA) (ad := ad) (X := X) (r := 0) (a := a) (by omega) (by omega)) (cw_rules (kA := kA) (ad := ad) (X := X) (r := 0) (by omega)) (by omega) (by omega) (by omega)) 0 (ci := 0) (C := RX0) (T := TX0) (N := 12) rfl rfl rfl hl.1 rfl (Nat.le_of_ble_eq_true rfl) dX5_lesserCost_27 ⟨Nat.zero_le _, Nat.zero_le _⟩) ?_
  refine lv_istore (lv' := [(5, .int (costG (sl ((X 0)) a) (X 0) p0 (-1) p1)), (4, .int (costG (sl ((X 0)) a) (X 0) p0 1 p1)), (0, .ref (ad 0)), (1, .ref (gA ad 0 a)), (2, .int p0), (3, .int p1)]) hx hb dX5_lesserCost_30 hl (by decide) rfl (fun ls hl => ?_)
  refine lv_iload hx hb dX5_lesserCost_32 (lv_at hl 1 rfl) ?_
  refine lv_iload hx hb dX5_lesserCost_34 (lv_at hl 0 rfl) ?_
  refine va_mmin hx hb (hml.trans hl.1.symm) hown (hts _ q_379) (hts _ q_262) (hts _ q_13) (hts _ q_263) (Nat.le_of_ble_eq_true rfl) (Nat.le_of_ble_eq_true rfl) (Nat.zero_le _) (Nat.zero_le _) dX5_lesserCost_36 ?_
  exact end_pi hx hb hrt hlk (by first | rfl | (rw [leF]; done) | (simp only [leF, ↓reduceIte, bI]; done) | (simp only [leF, ↓reduceIte, bI]; rfl) | (simp [leF, bI]; done)) dX5_lesserCost_39

theorem hd_X5_worstTooth : yX5_worstTooth.cls ≠ "java/lang/invoke/MethodHandle" ∧ yX5_worstTooth.cls ≠ "java/lang/invoke/VarHandle" ∧ (parseMethodDescriptor yX5_worstTooth.desc).map (fun d => d.parameters.length) = some 2 := by decide +kernel
set_option maxRecDepth 100000 in
set_option maxHeartbeats 4000000 in
theorem m_X5_worstTooth (l : Launch) (D : va_G) (kA : Nat → Nat) (ad : Nat → Nat) (X : Nat → Nat → Int32) (a : Nat) (p0 : Int32) (ha : a < 4) : Met l yX5_worstTooth (Cond.code yX5_worstTooth cX5_worstTooth 7 (some .int) :: AW) ({ frames := 3, cells := 0, slots := 0, locals := 78 } : Room) (Pz [.ref (ad 0), .ref (gA ad 0 a), .int p0] D (TY kA) (cw kA ad X)) (pQ (some (.int (woF (X 0) a p0)))) 0 0 (fun _ => False) := by
  refine MetZ (by decide +kernel) (Nat.le_of_ble_eq_true rfl) ?_
  intro p e s m below meth c ls hx hb hrt hts hown hml hlk hnm hP hK hD hS hl
  have hl : lv_has ls 7 [(0, .ref (ad 0)), (1, .ref (gA ad 0 a)), (2, .int p0)] := hl
  refine lv_iconst (v := (-1)) hx hb dX5_worstTooth_0 (by decide) ?_
  refine lv_istore_n (lv' := [(3, .int (-1)), (0, .ref (ad 0)), (1, .ref (gA ad 0 a)), (2, .int p0)]) hx hb dX5_worstTooth_1 rfl hl (by decide) rfl (fun ls hl => ?_)
  refine lv_aload_n hx hb dX5_worstTooth_2 rfl (lv_at hl 1 rfl) ?_
  refine lv_aload_n hx hb dX5_worstTooth_3 rfl (lv_at hl 2 rfl) ?_
  refine lv_iload_n hx hb dX5_worstTooth_4 rfl (lv_at hl 3 rfl) ?_
  refine lv_iconst (v := (-1)) hx hb dX5_worstTooth_5 (by decide) ?_
  refine cs_p (runV (As := [.ref (gA ad 0 a), .int p0, .int (-1)]) (rest := []) ⟨hx, hb, hml, hown, hts⟩ (m_X5_lesserCost l D kA ad X a p0 (-1) (ha)) q_375 q_377 qp_8 q_1 q_378 hd_X5_lesserCost ⟨rfl, rfl⟩ ⟨Nat.le_of_ble_eq_true rfl, Nat.le_of_ble_eq_true rfl⟩ hK (ws := (cw kA ad X)) hP hD _ (ci := 5) (C := RX5) (T := TX5) (N := 6) rfl (cw_arm (kA := kA) (ad := ad) (X := X)) rfl hl.1 rfl (Nat.le_of_ble_eq_true rfl) dX5_worstTooth_6 ⟨Nat.zero_le _, Nat.zero_le _⟩) ?_
  refine lv_istore (lv' := [(4, .int (leF (X 0) a p0 (-1))), (3, .int (-1)), (0, .ref (ad 0)), (1, .ref (gA ad 0 a)), (2, .int p0)]) hx hb dX5_worstTooth_9 hl (by decide) rfl (fun ls hl => ?_)
  refine lv_iconst (v := 0) hx hb dX5_worstTooth_11 (by decide) ?_
  refine lv_istore (lv' := [(5, .int 0), (4, .int (leF (X 0) a p0 (-1))), (3, .int (-1)), (0, .ref (ad 0)), (1, .ref (gA ad 0 a)), (2, .int p0)]) hx hb dX5_worstTooth_12 hl (by decide) rfl (fun ls hl => ?_)
  have loop_14 : ∀ (n : Nat) (j : Nat) (x3 : Int32) (x4 : Int32) (x5 : Int32) (hj : j + n = 24) (e5 : x5 = nI j) (hres : woL (X 0) a p0 n x5 x3 x4 = woF (X 0) a p0), ∀ ls : Array Slot, lv_has ls 7 [(0, .ref (ad 0)), (1, .ref (gA ad 0 a)), (2, .int p0), (3, .int x3), (4, .int x4), (5, .int x5)] → W p l e ({ frames := 3, cells := 0, slots := 0, locals := 78 } : Room) s m [.ref (ad 0), .ref (gA ad 0 a), .int p0].toArray below meth c s.heap [] 0 0 (MQ below (pQ (some (.int (woF (X 0) a p0)))) [.ref (ad 0), .ref (gA ad 0 a), .int p0].toArray s 0 0 (fun _ => False)) (F0 m 14 ls []) := by
    clear hl
    intro n
    induction n with
    | zero =>
      intro j x3 x4 x5 hj e5 hres  ls hl
      refine lv_iload hx hb dX5_worstTooth_14 (lv_at hl 5 rfl) ?_
      refine lv_bipush (v := 24) hx hb dX5_worstTooth_16 (by decide) ?_
      refine lv_icmp_ge (tgt := 51) hx hb dX5_worstTooth_18 (by decide) (fun c_1 => ?_) (fun c_1 => ?_)
      · skip
        replace c_1 := ge_n c_1
        refine lv_iload_n hx hb dX5_worstTooth_51 rfl (lv_at hl 3 rfl) ?_
        exact end_pi hx hb hrt hlk (hres) dX5_worstTooth_52
      · exact absurd c_1 (fun h => h (cnt_ge (N := 24) e5 rfl (by omega) (by omega)))
    | succ n ih14 =>
      intro j x3 x4 x5 hj e5 hres  ls hl
      refine lv_iload hx hb dX5_worstTooth_14 (lv_at hl 5 rfl) ?_
      refine lv_bipush (v := 24) hx hb dX5_worstTooth_16 (by decide) ?_
      refine lv_icmp_ge (tgt := 51) hx hb dX5_worstTooth_18 (by decide) (fun c_2 => ?_) (fun c_2 => ?_)
      · exact absurd c_2 (cnt_nge (N := 24) e5 rfl (by decide) (by omega))
      · skip
        replace c_2 := nge_l c_2
        refine lv_aload_n hx hb dX5_worstTooth_21 rfl (lv_at hl 0 rfl) ?_
        refine lv_aload_n hx hb dX5_worstTooth_22 rfl (lv_at hl 1 rfl) ?_
        refine lv_iload_n hx hb dX5_worstTooth_23 rfl (lv_at hl 2 rfl) ?_
        refine lv_iload hx hb dX5_worstTooth_24 (lv_at hl 5 rfl) ?_
        refine cs_p (runV (As := [.ref (gA ad 0 a), .int p0, .int x5]) (rest := []) ⟨hx, hb, hml, hown, hts⟩ (m_X5_lesserCost l D kA ad X a p0 x5 (ha)) q_375 q_377 qp_8 q_1 q_378 hd_X5_lesserCost ⟨rfl, rfl⟩ ⟨Nat.le_of_ble_eq_true rfl, Nat.le_of_ble_eq_true rfl⟩ hK (ws := (cw kA ad X)) hP hD _ (ci := 5) (C := RX5) (T := TX5) (N := 6) rfl (cw_arm (kA := kA) (ad := ad) (X := X)) rfl hl.1 rfl (Nat.le_of_ble_eq_true rfl) dX5_worstTooth_26 ⟨Nat.zero_le _, Nat.zero_le _⟩) ?_
        refine lv_istore (lv' := [(6, .int (leF (X 0) a p0 x5)), (0, .ref (ad 0)), (1, .ref (gA ad 0 a)), (2, .int p0), (3, .int x3), (4, .int x4), (5, .int x5)]) hx hb dX5_worstTooth_29 hl (by decide) rfl (fun ls hl => ?_)
        refine lv_iload hx hb dX5_worstTooth_31 (lv_at hl 0 rfl) ?_
        refine lv_iload hx hb dX5_worstTooth_33 (lv_at hl 5 rfl) ?_
        refine lv_icmp_ge (tgt := 45) hx hb dX5_worstTooth_35 (by decide) (fun c_3 => ?_) (fun c_3 => ?_)
        · skip
          replace c_3 := ge_n c_3
          refine lv_iinc (v := x5 + 1) (lv' := [(5, .int (x5 + 1)), (6, .int (leF (X 0) a p0 x5)), (0, .ref (ad 0)), (1, .ref (gA ad 0 a)), (2, .int p0), (3, .int x3), (4, .int x4)]) hx hb dX5_worstTooth_45 hl (k := 6) rfl (by first | rfl | exact congrArg (_ + ·) (by decide)) (by decide) rfl (fun ls hl => ?_)
          refine lv_goto (tgt := 14) hx hb dX5_worstTooth_48 (by decide) ?_
          exact ih14 (j + 1) x3 x4 (x5 + 1) (by omega) (by rw [e5]; exact nI_1 j) (by rw [← hres, woL, if_neg c_3]) ls (lv_sub hl [2, 3, 4, 5, 6, 0] rfl)
        · skip
          replace c_3 := nge_l c_3
          refine lv_iload hx hb dX5_worstTooth_38 (lv_at hl 0 rfl) ?_
          refine lv_istore (lv' := [(4, .int (leF (X 0) a p0 x5)), (6, .int (leF (X 0) a p0 x5)), (0, .ref (ad 0)), (1, .ref (gA ad 0 a)), (2, .int p0), (3, .int x3), (5, .int x5)]) hx hb dX5_worstTooth_40 hl (by decide) rfl (fun ls hl => ?_)
          refine lv_iload hx hb dX5_worstTooth_42 (lv_at hl 6 rfl) ?_
          refine lv_istore_n (lv' := [(3, .int x5), (4, .int (leF (X 0) a p0 x5)), (6, .int (leF (X 0) a p0 x5)), (0, .ref (ad 0)), (1, .ref (gA ad 0 a)), (2, .int p0), (5, .int x5)]) hx hb dX5_worstTooth_44 rfl hl (by decide) rfl (fun ls hl => ?_)
          refine lv_iinc (v := x5 + 1) (lv' := [(5, .int (x5 + 1)), (3, .int x5), (4, .int (leF (X 0) a p0 x5)), (6, .int (leF (X 0) a p0 x5)), (0, .ref (ad 0)), (1, .ref (gA ad 0 a)), (2, .int p0)]) hx hb dX5_worstTooth_45 hl (k := 6) rfl (by first | rfl | exact congrArg (_ + ·) (by decide)) (by decide) rfl (fun ls hl => ?_)
          refine lv_goto (tgt := 14) hx hb dX5_worstTooth_48 (by decide) ?_
          exact ih14 (j + 1) x5 (leF (X 0) a p0 x5) (x5 + 1) (by omega) (by rw [e5]; exact nI_1 j) (by rw [← hres, woL, if_pos c_3]) ls (lv_sub hl [4, 5, 6, 1, 2, 0] rfl)
  exact loop_14 24 0 (-1) (leF (X 0) a p0 (-1)) 0 (by omega) (nI_0.symm) (rfl) ls (lv_sub hl [3, 4, 5, 2, 1, 0] rfl)

theorem hd_X5_turnAndSlip : yX5_turnAndSlip.cls ≠ "java/lang/invoke/MethodHandle" ∧ yX5_turnAndSlip.cls ≠ "java/lang/invoke/VarHandle" ∧ (parseMethodDescriptor yX5_turnAndSlip.desc).map (fun d => d.parameters.length) = some 2 := by decide +kernel
set_option maxRecDepth 100000 in
set_option maxHeartbeats 4000000 in
theorem m_X5_turnAndSlip (l : Launch) (D : va_G) (kA : Nat → Nat) (ad : Nat → Nat) (X : Nat → Nat → Int32) (a : Nat) (p0 : Int32) (ha : a < 4) : Met l yX5_turnAndSlip (Cond.code yX5_turnAndSlip cX5_turnAndSlip 4 (some .int) :: AW) ({ frames := 1, cells := 0, slots := 0, locals := 21 } : Room) (Pz [.ref (ad 0), .ref (gA ad 0 a), .int p0] D (TY kA) (cw kA ad X)) (pQ (some (.int (tsF (X 0) a p0)))) 0 0 (fun _ => False) := by
  refine MetZ (by decide +kernel) (Nat.le_of_ble_eq_true rfl) ?_
  intro p e s m below meth c ls hx hb hrt hts hown hml hlk hnm hP hK hD hS hl
  have hl : lv_has ls 4 [(0, .ref (ad 0)), (1, .ref (gA ad 0 a)), (2, .int p0)] := hl
  refine lv_aload_n hx hb dX5_turnAndSlip_0 rfl (lv_at hl 1 rfl) ?_
  refine lv_iload_n hx hb dX5_turnAndSlip_1 rfl (lv_at hl 2 rfl) ?_
  refine cs_p (runV (As := [.int p0]) (rest := []) ⟨hx, hb, hml, hown, hts⟩ (m_X0_isTurn l D kA (gA ad 0 a) (wA ad 0 a) ((sl ((X 0)) a) 0) ((sl ((X 0)) a) 1) ((sl ((X 0)) a) 2) ((sl ((X 0)) a) 3) ((sl ((X 0)) a) 4) ((sl ((X 0)) a) 5) ((sl ((X 0)) a) 6) ((sl ((X 0)) a) 7) ((sl ((X 0)) a) 8) ((sl ((X 0)) a) 9) ((sl ((X 0)) a) 10) p0 ) q_323 q_324 q_325 q_4 q_326 hd_X0_isTurn ⟨rfl, rfl⟩ ⟨Nat.le_of_ble_eq_true rfl, Nat.le_of_ble_eq_true rfl⟩ hK (ws := [((gA ad 0 a), .inr (0, [.ref (wA ad 0 a), .int ((sl ((X 0)) a) 0), .int ((sl ((X 0)) a) 1), .int ((sl ((X 0)) a) 2), .int ((sl ((X 0)) a) 3), .int ((sl ((X 0)) a) 4), .int ((sl ((X 0)) a) 5), .int ((sl ((X 0)) a) 6), .int ((sl ((X 0)) a) 7), .int ((sl ((X 0)) a) 8), .int ((sl ((X 0)) a) 9), .int ((sl ((X 0)) a) 10)]))]) (P1 hP (cw_gear (kA := kA) (ad := ad) (X := X) (r := 0) (a := a) (by omega) (by omega))) (D1 hD (cw_gear (kA := kA) (ad := ad) (X := X) (r := 0) (a := a) (by omega) (by omega))) 0 (ci := 0) (C := RX0) (T := TX0) (N := 12) rfl rfl rfl hl.1 rfl (Nat.le_of_ble_eq_true rfl) dX5_turnAndSlip_2 ⟨Nat.zero_le _, Nat.zero_le _⟩) ?_
  refine lv_if_ne (tgt := 10) hx hb dX5_turnAndSlip_5 (by decide) (fun c_1 => ?_) (fun c_1 => ?_)
  · skip
    replace c_1 := bI_n0 c_1
    refine lv_aload_n hx hb dX5_turnAndSlip_10 rfl (lv_at hl 1 rfl) ?_
    refine lv_aload_n hx hb dX5_turnAndSlip_11 rfl (lv_at hl 1 rfl) ?_
    refine va_get (ci := 0) (v := .int (sl ((X 0)) a 0)) (C := RX0) (T := TX0) (N := 12) hx hb hts inX0 hown hK hP _ (cw_gear (kA := kA) (ad := ad) (X := X) (r := 0) (a := a) (by omega) (by omega)) rfl 1 (by decide) (hts _ q_73) (fun _ h9 => h9) rfl dX5_turnAndSlip_12 ?_
    refine lv_iload_n hx hb dX5_turnAndSlip_15 rfl (lv_at hl 2 rfl) ?_
    refine cs_p (runS (As := [.int (sl ((X 0)) a 0), .int p0]) (rest := [.ref (gA ad 0 a)]) ⟨hx, hb, hml, hown, hts⟩ (m_X0_toothBy l D kA (sl ((X 0)) a 0) p0 ) q_327 q_312 q_4 q_313 hd_X0_toothBy ⟨rfl, rfl⟩ ⟨Nat.le_of_ble_eq_true rfl, Nat.le_of_ble_eq_true rfl⟩ hK (ws := []) (fun _ _ h => by simp at h) (D0 (A := fun _ => True)) rfl hl.1 rfl (Nat.le_of_ble_eq_true rfl) dX5_turnAndSlip_16 ⟨Nat.zero_le _, Nat.zero_le _⟩) ?_
    refine cs_p (runV (As := [.int (tW (sl ((X 0)) a 0) p0)]) (rest := []) ⟨hx, hb, hml, hown, hts⟩ (m_X0_wearOf l D kA (gA ad 0 a) (wA ad 0 a) ((sl ((X 0)) a) 0) ((sl ((X 0)) a) 1) ((sl ((X 0)) a) 2) ((sl ((X 0)) a) 3) ((sl ((X 0)) a) 4) ((sl ((X 0)) a) 5) ((sl ((X 0)) a) 6) ((sl ((X 0)) a) 7) ((sl ((X 0)) a) 8) ((sl ((X 0)) a) 9) ((sl ((X 0)) a) 10) (fun t => (sl ((X 0)) a) (t + 11)) (tW (sl ((X 0)) a 0) p0) ) q_302 q_278 q_279 q_4 q_280 hd_X0_wearOf ⟨rfl, rfl⟩ ⟨Nat.le_of_ble_eq_true rfl, Nat.le_of_ble_eq_true rfl⟩ hK (ws := [((gA ad 0 a), .inr (0, [.ref (wA ad 0 a), .int ((sl ((X 0)) a) 0), .int ((sl ((X 0)) a) 1), .int ((sl ((X 0)) a) 2), .int ((sl ((X 0)) a) 3), .int ((sl ((X 0)) a) 4), .int ((sl ((X 0)) a) 5), .int ((sl ((X 0)) a) 6), .int ((sl ((X 0)) a) 7), .int ((sl ((X 0)) a) 8), .int ((sl ((X 0)) a) 9), .int ((sl ((X 0)) a) 10)])), ((wA ad 0 a), .inl (kA 0, 24, .inl (fun t => (sl ((X 0)) a) (t + 11))))]) (P2 hP (cw_gear (kA := kA) (ad := ad) (X := X) (r := 0) (a := a) (by omega) (by omega)) (cw_wears (kA := kA) (ad := ad) (X := X) (r := 0) (a := a) (by omega) (by omega))) (D2 hD (cw_gear (kA := kA) (ad := ad) (X := X) (r := 0) (a := a) (by omega) (by omega)) (cw_wears (kA := kA) (ad := ad) (X := X) (r := 0) (a := a) (by omega) (by omega)) (by omega)) 0 (ci := 0) (C := RX0) (T := TX0) (N := 12) rfl rfl rfl hl.1 rfl (Nat.le_of_ble_eq_true rfl) dX5_turnAndSlip_19 ⟨Nat.zero_le _, Nat.zero_le _⟩) ?_
    refine lv_istore_n (lv' := [(3, .int (wrF (fun t => (sl ((X 0)) a) (t + 11)) (tW (sl ((X 0)) a 0) p0))), (0, .ref (ad 0)), (1, .ref (gA ad 0 a)), (2, .int p0)]) hx hb dX5_turnAndSlip_22 rfl hl (by decide) rfl (fun ls hl => ?_)
    refine lv_iload_n hx hb dX5_turnAndSlip_23 rfl (lv_at hl 0 rfl) ?_
    refine lv_aload_n hx hb dX5_turnAndSlip_24 rfl (lv_at hl 1 rfl) ?_
    refine va_get (ci := 5) (v := .ref (sA ad 0)) (C := RX5) (T := TX5) (N := 6) hx hb hts inX5 hown hK hP _ (cw_arm (kA := kA) (ad := ad) (X := X)) rfl 0 (by decide) (hts _ q_176) (fun _ h9 => h9) rfl dX5_turnAndSlip_25 ?_
    refine va_get (ci := 4) (v := .ref (rA ad 0)) (C := RX4) (T := TX4) (N := 4) hx hb hts inX4 hown hK hP _ (cw_state (kA := kA) (ad := ad) (X := X) (r := 0) (by omega)) rfl 0 (by decide) (hts _ q_117) (fun _ h9 => h9) rfl dX5_turnAndSlip_28 ?_
    refine va_get (ci := 3) (v := .int ((X 0) 2)) (C := RX3) (T := TX3) (N := 6) hx hb hts inX3 hown hK hP _ (cw_rules (kA := kA) (ad := ad) (X := X) (r := 0) (by omega)) rfl 2 (by decide) (hts _ q_43) (fun _ h9 => h9) rfl dX5_turnAndSlip_31 ?_
    refine lv_icmp_lt (tgt := 41) hx hb dX5_turnAndSlip_34 (by decide) (fun c_2 => ?_) (fun c_2 => ?_)
    · skip
      refine lv_iconst (v := 1) hx hb dX5_turnAndSlip_41 (by decide) ?_
      exact end_pi hx hb hrt hlk (by rw [tsF, turnG, gwr, if_pos c_1, if_pos c_2]) dX5_turnAndSlip_42
    · skip
      refine lv_iconst (v := 2) hx hb dX5_turnAndSlip_37 (by decide) ?_
      refine lv_goto (tgt := 42) hx hb dX5_turnAndSlip_38 (by decide) ?_
      exact end_pi hx hb hrt hlk (by rw [tsF, turnG, gwr, if_pos c_1, if_neg c_2]) dX5_turnAndSlip_42
  · skip
    replace c_1 := bI_0.mp c_1
    refine lv_iconst (v := 0) hx hb dX5_turnAndSlip_8 (by decide) ?_
    exact end_pi hx hb hrt hlk (by rw [tsF, turnG, gwr, if_neg (by rw [c_1]; decide)]) dX5_turnAndSlip_9

theorem hd_X5_homingFact : yX5_homingFact.cls ≠ "java/lang/invoke/MethodHandle" ∧ yX5_homingFact.cls ≠ "java/lang/invoke/VarHandle" ∧ (parseMethodDescriptor yX5_homingFact.desc).map (fun d => d.parameters.length) = some 2 := by decide +kernel
set_option maxRecDepth 100000 in
set_option maxHeartbeats 4000000 in
theorem m_X5_homingFact (l : Launch) (D : va_G) (kA : Nat → Nat) (ad : Nat → Nat) (X : Nat → Nat → Int32) (a : Nat) (p0 : Int32) (ha : a < 4) : Met l yX5_homingFact (Cond.code yX5_homingFact cX5_homingFact 4 (some .int) :: AW) ({ frames := 3, cells := 0, slots := 0, locals := 81 } : Room) (Pz [.ref (ad 0), .ref (gA ad 0 a), .int p0] D (TY kA) (cw kA ad X)) (fQ (some (.int (hfF (X 7) (X 0) a p0))) D (cw kA ad X) (cw kA ad (up2 X 7 (hfT (X 7) (X 0) a)))) 0 0 (Aw (cw kA ad X)) := by
  refine MetZ (by decide +kernel) (Nat.le_of_ble_eq_true rfl) ?_
  intro p e s m below meth c ls hx hb hrt hts hown hml hlk hnm hP hK hD hS hl
  have hl : lv_has ls 4 [(0, .ref (ad 0)), (1, .ref (gA ad 0 a)), (2, .int p0)] := hl
  rw [← up2_self (X := X) (r := 7)] at hP hD
  refine lv_aload_n hx hb dX5_homingFact_0 rfl (lv_at hl 0 rfl) ?_
  refine va_get (ci := 5) (v := .ref (gA ad 7 0)) (C := RX5) (T := TX5) (N := 6) hx hb hts inX5 hown hK hP _ (cw_arm (kA := kA) (ad := ad) (X := up2 X 7 (X 7))) rfl 2 (by decide) (hts _ q_178) (fun _ h9 => h9) rfl dX5_homingFact_1 ?_
  refine lv_aload_n hx hb dX5_homingFact_4 rfl (lv_at hl 1 rfl) ?_
  refine cs_fn (runV (As := [.ref (gA ad 0 a)]) (rest := []) ⟨hx, hb, hml, hown, hts⟩ (m_X0_copyFrom l D kA (gA ad 7 0) (wA ad 7 0) (sl ((X 7)) 0) (gA ad 0 a) (wA ad 0 a) (sl ((X 0)) a) ) q_339 q_340 q_341 q_4 q_342 hd_X0_copyFrom ⟨rfl, rfl⟩ ⟨Nat.le_of_ble_eq_true rfl, Nat.le_of_ble_eq_true rfl⟩ hK (ws := [((gA ad 7 0), gC (wA ad 7 0) (sl ((X 7)) 0)), ((wA ad 7 0), wC kA (sl ((X 7)) 0)), ((gA ad 0 a), gC (wA ad 0 a) (sl ((X 0)) a)), ((wA ad 0 a), wC kA (sl ((X 0)) a))]) (P4 hP (cw_gear (kA := kA) (ad := ad) (X := up2 X 7 (X 7)) (r := 7) (a := 0) (by omega) (by omega)) (cw_wears (kA := kA) (ad := ad) (X := up2 X 7 (X 7)) (r := 7) (a := 0) (by omega) (by omega)) (cw_gear (kA := kA) (ad := ad) (X := up2 X 7 (X 7)) (r := 0) (a := a) (by omega) (by omega)) (cw_wears (kA := kA) (ad := ad) (X := up2 X 7 (X 7)) (r := 0) (a := a) (by omega) (by omega))) (D4 hD (cw_gear (kA := kA) (ad := ad) (X := up2 X 7 (X 7)) (r := 7) (a := 0) (by omega) (by omega)) (cw_wears (kA := kA) (ad := ad) (X := up2 X 7 (X 7)) (r := 7) (a := 0) (by omega) (by omega)) (cw_gear (kA := kA) (ad := ad) (X := up2 X 7 (X 7)) (r := 0) (a := a) (by omega) (by omega)) (cw_wears (kA := kA) (ad := ad) (X := up2 X 7 (X 7)) (r := 0) (a := a) (by omega) (by omega)) (by omega) (by omega) (by omega) (by omega) (by omega) (by omega)) 0 (ci := 0) (C := RX0) (T := TX0) (N := 12) rfl rfl rfl hl.1 rfl (Nat.le_of_ble_eq_true rfl) dX5_homingFact_5 ⟨Nat.zero_le _, Nat.zero_le _⟩) hS (cw_sub (fun q hq => by simp only [List.mem_cons, List.not_mem_nil, or_false] at hq; rcases hq with rfl | rfl | rfl | rfl <;> first | exact ⟨2 * (4 * 7 + 0) + 5, by omega, rfl⟩ | exact ⟨2 * (4 * 7 + 0) + 6, by omega, rfl⟩ | exact ⟨2 * (4 * 0 + a) + 5, by omega, rfl⟩ | exact ⟨2 * (4 * 0 + a) + 6, by omega, rfl⟩)) (fun H locs hP1 hk1 hS => ?_)
  obtain ⟨hP, hD⟩ := jn_G4 (r := 7) (a := 0) (by omega) (by omega) (r' := 0) (a' := a) (by omega) (by omega) (by omega) (G' := (sl ((X 0)) a)) hP hD hk1 hP1
  clear hk1 hP1
  rw [nf_G] at hP hD
  refine lv_aload_n hx hb dX5_homingFact_8 rfl (lv_at hl 0 rfl) ?_
  refine va_get (ci := 5) (v := .ref (gA ad 7 0)) (C := RX5) (T := TX5) (N := 6) hx hb hts inX5 hown hK hP _ (cw_arm (kA := kA) (ad := ad) (X := up2 X 7 (inG (X 7) 0 (sl ((X 0)) a)))) rfl 2 (by decide) (hts _ q_178) (fun _ h9 => h9) rfl dX5_homingFact_9 ?_
  refine lv_aload_n hx hb dX5_homingFact_12 rfl (lv_at hl 0 rfl) ?_
  refine va_get (ci := 5) (v := .ref (sA ad 0)) (C := RX5) (T := TX5) (N := 6) hx hb hts inX5 hown hK hP _ (cw_arm (kA := kA) (ad := ad) (X := up2 X 7 (inG (X 7) 0 (sl ((X 0)) a)))) rfl 0 (by decide) (hts _ q_176) (fun _ h9 => h9) rfl dX5_homingFact_13 ?_
  refine va_get (ci := 4) (v := .int ((X 0) 6)) (C := RX4) (T := TX4) (N := 4) hx hb hts inX4 hown hK hP _ (cw_state (kA := kA) (ad := ad) (X := up2 X 7 (inG (X 7) 0 (sl ((X 0)) a))) (r := 0) (by omega)) rfl 2 (by decide) (hts _ q_120) (fun _ h9 => h9) rfl dX5_homingFact_16 ?_
  refine lv_aload_n hx hb dX5_homingFact_19 rfl (lv_at hl 0 rfl) ?_
  refine va_get (ci := 5) (v := .ref (sA ad 0)) (C := RX5) (T := TX5) (N := 6) hx hb hts inX5 hown hK hP _ (cw_arm (kA := kA) (ad := ad) (X := up2 X 7 (inG (X 7) 0 (sl ((X 0)) a)))) rfl 0 (by decide) (hts _ q_176) (fun _ h9 => h9) rfl dX5_homingFact_20 ?_
  refine va_get (ci := 4) (v := .ref (rA ad 0)) (C := RX4) (T := TX4) (N := 4) hx hb hts inX4 hown hK hP _ (cw_state (kA := kA) (ad := ad) (X := up2 X 7 (inG (X 7) 0 (sl ((X 0)) a))) (r := 0) (by omega)) rfl 0 (by decide) (hts _ q_117) (fun _ h9 => h9) rfl dX5_homingFact_23 ?_
  refine cs_fs (runV (As := [.int ((X 0) 6), .ref (rA ad 0)]) (rest := []) ⟨hx, hb, hml, hown, hts⟩ (m_X0_makeHomed l D kA (gA ad 7 0) (wA ad 7 0) (sl ((inG (X 7) 0 (sl ((X 0)) a))) 0) (rA ad 0) (X 0) ((X 0) 6) ) q_346 q_347 q_348 q_4 q_349 hd_X0_makeHomed ⟨rfl, rfl⟩ ⟨Nat.le_of_ble_eq_true rfl, Nat.le_of_ble_eq_true rfl⟩ hK (ws := [((gA ad 7 0), gC (wA ad 7 0) (sl ((inG (X 7) 0 (sl ((X 0)) a))) 0)), ((wA ad 7 0), wC kA (sl ((inG (X 7) 0 (sl ((X 0)) a))) 0)), ((rA ad 0), rC (X 0))]) (P3 hP (cw_gear (kA := kA) (ad := ad) (X := up2 X 7 (inG (X 7) 0 (sl ((X 0)) a))) (r := 7) (a := 0) (by omega) (by omega)) (cw_wears (kA := kA) (ad := ad) (X := up2 X 7 (inG (X 7) 0 (sl ((X 0)) a))) (r := 7) (a := 0) (by omega) (by omega)) (cw_rules (kA := kA) (ad := ad) (X := up2 X 7 (inG (X 7) 0 (sl ((X 0)) a))) (r := 0) (by omega))) (D3 hD (cw_gear (kA := kA) (ad := ad) (X := up2 X 7 (inG (X 7) 0 (sl ((X 0)) a))) (r := 7) (a := 0) (by omega) (by omega)) (cw_wears (kA := kA) (ad := ad) (X := up2 X 7 (inG (X 7) 0 (sl ((X 0)) a))) (r := 7) (a := 0) (by omega) (by omega)) (cw_rules (kA := kA) (ad := ad) (X := up2 X 7 (inG (X 7) 0 (sl ((X 0)) a))) (r := 0) (by omega)) (by omega) (by omega) (by omega)) 0 (ci := 0) (C := RX0) (T := TX0) (N := 12) rfl rfl rfl hl.1 rfl (Nat.le_of_ble_eq_true rfl) dX5_homingFact_26 ⟨Nat.zero_le _, Nat.zero_le _⟩) hS (cw_sub (fun q hq => by simp only [List.mem_cons, List.not_mem_nil, or_false] at hq; rcases hq with rfl | rfl | rfl <;> first | exact ⟨2 * (4 * 7 + 0) + 5, by omega, rfl⟩ | exact ⟨2 * (4 * 7 + 0) + 6, by omega, rfl⟩ | exact ⟨3 * 0 + 64, by omega, rfl⟩)) (fun H locs hP1 hk1 hS => ?_)
  obtain ⟨hP, hD⟩ := jn_G3 (r := 7) (a := 0) (by omega) (by omega) (r' := 0) (by omega) (G' := (hmG (sl ((inG (X 7) 0 (sl ((X 0)) a))) 0) (X 0) ((X 0) 6))) hP hD hk1 hP1
  clear hk1 hP1
  rw [nf_G] at hP hD
  refine lv_istore_n (lv' := [(3, .int (hmP (sl ((inG (X 7) 0 (sl ((X 0)) a))) 0) (X 0) ((X 0) 6))), (0, .ref (ad 0)), (1, .ref (gA ad 0 a)), (2, .int p0)]) hx hb dX5_homingFact_29 rfl hl (by decide) rfl (fun ls hl => ?_)
  refine lv_iload_n hx hb dX5_homingFact_30 rfl (lv_at hl 3 rfl) ?_
  by_cases c_1 : p0 = 0
  · skip
    refine lv_lookup (off := 25) (tgt := 56) hx hb dX5_homingFact_31 (by decide +kernel) (by rw [c_1]; decide +kernel) (by decide) ?_
    refine lv_aload_n hx hb dX5_homingFact_56 rfl (lv_at hl 1 rfl) ?_
    refine va_get (ci := 5) (v := .ref (gA ad 7 0)) (C := RX5) (T := TX5) (N := 6) hx hb hts inX5 hown hK hP _ (cw_arm (kA := kA) (ad := ad) (X := up2 X 7 (inG (inG (X 7) 0 (sl ((X 0)) a)) 0 (hmG (sl ((inG (X 7) 0 (sl ((X 0)) a))) 0) (X 0) ((X 0) 6))))) rfl 2 (by decide) (hts _ q_178) (fun _ h9 => h9) rfl dX5_homingFact_57 ?_
    refine va_get (ci := 0) (v := .int (sl ((inG (inG (X 7) 0 (sl ((X 0)) a)) 0 (hmG (sl ((inG (X 7) 0 (sl ((X 0)) a))) 0) (X 0) ((X 0) 6)))) 0 6)) (C := RX0) (T := TX0) (N := 12) hx hb hts inX0 hown hK hP _ (cw_gear (kA := kA) (ad := ad) (X := up2 X 7 (inG (inG (X 7) 0 (sl ((X 0)) a)) 0 (hmG (sl ((inG (X 7) 0 (sl ((X 0)) a))) 0) (X 0) ((X 0) 6)))) (r := 7) (a := 0) (by omega) (by omega)) rfl 7 (by decide) (hts _ q_84) (fun _ h9 => h9) rfl dX5_homingFact_60 ?_
    refine lv_aload_n hx hb dX5_homingFact_63 rfl (lv_at hl 2 rfl) ?_
    refine va_get (ci := 0) (v := .int (sl ((X 0)) a 6)) (C := RX0) (T := TX0) (N := 12) hx hb hts inX0 hown hK hP _ (cw_gear (kA := kA) (ad := ad) (X := up2 X 7 (inG (inG (X 7) 0 (sl ((X 0)) a)) 0 (hmG (sl ((inG (X 7) 0 (sl ((X 0)) a))) 0) (X 0) ((X 0) 6)))) (r := 0) (a := a) (by omega) (by omega)) rfl 7 (by decide) (hts _ q_84) (fun _ h9 => h9) rfl dX5_homingFact_64 ?_
    refine lv_isub hx hb dX5_homingFact_67 ?_
    exact end_fi hx hb hrt hlk hP hS (by rw [hfF, if_pos c_1]; rfl) (fun h => h) dX5_homingFact_68
  by_cases c_2 : p0 = 1
  · skip
    refine lv_lookup (off := 38) (tgt := 69) hx hb dX5_homingFact_31 (by decide +kernel) (by rw [c_2]; decide +kernel) (by decide) ?_
    refine lv_iload_n hx hb dX5_homingFact_69 rfl (lv_at hl 0 rfl) ?_
    exact end_fi hx hb hrt hlk hP hS (by rw [hfF, if_neg c_1, if_pos c_2]; rfl) (fun h => h) dX5_homingFact_70
  refine lv_lookup (off := 40) (tgt := 71) hx hb dX5_homingFact_31 (by decide +kernel) (by rw [lv_osw c_1 (by decide)]; rw [lv_osw c_2 (by decide)]; rfl) (by decide) ?_
  refine lv_aload_n hx hb dX5_homingFact_71 rfl (lv_at hl 1 rfl) ?_
  refine va_get (ci := 5) (v := .ref (gA ad 7 0)) (C := RX5) (T := TX5) (N := 6) hx hb hts inX5 hown hK hP _ (cw_arm (kA := kA) (ad := ad) (X := up2 X 7 (inG (inG (X 7) 0 (sl ((X 0)) a)) 0 (hmG (sl ((inG (X 7) 0 (sl ((X 0)) a))) 0) (X 0) ((X 0) 6))))) rfl 2 (by decide) (hts _ q_178) (fun _ h9 => h9) rfl dX5_homingFact_72 ?_
  refine va_get (ci := 0) (v := .int (sl ((inG (inG (X 7) 0 (sl ((X 0)) a)) 0 (hmG (sl ((inG (X 7) 0 (sl ((X 0)) a))) 0) (X 0) ((X 0) 6)))) 0 10)) (C := RX0) (T := TX0) (N := 12) hx hb hts inX0 hown hK hP _ (cw_gear (kA := kA) (ad := ad) (X := up2 X 7 (inG (inG (X 7) 0 (sl ((X 0)) a)) 0 (hmG (sl ((inG (X 7) 0 (sl ((X 0)) a))) 0) (X 0) ((X 0) 6)))) (r := 7) (a := 0) (by omega) (by omega)) rfl 11 (by decide) (hts _ q_89) (fun _ h9 => h9) rfl dX5_homingFact_75 ?_
  refine lv_aload_n hx hb dX5_homingFact_78 rfl (lv_at hl 2 rfl) ?_
  refine va_get (ci := 0) (v := .int (sl ((X 0)) a 10)) (C := RX0) (T := TX0) (N := 12) hx hb hts inX0 hown hK hP _ (cw_gear (kA := kA) (ad := ad) (X := up2 X 7 (inG (inG (X 7) 0 (sl ((X 0)) a)) 0 (hmG (sl ((inG (X 7) 0 (sl ((X 0)) a))) 0) (X 0) ((X 0) 6)))) (r := 0) (a := a) (by omega) (by omega)) rfl 11 (by decide) (hts _ q_89) (fun _ h9 => h9) rfl dX5_homingFact_79 ?_
  refine lv_isub hx hb dX5_homingFact_82 ?_
  exact end_fi hx hb hrt hlk hP hS (by rw [hfF, if_neg c_1, if_neg c_2]; rfl) (fun h => h) dX5_homingFact_83

theorem hd_X5_reachOf : yX5_reachOf.cls ≠ "java/lang/invoke/MethodHandle" ∧ yX5_reachOf.cls ≠ "java/lang/invoke/VarHandle" ∧ (parseMethodDescriptor yX5_reachOf.desc).map (fun d => d.parameters.length) = some 2 := by decide +kernel
set_option maxRecDepth 100000 in
set_option maxHeartbeats 4000000 in
theorem m_X5_reachOf (l : Launch) (D : va_G) (kA : Nat → Nat) (ad : Nat → Nat) (X : Nat → Nat → Int32) (a : Nat) (p0 : Int32) (ha : a < 4) : Met l yX5_reachOf (Cond.code yX5_reachOf cX5_reachOf 6 (some .int) :: AW) ({ frames := 2, cells := 0, slots := 0, locals := 81 } : Room) (Pz [.ref (ad 0), .ref (gA ad 0 a), .int p0] D (TY kA) (cw kA ad X)) (fQ (some (.int ((reF (X 7) (X 0) a p0).1))) D (cw kA ad X) (cw kA ad (up2 X 7 (reF (X 7) (X 0) a p0).2))) 0 0 (Aw (cw kA ad X)) := by
  refine MetZ (by decide +kernel) (Nat.le_of_ble_eq_true rfl) ?_
  intro p e s m below meth c ls hx hb hrt hts hown hml hlk hnm hP hK hD hS hl
  have hl : lv_has ls 6 [(0, .ref (ad 0)), (1, .ref (gA ad 0 a)), (2, .int p0)] := hl
  rw [← up2_self (X := X) (r := 7)] at hP hD
  refine lv_aload_n hx hb dX5_reachOf_0 rfl (lv_at hl 0 rfl) ?_
  refine va_get (ci := 5) (v := .ref (gA ad 7 0)) (C := RX5) (T := TX5) (N := 6) hx hb hts inX5 hown hK hP _ (cw_arm (kA := kA) (ad := ad) (X := up2 X 7 (X 7))) rfl 2 (by decide) (hts _ q_178) (fun _ h9 => h9) rfl dX5_reachOf_1 ?_
  refine lv_aload_n hx hb dX5_reachOf_4 rfl (lv_at hl 1 rfl) ?_
  refine cs_fn (runV (As := [.ref (gA ad 0 a)]) (rest := []) ⟨hx, hb, hml, hown, hts⟩ (m_X0_copyFrom l D kA (gA ad 7 0) (wA ad 7 0) (sl ((X 7)) 0) (gA ad 0 a) (wA ad 0 a) (sl ((X 0)) a) ) q_339 q_340 q_341 q_4 q_342 hd_X0_copyFrom ⟨rfl, rfl⟩ ⟨Nat.le_of_ble_eq_true rfl, Nat.le_of_ble_eq_true rfl⟩ hK (ws := [((gA ad 7 0), gC (wA ad 7 0) (sl ((X 7)) 0)), ((wA ad 7 0), wC kA (sl ((X 7)) 0)), ((gA ad 0 a), gC (wA ad 0 a) (sl ((X 0)) a)), ((wA ad 0 a), wC kA (sl ((X 0)) a))]) (P4 hP (cw_gear (kA := kA) (ad := ad) (X := up2 X 7 (X 7)) (r := 7) (a := 0) (by omega) (by omega)) (cw_wears (kA := kA) (ad := ad) (X := up2 X 7 (X 7)) (r := 7) (a := 0) (by omega) (by omega)) (cw_gear (kA := kA) (ad := ad) (X := up2 X 7 (X 7)) (r := 0) (a := a) (by omega) (by omega)) (cw_wears (kA := kA) (ad := ad) (X := up2 X 7 (X 7)) (r := 0) (a := a) (by omega) (by omega))) (D4 hD (cw_gear (kA := kA) (ad := ad) (X := up2 X 7 (X 7)) (r := 7) (a := 0) (by omega) (by omega)) (cw_wears (kA := kA) (ad := ad) (X := up2 X 7 (X 7)) (r := 7) (a := 0) (by omega) (by omega)) (cw_gear (kA := kA) (ad := ad) (X := up2 X 7 (X 7)) (r := 0) (a := a) (by omega) (by omega)) (cw_wears (kA := kA) (ad := ad) (X := up2 X 7 (X 7)) (r := 0) (a := a) (by omega) (by omega)) (by omega) (by omega) (by omega) (by omega) (by omega) (by omega)) 0 (ci := 0) (C := RX0) (T := TX0) (N := 12) rfl rfl rfl hl.1 rfl (Nat.le_of_ble_eq_true rfl) dX5_reachOf_5 ⟨Nat.zero_le _, Nat.zero_le _⟩) hS (cw_sub (fun q hq => by simp only [List.mem_cons, List.not_mem_nil, or_false] at hq; rcases hq with rfl | rfl | rfl | rfl <;> first | exact ⟨2 * (4 * 7 + 0) + 5, by omega, rfl⟩ | exact ⟨2 * (4 * 7 + 0) + 6, by omega, rfl⟩ | exact ⟨2 * (4 * 0 + a) + 5, by omega, rfl⟩ | exact ⟨2 * (4 * 0 + a) + 6, by omega, rfl⟩)) (fun H locs hP1 hk1 hS => ?_)
  obtain ⟨hP, hD⟩ := jn_G4 (r := 7) (a := 0) (by omega) (by omega) (r' := 0) (a' := a) (by omega) (by omega) (by omega) (G' := (sl ((X 0)) a)) hP hD hk1 hP1
  clear hk1 hP1
  rw [nf_G] at hP hD
  refine lv_aload_n hx hb dX5_reachOf_8 rfl (lv_at hl 0 rfl) ?_
  refine va_get (ci := 5) (v := .ref (sA ad 0)) (C := RX5) (T := TX5) (N := 6) hx hb hts inX5 hown hK hP _ (cw_arm (kA := kA) (ad := ad) (X := up2 X 7 (inG (X 7) 0 (sl ((X 0)) a)))) rfl 0 (by decide) (hts _ q_176) (fun _ h9 => h9) rfl dX5_reachOf_9 ?_
  refine va_get (ci := 4) (v := .int ((X 0) 6)) (C := RX4) (T := TX4) (N := 4) hx hb hts inX4 hown hK hP _ (cw_state (kA := kA) (ad := ad) (X := up2 X 7 (inG (X 7) 0 (sl ((X 0)) a))) (r := 0) (by omega)) rfl 2 (by decide) (hts _ q_120) (fun _ h9 => h9) rfl dX5_reachOf_12 ?_
  refine lv_istore_n (lv' := [(3, .int ((X 0) 6)), (0, .ref (ad 0)), (1, .ref (gA ad 0 a)), (2, .int p0)]) hx hb dX5_reachOf_15 rfl hl (by decide) rfl (fun ls hl => ?_)
  refine lv_iconst (v := 0) hx hb dX5_reachOf_16 (by decide) ?_
  refine lv_istore (lv' := [(4, .int 0), (3, .int ((X 0) 6)), (0, .ref (ad 0)), (1, .ref (gA ad 0 a)), (2, .int p0)]) hx hb dX5_reachOf_17 hl (by decide) rfl (fun ls hl => ?_)
  have loop_19 : ∀ (n : Nat) (j : Nat) (T : Nat → Int32) (x3 : Int32) (x4 : Int32) (hj : j + n = 100) (e4 : x4 = nI j) (hres : reL (X 0) p0 n T x3 x4 = reF (X 7) (X 0) a p0), ∀ (H : Heap) (locs : List Loc), va_P D vwCl (cw kA ad (up2 X 7 T)) H → va_D (Aw (cw kA ad X)) (cw kA ad (up2 X 7 T)) → va_S (Aw (cw kA ad X)) s.heap H locs → ∀ ls : Array Slot, lv_has ls 6 [(0, .ref (ad 0)), (1, .ref (gA ad 0 a)), (2, .int p0), (3, .int x3), (4, .int x4)] → W p l e ({ frames := 2, cells := 0, slots := 0, locals := 81 } : Room) s m [.ref (ad 0), .ref (gA ad 0 a), .int p0].toArray below meth c H locs 0 0 (MQ below (fQ (some (.int ((reF (X 7) (X 0) a p0).1))) D (cw kA ad X) (cw kA ad (up2 X 7 (reF (X 7) (X 0) a p0).2))) [.ref (ad 0), .ref (gA ad 0 a), .int p0].toArray s 0 0 (Aw (cw kA ad X))) (F0 m 19 ls []) := by
    clear hl
    clear hP hD hS
    intro n
    induction n with
    | zero =>
      intro j T x3 x4 hj e4 hres H locs hP hD hS ls hl
      refine lv_iload hx hb dX5_reachOf_19 (lv_at hl 4 rfl) ?_
      refine lv_bipush (v := 100) hx hb dX5_reachOf_21 (by decide) ?_
      refine lv_icmp_ge (tgt := 63) hx hb dX5_reachOf_23 (by decide) (fun c_1 => ?_) (fun c_1 => ?_)
      · skip
        replace c_1 := ge_n c_1
        refine lv_iload hx hb dX5_reachOf_63 (lv_at hl 4 rfl) ?_
        exact end_fi hx hb hrt hlk hP hS (by rw [← hres]; rfl) (fun h => by rw [← hres]; exact h) dX5_reachOf_65
      · exact absurd c_1 (fun h => h (cnt_ge (N := 100) e4 rfl (by omega) (by omega)))
    | succ n ih19 =>
      intro j T x3 x4 hj e4 hres H locs hP hD hS ls hl
      refine lv_iload hx hb dX5_reachOf_19 (lv_at hl 4 rfl) ?_
      refine lv_bipush (v := 100) hx hb dX5_reachOf_21 (by decide) ?_
      refine lv_icmp_ge (tgt := 63) hx hb dX5_reachOf_23 (by decide) (fun c_2 => ?_) (fun c_2 => ?_)
      · exact absurd c_2 (cnt_nge (N := 100) e4 rfl (by decide) (by omega))
      · skip
        replace c_2 := nge_l c_2
        refine lv_aload_n hx hb dX5_reachOf_26 rfl (lv_at hl 0 rfl) ?_
        refine va_get (ci := 5) (v := .ref (gA ad 7 0)) (C := RX5) (T := TX5) (N := 6) hx hb hts inX5 hown hK hP _ (cw_arm (kA := kA) (ad := ad) (X := up2 X 7 T)) rfl 2 (by decide) (hts _ q_178) (fun _ h9 => h9) rfl dX5_reachOf_27 ?_
        refine lv_iload_n hx hb dX5_reachOf_30 rfl (lv_at hl 2 rfl) ?_
        refine lv_iload_n hx hb dX5_reachOf_31 rfl (lv_at hl 3 rfl) ?_
        refine lv_aload_n hx hb dX5_reachOf_32 rfl (lv_at hl 0 rfl) ?_
        refine va_get (ci := 5) (v := .ref (sA ad 0)) (C := RX5) (T := TX5) (N := 6) hx hb hts inX5 hown hK hP _ (cw_arm (kA := kA) (ad := ad) (X := up2 X 7 T)) rfl 0 (by decide) (hts _ q_176) (fun _ h9 => h9) rfl dX5_reachOf_33 ?_
        refine va_get (ci := 4) (v := .ref (rA ad 0)) (C := RX4) (T := TX4) (N := 4) hx hb hts inX4 hown hK hP _ (cw_state (kA := kA) (ad := ad) (X := up2 X 7 T) (r := 0) (by omega)) rfl 0 (by decide) (hts _ q_117) (fun _ h9 => h9) rfl dX5_reachOf_36 ?_
        refine cs_fs (runV (As := [.int p0, .int x3, .ref (rA ad 0)]) (rest := []) ⟨hx, hb, hml, hown, hts⟩ (m_X0_makeStep l D kA (gA ad 7 0) (wA ad 7 0) (sl (T) 0) (rA ad 0) (X 0) p0 x3 ) q_366 q_351 q_352 q_4 q_353 hd_X0_makeStep ⟨rfl, rfl⟩ ⟨Nat.le_of_ble_eq_true rfl, Nat.le_of_ble_eq_true rfl⟩ hK (ws := [((gA ad 7 0), gC (wA ad 7 0) (sl (T) 0)), ((wA ad 7 0), wC kA (sl (T) 0)), ((rA ad 0), rC (X 0))]) (P3 hP (cw_gear (kA := kA) (ad := ad) (X := up2 X 7 T) (r := 7) (a := 0) (by omega) (by omega)) (cw_wears (kA := kA) (ad := ad) (X := up2 X 7 T) (r := 7) (a := 0) (by omega) (by omega)) (cw_rules (kA := kA) (ad := ad) (X := up2 X 7 T) (r := 0) (by omega))) (D3 hD (cw_gear (kA := kA) (ad := ad) (X := up2 X 7 T) (r := 7) (a := 0) (by omega) (by omega)) (cw_wears (kA := kA) (ad := ad) (X := up2 X 7 T) (r := 7) (a := 0) (by omega) (by omega)) (cw_rules (kA := kA) (ad := ad) (X := up2 X 7 T) (r := 0) (by omega)) (by omega) (by omega) (by omega)) 0 (ci := 0) (C := RX0) (T := TX0) (N := 12) rfl rfl rfl hl.1 rfl (Nat.le_of_ble_eq_true rfl) dX5_reachOf_39 ⟨Nat.zero_le _, Nat.zero_le _⟩) hS (cw_sub (fun q hq => by simp only [List.mem_cons, List.not_mem_nil, or_false] at hq; rcases hq with rfl | rfl | rfl <;> first | exact ⟨2 * (4 * 7 + 0) + 5, by omega, rfl⟩ | exact ⟨2 * (4 * 7 + 0) + 6, by omega, rfl⟩ | exact ⟨3 * 0 + 64, by omega, rfl⟩)) (fun H locs hP1 hk1 hS => ?_)
        obtain ⟨hP, hD⟩ := jn_G3 (r := 7) (a := 0) (by omega) (by omega) (r' := 0) (by omega) (G' := (msG (sl (T) 0) (X 0) p0 x3)) hP hD hk1 hP1
        clear hk1 hP1
        rw [nf_G] at hP hD
        refine lv_istore (lv' := [(5, .int (msR (sl (T) 0) (X 0) p0 x3)), (0, .ref (ad 0)), (1, .ref (gA ad 0 a)), (2, .int p0), (3, .int x3), (4, .int x4)]) hx hb dX5_reachOf_42 hl (by decide) rfl (fun ls hl => ?_)
        refine lv_iload hx hb dX5_reachOf_44 (lv_at hl 0 rfl) ?_
        refine lv_if_ne (tgt := 52) hx hb dX5_reachOf_46 (by decide) (fun c_3 => ?_) (fun c_3 => ?_)
        · skip
          refine lv_iload_n hx hb dX5_reachOf_52 rfl (lv_at hl 4 rfl) ?_
          refine lv_iload hx hb dX5_reachOf_53 (lv_at hl 0 rfl) ?_
          refine lv_isub hx hb dX5_reachOf_55 ?_
          refine lv_istore_n (lv' := [(3, .int (x3 - (msR (sl (T) 0) (X 0) p0 x3))), (5, .int (msR (sl (T) 0) (X 0) p0 x3)), (0, .ref (ad 0)), (1, .ref (gA ad 0 a)), (2, .int p0), (4, .int x4)]) hx hb dX5_reachOf_56 rfl hl (by decide) rfl (fun ls hl => ?_)
          refine lv_iinc (v := x4 + 1) (lv' := [(4, .int (x4 + 1)), (3, .int (x3 - (msR (sl (T) 0) (X 0) p0 x3))), (5, .int (msR (sl (T) 0) (X 0) p0 x3)), (0, .ref (ad 0)), (1, .ref (gA ad 0 a)), (2, .int p0)]) hx hb dX5_reachOf_57 hl (k := 5) rfl (by first | rfl | exact congrArg (_ + ·) (by decide)) (by decide) rfl (fun ls hl => ?_)
          refine lv_goto (tgt := 19) hx hb dX5_reachOf_60 (by decide) ?_
          exact ih19 (j + 1) (inG T 0 (msG (sl (T) 0) (X 0) p0 x3)) (x3 - (msR (sl (T) 0) (X 0) p0 x3)) (x4 + 1) (by omega) (by rw [e4]; exact nI_1 j) (by rw [← hres, reL, if_neg c_3]) _ _ hP hD hS ls (lv_sub hl [3, 4, 5, 1, 0] rfl)
        · skip
          refine lv_goto (tgt := 63) hx hb dX5_reachOf_49 (by decide) ?_
          refine lv_iload hx hb dX5_reachOf_63 (lv_at hl 5 rfl) ?_
          exact end_fi hx hb hrt hlk hP hS (by rw [← hres, reL, if_pos c_3]) (fun h => by rw [← hres, reL, if_pos c_3]; exact h) dX5_reachOf_65
  exact loop_19 100 0 (t7 (X 7) (X 0) a) (X 0 6) 0 (by omega) (nI_0.symm) (rfl) _ _ hP hD hS ls (lv_sub hl [2, 3, 4, 1, 0] rfl)

theorem hd_X5_countOf : yX5_countOf.cls ≠ "java/lang/invoke/MethodHandle" ∧ yX5_countOf.cls ≠ "java/lang/invoke/VarHandle" ∧ (parseMethodDescriptor yX5_countOf.desc).map (fun d => d.parameters.length) = some 1 := by decide +kernel
set_option maxRecDepth 100000 in
set_option maxHeartbeats 4000000 in
theorem m_X5_countOf (l : Launch) (D : va_G) (kA : Nat → Nat) (ad : Nat → Nat) (X : Nat → Nat → Int32) (p0 : Int32) : Met l yX5_countOf (Cond.code yX5_countOf cX5_countOf 2 (some .int) :: AW) ({ frames := 4, cells := 0, slots := 0, locals := 89 } : Room) (Pz [.ref (ad 0), .int p0] D (TY kA) (cw kA ad X)) (pQ (some (.int (coF X p0)))) 0 0 (fun _ => False) := by
  refine MetZ (by decide +kernel) (Nat.le_of_ble_eq_true rfl) ?_
  intro p e s m below meth c ls hx hb hrt hts hown hml hlk hnm hP hK hD hS hl
  have hl : lv_has ls 2 [(0, .ref (ad 0)), (1, .int p0)] := hl
  refine lv_iload_n hx hb dX5_countOf_0 rfl (lv_at hl 1 rfl) ?_
  by_cases c_1 : p0 = 0
  · skip
    refine lv_tableIn (off := 47) (tgt := 48) hx hb dX5_countOf_1 (by rw [c_1]; decide) (by rw [c_1]; decide) (by rw [c_1]; decide +kernel) (by decide) ?_
    refine lv_aload_n hx hb dX5_countOf_48 rfl (lv_at hl 0 rfl) ?_
    refine va_get (ci := 5) (v := .ref (sA ad 0)) (C := RX5) (T := TX5) (N := 6) hx hb hts inX5 hown hK hP _ (cw_arm (kA := kA) (ad := ad) (X := X)) rfl 0 (by decide) (hts _ q_176) (fun _ h9 => h9) rfl dX5_countOf_49 ?_
    refine va_get (ci := 4) (v := .int ((X 0) 6)) (C := RX4) (T := TX4) (N := 4) hx hb hts inX4 hown hK hP _ (cw_state (kA := kA) (ad := ad) (X := X) (r := 0) (by omega)) rfl 2 (by decide) (hts _ q_120) (fun _ h9 => h9) rfl dX5_countOf_52 ?_
    exact end_pi hx hb hrt hlk (by rw [coF, if_pos c_1]) dX5_countOf_55
  by_cases c_2 : p0 = 1
  · skip
    refine lv_tableIn (off := 55) (tgt := 56) hx hb dX5_countOf_1 (by rw [c_2]; decide) (by rw [c_2]; decide) (by rw [c_2]; decide +kernel) (by decide) ?_
    refine lv_aload_n hx hb dX5_countOf_56 rfl (lv_at hl 0 rfl) ?_
    refine va_get (ci := 5) (v := .ref (sA ad 0)) (C := RX5) (T := TX5) (N := 6) hx hb hts inX5 hown hK hP _ (cw_arm (kA := kA) (ad := ad) (X := X)) rfl 0 (by decide) (hts _ q_176) (fun _ h9 => h9) rfl dX5_countOf_57 ?_
    refine lv_bipush (v := 6) hx hb dX5_countOf_60 (by decide) ?_
    refine cs_p (runV (As := [.int 6]) (rest := []) ⟨hx, hb, hml, hown, hts⟩ (m_X4_sumOf l D kA ad X 0 6 (by omega)) q_243 q_244 q_245 q_2 q_246 hd_X4_sumOf ⟨rfl, rfl⟩ ⟨Nat.le_of_ble_eq_true rfl, Nat.le_of_ble_eq_true rfl⟩ hK (ws := (cw kA ad X)) hP hD _ (ci := 4) (C := RX4) (T := TX4) (N := 4) rfl (cw_state (kA := kA) (ad := ad) (X := X) (r := 0) (by omega)) rfl hl.1 rfl (Nat.le_of_ble_eq_true rfl) dX5_countOf_62 ⟨Nat.zero_le _, Nat.zero_le _⟩) ?_
    exact end_pi hx hb hrt hlk (by rw [coF, if_neg c_1, if_pos c_2]) dX5_countOf_65
  by_cases c_3 : p0 = 2
  · skip
    refine lv_tableIn (off := 65) (tgt := 66) hx hb dX5_countOf_1 (by rw [c_3]; decide) (by rw [c_3]; decide) (by rw [c_3]; decide +kernel) (by decide) ?_
    refine lv_aload_n hx hb dX5_countOf_66 rfl (lv_at hl 0 rfl) ?_
    refine va_get (ci := 5) (v := .ref (sA ad 0)) (C := RX5) (T := TX5) (N := 6) hx hb hts inX5 hown hK hP _ (cw_arm (kA := kA) (ad := ad) (X := X)) rfl 0 (by decide) (hts _ q_176) (fun _ h9 => h9) rfl dX5_countOf_67 ?_
    refine lv_bipush (v := 8) hx hb dX5_countOf_70 (by decide) ?_
    refine cs_p (runV (As := [.int 8]) (rest := []) ⟨hx, hb, hml, hown, hts⟩ (m_X4_sumOf l D kA ad X 0 8 (by omega)) q_243 q_244 q_245 q_2 q_246 hd_X4_sumOf ⟨rfl, rfl⟩ ⟨Nat.le_of_ble_eq_true rfl, Nat.le_of_ble_eq_true rfl⟩ hK (ws := (cw kA ad X)) hP hD _ (ci := 4) (C := RX4) (T := TX4) (N := 4) rfl (cw_state (kA := kA) (ad := ad) (X := X) (r := 0) (by omega)) rfl hl.1 rfl (Nat.le_of_ble_eq_true rfl) dX5_countOf_72 ⟨Nat.zero_le _, Nat.zero_le _⟩) ?_
    exact end_pi hx hb hrt hlk (by rw [coF, if_neg c_1, if_neg c_2, if_pos c_3]) dX5_countOf_75
  by_cases c_4 : p0 = 3
  · skip
    refine lv_tableIn (off := 75) (tgt := 76) hx hb dX5_countOf_1 (by rw [c_4]; decide) (by rw [c_4]; decide) (by rw [c_4]; decide +kernel) (by decide) ?_
    refine lv_aload_n hx hb dX5_countOf_76 rfl (lv_at hl 0 rfl) ?_
    refine va_get (ci := 5) (v := .ref (sA ad 0)) (C := RX5) (T := TX5) (N := 6) hx hb hts inX5 hown hK hP _ (cw_arm (kA := kA) (ad := ad) (X := X)) rfl 0 (by decide) (hts _ q_176) (fun _ h9 => h9) rfl dX5_countOf_77 ?_
    refine lv_bipush (v := 7) hx hb dX5_countOf_80 (by decide) ?_
    refine cs_p (runV (As := [.int 7]) (rest := []) ⟨hx, hb, hml, hown, hts⟩ (m_X4_sumOf l D kA ad X 0 7 (by omega)) q_243 q_244 q_245 q_2 q_246 hd_X4_sumOf ⟨rfl, rfl⟩ ⟨Nat.le_of_ble_eq_true rfl, Nat.le_of_ble_eq_true rfl⟩ hK (ws := (cw kA ad X)) hP hD _ (ci := 4) (C := RX4) (T := TX4) (N := 4) rfl (cw_state (kA := kA) (ad := ad) (X := X) (r := 0) (by omega)) rfl hl.1 rfl (Nat.le_of_ble_eq_true rfl) dX5_countOf_82 ⟨Nat.zero_le _, Nat.zero_le _⟩) ?_
    exact end_pi hx hb hrt hlk (by rw [coF, if_neg c_1, if_neg c_2, if_neg c_3, if_pos c_4]) dX5_countOf_85
  by_cases c_5 : p0 = 4
  · skip
    refine lv_tableIn (off := 85) (tgt := 86) hx hb dX5_countOf_1 (by rw [c_5]; decide) (by rw [c_5]; decide) (by rw [c_5]; decide +kernel) (by decide) ?_
    refine lv_aload_n hx hb dX5_countOf_86 rfl (lv_at hl 0 rfl) ?_
    refine va_get (ci := 5) (v := .ref (sA ad 0)) (C := RX5) (T := TX5) (N := 6) hx hb hts inX5 hown hK hP _ (cw_arm (kA := kA) (ad := ad) (X := X)) rfl 0 (by decide) (hts _ q_176) (fun _ h9 => h9) rfl dX5_countOf_87 ?_
    refine va_get (ci := 4) (v := .int ((X 0) 7)) (C := RX4) (T := TX4) (N := 4) hx hb hts inX4 hown hK hP _ (cw_state (kA := kA) (ad := ad) (X := X) (r := 0) (by omega)) rfl 3 (by decide) (hts _ q_122) (fun _ h9 => h9) rfl dX5_countOf_90 ?_
    exact end_pi hx hb hrt hlk (by rw [coF, if_neg c_1, if_neg c_2, if_neg c_3, if_neg c_4, if_pos c_5]) dX5_countOf_93
  by_cases c_6 : p0 = 5
  · skip
    refine lv_tableIn (off := 93) (tgt := 94) hx hb dX5_countOf_1 (by rw [c_6]; decide) (by rw [c_6]; decide) (by rw [c_6]; decide +kernel) (by decide) ?_
    refine lv_aload_n hx hb dX5_countOf_94 rfl (lv_at hl 0 rfl) ?_
    refine va_get (ci := 5) (v := .ref (sA ad 0)) (C := RX5) (T := TX5) (N := 6) hx hb hts inX5 hown hK hP _ (cw_arm (kA := kA) (ad := ad) (X := X)) rfl 0 (by decide) (hts _ q_176) (fun _ h9 => h9) rfl dX5_countOf_95 ?_
    refine cs_p (runV (As := []) (rest := []) ⟨hx, hb, hml, hown, hts⟩ (m_X4_wearOfAll l D kA ad X 0 (by omega)) q_273 q_274 q_275 q_2 q_276 hd_X4_wearOfAll ⟨rfl, rfl⟩ ⟨Nat.le_of_ble_eq_true rfl, Nat.le_of_ble_eq_true rfl⟩ hK (ws := (cw kA ad X)) hP hD _ (ci := 4) (C := RX4) (T := TX4) (N := 4) rfl (cw_state (kA := kA) (ad := ad) (X := X) (r := 0) (by omega)) rfl hl.1 rfl (Nat.le_of_ble_eq_true rfl) dX5_countOf_98 ⟨Nat.zero_le _, Nat.zero_le _⟩) ?_
    exact end_pi hx hb hrt hlk (by rw [coF, if_neg c_1, if_neg c_2, if_neg c_3, if_neg c_4, if_neg c_5, if_pos c_6]) dX5_countOf_101
  by_cases c_7 : p0 = 6
  · skip
    refine lv_tableIn (off := 101) (tgt := 102) hx hb dX5_countOf_1 (by rw [c_7]; decide) (by rw [c_7]; decide) (by rw [c_7]; decide +kernel) (by decide) ?_
    refine lv_aload_n hx hb dX5_countOf_102 rfl (lv_at hl 0 rfl) ?_
    refine va_get (ci := 5) (v := .ref (sA ad 0)) (C := RX5) (T := TX5) (N := 6) hx hb hts inX5 hown hK hP _ (cw_arm (kA := kA) (ad := ad) (X := X)) rfl 0 (by decide) (hts _ q_176) (fun _ h9 => h9) rfl dX5_countOf_103 ?_
    refine lv_aload_n hx hb dX5_countOf_106 rfl (lv_at hl 0 rfl) ?_
    refine va_get (ci := 5) (v := .ref (sA ad 0)) (C := RX5) (T := TX5) (N := 6) hx hb hts inX5 hown hK hP _ (cw_arm (kA := kA) (ad := ad) (X := X)) rfl 0 (by decide) (hts _ q_176) (fun _ h9 => h9) rfl dX5_countOf_107 ?_
    refine va_get (ci := 4) (v := .ref (rA ad 0)) (C := RX4) (T := TX4) (N := 4) hx hb hts inX4 hown hK hP _ (cw_state (kA := kA) (ad := ad) (X := X) (r := 0) (by omega)) rfl 0 (by decide) (hts _ q_117) (fun _ h9 => h9) rfl dX5_countOf_110 ?_
    refine va_get (ci := 3) (v := .int ((X 0) 2)) (C := RX3) (T := TX3) (N := 6) hx hb hts inX3 hown hK hP _ (cw_rules (kA := kA) (ad := ad) (X := X) (r := 0) (by omega)) rfl 2 (by decide) (hts _ q_43) (fun _ h9 => h9) rfl dX5_countOf_113 ?_
    refine cs_p (runV (As := [.int ((X 0) 2)]) (rest := []) ⟨hx, hb, hml, hown, hts⟩ (m_X4_teethWornTo l D kA ad X 0 ((X 0) 2) (by omega)) q_281 q_282 q_283 q_2 q_284 hd_X4_teethWornTo ⟨rfl, rfl⟩ ⟨Nat.le_of_ble_eq_true rfl, Nat.le_of_ble_eq_true rfl⟩ hK (ws := (cw kA ad X)) hP hD _ (ci := 4) (C := RX4) (T := TX4) (N := 4) rfl (cw_state (kA := kA) (ad := ad) (X := X) (r := 0) (by omega)) rfl hl.1 rfl (Nat.le_of_ble_eq_true rfl) dX5_countOf_116 ⟨Nat.zero_le _, Nat.zero_le _⟩) ?_
    exact end_pi hx hb hrt hlk (by rw [coF, if_neg c_1, if_neg c_2, if_neg c_3, if_neg c_4, if_neg c_5, if_neg c_6, if_pos c_7]) dX5_countOf_119
  by_cases c_8 : p0 = 7
  · skip
    refine lv_tableIn (off := 119) (tgt := 120) hx hb dX5_countOf_1 (by rw [c_8]; decide) (by rw [c_8]; decide) (by rw [c_8]; decide +kernel) (by decide) ?_
    refine lv_aload_n hx hb dX5_countOf_120 rfl (lv_at hl 0 rfl) ?_
    refine va_get (ci := 5) (v := .ref (sA ad 0)) (C := RX5) (T := TX5) (N := 6) hx hb hts inX5 hown hK hP _ (cw_arm (kA := kA) (ad := ad) (X := X)) rfl 0 (by decide) (hts _ q_176) (fun _ h9 => h9) rfl dX5_countOf_121 ?_
    refine cs_p (runV (As := []) (rest := []) ⟨hx, hb, hml, hown, hts⟩ (m_X4_axesWhereBelieved l D kA ad X 0 (by omega)) q_285 q_286 q_287 q_2 q_288 hd_X4_axesWhereBelieved ⟨rfl, rfl⟩ ⟨Nat.le_of_ble_eq_true rfl, Nat.le_of_ble_eq_true rfl⟩ hK (ws := (cw kA ad X)) hP hD _ (ci := 4) (C := RX4) (T := TX4) (N := 4) rfl (cw_state (kA := kA) (ad := ad) (X := X) (r := 0) (by omega)) rfl hl.1 rfl (Nat.le_of_ble_eq_true rfl) dX5_countOf_124 ⟨Nat.zero_le _, Nat.zero_le _⟩) ?_
    exact end_pi hx hb hrt hlk (by rw [coF, if_neg c_1, if_neg c_2, if_neg c_3, if_neg c_4, if_neg c_5, if_neg c_6, if_neg c_7, if_pos c_8]) dX5_countOf_127
  refine lv_tableOut (tgt := 128) hx hb dX5_countOf_1 (sw_out 0 7 (by intro k h1 h2; rcases (show k = 0 ∨ k = 1 ∨ k = 2 ∨ k = 3 ∨ k = 4 ∨ k = 5 ∨ k = 6 ∨ k = 7 by omega) with rfl | rfl | rfl | rfl | rfl | rfl | rfl | rfl <;> first | exact lv_neT c_1 (by decide) | exact lv_neT c_2 (by decide) | exact lv_neT c_3 (by decide) | exact lv_neT c_4 (by decide) | exact lv_neT c_5 (by decide) | exact lv_neT c_6 (by decide) | exact lv_neT c_7 (by decide) | exact lv_neT c_8 (by decide))) (by decide) ?_
  refine lv_aload_n hx hb dX5_countOf_128 rfl (lv_at hl 0 rfl) ?_
  refine va_get (ci := 5) (v := .ref (ad 1)) (C := RX5) (T := TX5) (N := 6) hx hb hts inX5 hown hK hP _ (cw_arm (kA := kA) (ad := ad) (X := X)) rfl 1 (by decide) (hts _ q_177) (fun _ h9 => h9) rfl dX5_countOf_129 ?_
  refine va_get (ci := 1) (v := .int ((X 8) 1)) (C := RX1) (T := TX1) (N := 3) hx hb hts inX1 hown hK hP _ (cw_hist (kA := kA) (ad := ad) (X := X)) rfl 2 (by decide) (hts _ q_144) (fun _ h9 => h9) rfl dX5_countOf_132 ?_
  exact end_pi hx hb hrt hlk (by rw [coF, if_neg c_1, if_neg c_2, if_neg c_3, if_neg c_4, if_neg c_5, if_neg c_6, if_neg c_7, if_neg c_8]) dX5_countOf_135

theorem hd_X5_codeAt : yX5_codeAt.cls ≠ "java/lang/invoke/MethodHandle" ∧ yX5_codeAt.cls ≠ "java/lang/invoke/VarHandle" ∧ (parseMethodDescriptor yX5_codeAt.desc).map (fun d => d.parameters.length) = some 1 := by decide +kernel
set_option maxRecDepth 100000 in
set_option maxHeartbeats 4000000 in
theorem m_X5_codeAt (l : Launch) (D : va_G) (kA : Nat → Nat) (ad : Nat → Nat) (X : Nat → Nat → Int32) (p0 : Int32) : Met l yX5_codeAt (Cond.code yX5_codeAt cX5_codeAt 2 (some .int) :: AW) ({ frames := 0, cells := 0, slots := 0, locals := 0 } : Room) (Pz [.ref (ad 0), .int p0] D (TY kA) (cw kA ad X)) (pQ (some (.int (cdF (X 9) p0)))) 0 0 (fun _ => False) := by
  refine MetZ (by decide +kernel) (Nat.le_of_ble_eq_true rfl) ?_
  intro p e s m below meth c ls hx hb hrt hts hown hml hlk hnm hP hK hD hS hl
  have hl : lv_has ls 2 [(0, .ref (ad 0)), (1, .int p0)] := hl
  refine lv_iload_n hx hb dX5_codeAt_0 rfl (lv_at hl 1 rfl) ?_
  refine lv_if_lt (tgt := 22) hx hb dX5_codeAt_1 (by decide) (fun c_1 => ?_) (fun c_1 => ?_)
  · skip
    refine lv_iconst (v := 0) hx hb dX5_codeAt_22 (by decide) ?_
    exact end_pi hx hb hrt hlk (by first | rfl | (rw [cdF, if_pos c_1]; done) | (simp only [cdF, c_1, ↓reduceIte, bI]; done) | (simp only [cdF, c_1, ↓reduceIte, bI]; rfl) | (simp [cdF, c_1, bI]; done)) dX5_codeAt_23
  · skip
    refine lv_iload_n hx hb dX5_codeAt_4 rfl (lv_at hl 1 rfl) ?_
    refine lv_aload_n hx hb dX5_codeAt_5 rfl (lv_at hl 0 rfl) ?_
    refine va_get (ci := 5) (v := .ref (ad 4)) (C := RX5) (T := TX5) (N := 6) hx hb hts inX5 hown hK hP _ (cw_arm (kA := kA) (ad := ad) (X := X)) rfl 4 (by decide) (hts _ q_180) (fun _ h9 => h9) rfl dX5_codeAt_6 ?_
    refine va_alen (v := 60) hx hb hK hP _ 0 (cw_buf (kA := kA) (ad := ad) (X := X)) rfl rfl dX5_codeAt_9 ?_
    refine lv_icmp_ge (tgt := 22) hx hb dX5_codeAt_10 (by decide) (fun c_2 => ?_) (fun c_2 => ?_)
    · skip
      replace c_2 := ge_n c_2
      refine lv_iconst (v := 0) hx hb dX5_codeAt_22 (by decide) ?_
      exact end_pi hx hb hrt hlk (by first | rfl | (rw [cdF, if_neg c_1, if_neg c_2]; done) | (simp only [cdF, c_1, c_2, ↓reduceIte, bI]; done) | (simp only [cdF, c_1, c_2, ↓reduceIte, bI]; rfl) | (simp [cdF, c_1, c_2, bI]; done)) dX5_codeAt_23
    · skip
      replace c_2 := nge_l c_2
      refine lv_aload_n hx hb dX5_codeAt_13 rfl (lv_at hl 0 rfl) ?_
      refine va_get (ci := 5) (v := .ref (ad 4)) (C := RX5) (T := TX5) (N := 6) hx hb hts inX5 hown hK hP _ (cw_arm (kA := kA) (ad := ad) (X := X)) rfl 4 (by decide) (hts _ q_180) (fun _ h9 => h9) rfl dX5_codeAt_14 ?_
      refine lv_iload_n hx hb dX5_codeAt_17 rfl (lv_at hl 1 rfl) ?_
      refine va_iald (f := X 9) hx hb hK hP _ 0 (cw_buf (kA := kA) (ad := ad) (X := X)) rfl (in_of c_1 c_2 rfl) dX5_codeAt_18 ?_
      refine lv_goto (tgt := 23) hx hb dX5_codeAt_19 (by decide) ?_
      exact end_pi hx hb hrt hlk (by first | rfl | (rw [cdF, if_neg c_1, if_pos c_2]; done) | (simp only [cdF, c_1, c_2, ↓reduceIte, bI]; done) | (simp only [cdF, c_1, c_2, ↓reduceIte, bI]; rfl) | (simp [cdF, c_1, c_2, bI]; done)) dX5_codeAt_23

theorem hd_X5_mixed : yX5_mixed.cls ≠ "java/lang/invoke/MethodHandle" ∧ yX5_mixed.cls ≠ "java/lang/invoke/VarHandle" ∧ (parseMethodDescriptor yX5_mixed.desc).map (fun d => d.parameters.length) = some 2 := by decide +kernel
set_option maxRecDepth 100000 in
set_option maxHeartbeats 4000000 in
theorem m_X5_mixed (l : Launch) (D : va_G) (kA : Nat → Nat) (ad : Nat → Nat) (X : Nat → Nat → Int32) (q0 : Int64) (q1 : Int64) : Met l yX5_mixed (Cond.code yX5_mixed cX5_mixed 4 (some .long) :: AW) ({ frames := 0, cells := 0, slots := 0, locals := 0 } : Room) (Pz [.long q0, .long q1] D (TY kA) (cw kA ad X)) (pQ (some (.long (mx q0 q1)))) 0 0 (fun _ => False) := by
  refine MetZ (by decide +kernel) (Nat.le_of_ble_eq_true rfl) ?_
  intro p e s m below meth c ls hx hb hrt hts hown hml hlk hnm hP hK hD hS hl
  have hl : lv_has ls 4 [(0, .long q0), (2, .long q1)] := hl
  refine lv_ldc2 (v := 31) hx hb hown (hts _ q_292) dX5_mixed_0 ?_
  refine lv_lload_n hx hb dX5_mixed_3 rfl (lv_at hl 0 rfl) ?_
  refine lv_lmul hx hb dX5_mixed_4 ?_
  refine lv_lload_n hx hb dX5_mixed_5 rfl (lv_at hl 1 rfl) ?_
  refine lv_ladd hx hb dX5_mixed_6 ?_
  exact end_pl hx hb hrt hlk (by first | rfl | (rw [Nat.zero_le]; done) | (simp only [↓reduceIte, bI]; done) | (simp only [↓reduceIte, bI]; rfl) | (simp [bI]; done)) dX5_mixed_7
