/-! what is thrown, in the class's words -/
def axpT (u p : Int32) : Int32 := if wiF p 33 126 = true then (if u < 0 then 2 else if u < 60 then 0 else 2) else 1
def unT (k : Int32) : Int32 := if k = 0 then 1 else 0
theorem hd_X5_gearOf : yX5_gearOf.cls ≠ "java/lang/invoke/MethodHandle" ∧ yX5_gearOf.cls ≠ "java/lang/invoke/VarHandle" ∧ (parseMethodDescriptor yX5_gearOf.desc).map (fun d => d.parameters.length) = some 1 := by decide +kernel
set_option maxRecDepth 100000 in
set_option maxHeartbeats 4000000 in
theorem m_X5_gearOf (l : Launch) (D : va_G) (kA : Nat → Nat) (ad : Nat → Nat) (X : Nat → Nat → Int32) (a : Nat) (p0 : Int32) (hp : p0 = nI a) (ha : a < 4) : Met l yX5_gearOf (Cond.code yX5_gearOf cX5_gearOf 3 (some (.object "ArmTolls$Gear")) :: AW) ({ frames := 1, cells := 0, slots := 0, locals := 21 } : Room) (Pz [.ref (ad 0), .int p0] D (TY kA) (cw kA ad X)) (pQ (some (.ref (gA ad 0 a)))) 0 0 (fun _ => False) := by
  refine MetZ (by decide +kernel) (Nat.le_of_ble_eq_true rfl) ?_
  intro p e s m below meth c ls hx hb hrt hts hown hml hlk hnm hP hK hD hS hl
  have hl : lv_has ls 3 [(0, .ref (ad 0)), (1, .int p0)] := hl
  refine lv_aload_n hx hb dX5_gearOf_0 rfl (lv_at hl 0 rfl) ?_
  refine va_get (ci := 5) (v := .ref (sA ad 0)) (C := RX5) (T := TX5) (N := 6) hx hb hts inX5 hown hK hP _ (cw_arm (kA := kA) (ad := ad) (X := X)) rfl 0 (by decide) (hts _ q_170) (fun _ h9 => h9) rfl dX5_gearOf_1 ?_
  refine lv_iload_n hx hb dX5_gearOf_4 rfl (lv_at hl 1 rfl) ?_
  refine cs_p (runV (As := [.int p0]) (rest := []) ⟨hx, hb, hml, hown, hts⟩ (m_X4_gearAt l D kA ad X 0 a p0 (by omega) (hp) (ha)) q_225 q_226 q_227 q_2 q_228 hd_X4_gearAt ⟨rfl, rfl⟩ ⟨Nat.le_of_ble_eq_true rfl, Nat.le_of_ble_eq_true rfl⟩ hK (ws := (cw kA ad X)) hP hD _ (ci := 4) (C := RX4) (T := TX4) (N := 4) rfl (cw_state (kA := kA) (ad := ad) (X := X) (r := 0) (by omega)) rfl hl.1 rfl (Nat.le_of_ble_eq_true rfl) dX5_gearOf_5 ⟨Nat.zero_le _, Nat.zero_le _⟩) ?_
  refine lv_astore_n (lv' := [(2, .ref (gA ad 0 a)), (0, .ref (ad 0)), (1, .int p0)]) hx hb dX5_gearOf_8 rfl hl (by decide) rfl (fun ls hl => ?_)
  refine lv_aload_n hx hb dX5_gearOf_9 rfl (lv_at hl 0 rfl) ?_
  refine lv_ifnonnull (tgt := 23) hx hb dX5_gearOf_10 (by decide) ?_
  refine lv_aload_n hx hb dX5_gearOf_23 rfl (lv_at hl 0 rfl) ?_
  exact end_pa hx hb hrt hlk (Or.inr ⟨_, rfl⟩) (by first | rfl | (rw [Nat.zero_le]; done) | (simp only [↓reduceIte, bI]; done) | (simp only [↓reduceIte, bI]; rfl) | (simp [bI]; done)) dX5_gearOf_24

theorem hd_X5_checkPlace : yX5_checkPlace.cls ≠ "java/lang/invoke/MethodHandle" ∧ yX5_checkPlace.cls ≠ "java/lang/invoke/VarHandle" ∧ (parseMethodDescriptor yX5_checkPlace.desc).map (fun d => d.parameters.length) = some 1 := by decide +kernel
set_option maxRecDepth 100000 in
set_option maxHeartbeats 4000000 in
theorem m_X5_checkPlace (l : Launch) (D : va_G) (kA : Nat → Nat) (ad : Nat → Nat) (X : Nat → Nat → Int32) (p0 : Int32) (hc0 : ¬ p0 < 0) (hc1 : p0 < 24) : Met l yX5_checkPlace (Cond.code yX5_checkPlace cX5_checkPlace 1 none :: AW) ({ frames := 0, cells := 0, slots := 0, locals := 0 } : Room) (Pz [.int p0] D (TY kA) (cw kA ad X)) (pQ none) 0 0 (fun _ => False) := by
  refine MetZ (by decide +kernel) (Nat.le_of_ble_eq_true rfl) ?_
  intro p e s m below meth c ls hx hb hrt hts hown hml hlk hnm hP hK hD hS hl
  have hl : lv_has ls 1 [(0, .int p0)] := hl
  refine lv_iload_n hx hb dX5_checkPlace_0 rfl (lv_at hl 0 rfl) ?_
  refine lv_if_lt (tgt := 10) hx hb dX5_checkPlace_1 (by decide) (fun c_1 => ?_) (fun c_1 => ?_)
  · exact absurd c_1 (hc0)
  · skip
    refine lv_iload_n hx hb dX5_checkPlace_4 rfl (lv_at hl 0 rfl) ?_
    refine lv_bipush (v := 24) hx hb dX5_checkPlace_5 (by decide) ?_
    refine lv_icmp_lt (tgt := 21) hx hb dX5_checkPlace_7 (by decide) (fun c_2 => ?_) (fun c_2 => ?_)
    · skip
      exact end_pv hx hb hrt hlk dX5_checkPlace_21
    · exact absurd c_2 (fun h => h hc1)

theorem hd_X5_checkTooth : yX5_checkTooth.cls ≠ "java/lang/invoke/MethodHandle" ∧ yX5_checkTooth.cls ≠ "java/lang/invoke/VarHandle" ∧ (parseMethodDescriptor yX5_checkTooth.desc).map (fun d => d.parameters.length) = some 1 := by decide +kernel
set_option maxRecDepth 100000 in
set_option maxHeartbeats 4000000 in
theorem m_X5_checkTooth (l : Launch) (D : va_G) (kA : Nat → Nat) (ad : Nat → Nat) (X : Nat → Nat → Int32) (p0 : Int32) (hc0 : ¬ p0 < 0) (hc1 : p0 < 24) : Met l yX5_checkTooth (Cond.code yX5_checkTooth cX5_checkTooth 1 none :: AW) ({ frames := 0, cells := 0, slots := 0, locals := 0 } : Room) (Pz [.int p0] D (TY kA) (cw kA ad X)) (pQ none) 0 0 (fun _ => False) := by
  refine MetZ (by decide +kernel) (Nat.le_of_ble_eq_true rfl) ?_
  intro p e s m below meth c ls hx hb hrt hts hown hml hlk hnm hP hK hD hS hl
  have hl : lv_has ls 1 [(0, .int p0)] := hl
  refine lv_iload_n hx hb dX5_checkTooth_0 rfl (lv_at hl 0 rfl) ?_
  refine lv_if_lt (tgt := 10) hx hb dX5_checkTooth_1 (by decide) (fun c_1 => ?_) (fun c_1 => ?_)
  · exact absurd c_1 (hc0)
  · skip
    refine lv_iload_n hx hb dX5_checkTooth_4 rfl (lv_at hl 0 rfl) ?_
    refine lv_bipush (v := 24) hx hb dX5_checkTooth_5 (by decide) ?_
    refine lv_icmp_lt (tgt := 20) hx hb dX5_checkTooth_7 (by decide) (fun c_2 => ?_) (fun c_2 => ?_)
    · skip
      exact end_pv hx hb hrt hlk dX5_checkTooth_20
    · exact absurd c_2 (fun h => h hc1)

theorem hd_X5_checkSetting : yX5_checkSetting.cls ≠ "java/lang/invoke/MethodHandle" ∧ yX5_checkSetting.cls ≠ "java/lang/invoke/VarHandle" ∧ (parseMethodDescriptor yX5_checkSetting.desc).map (fun d => d.parameters.length) = some 1 := by decide +kernel
set_option maxRecDepth 100000 in
set_option maxHeartbeats 4000000 in
theorem m_X5_checkSetting (l : Launch) (D : va_G) (kA : Nat → Nat) (ad : Nat → Nat) (X : Nat → Nat → Int32) (p0 : Int32) (hc0 : ¬ p0 < 0) (hc1 : p0 < 6) : Met l yX5_checkSetting (Cond.code yX5_checkSetting cX5_checkSetting 1 none :: AW) ({ frames := 0, cells := 0, slots := 0, locals := 0 } : Room) (Pz [.int p0] D (TY kA) (cw kA ad X)) (pQ none) 0 0 (fun _ => False) := by
  refine MetZ (by decide +kernel) (Nat.le_of_ble_eq_true rfl) ?_
  intro p e s m below meth c ls hx hb hrt hts hown hml hlk hnm hP hK hD hS hl
  have hl : lv_has ls 1 [(0, .int p0)] := hl
  refine lv_iload_n hx hb dX5_checkSetting_0 rfl (lv_at hl 0 rfl) ?_
  refine lv_if_lt (tgt := 10) hx hb dX5_checkSetting_1 (by decide) (fun c_1 => ?_) (fun c_1 => ?_)
  · exact absurd c_1 (hc0)
  · skip
    refine lv_iload_n hx hb dX5_checkSetting_4 rfl (lv_at hl 0 rfl) ?_
    refine lv_bipush (v := 6) hx hb dX5_checkSetting_5 (by decide) ?_
    refine lv_icmp_lt (tgt := 20) hx hb dX5_checkSetting_7 (by decide) (fun c_2 => ?_) (fun c_2 => ?_)
    · skip
      exact end_pv hx hb hrt hlk dX5_checkSetting_20
    · exact absurd c_2 (fun h => h hc1)

