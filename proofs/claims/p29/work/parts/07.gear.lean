theorem hd_X0_nextPlace : yX0_nextPlace.cls ≠ "java/lang/invoke/MethodHandle" ∧ yX0_nextPlace.cls ≠ "java/lang/invoke/VarHandle" ∧ (parseMethodDescriptor yX0_nextPlace.desc).map (fun d => d.parameters.length) = some 2 := by decide +kernel
set_option maxRecDepth 100000 in
set_option maxHeartbeats 4000000 in
theorem m_X0_nextPlace (l : Launch) (D : va_G) (kA : Nat → Nat) (p0 : Int32) (p1 : Int32) : Met l yX0_nextPlace (Cond.code yX0_nextPlace cX0_nextPlace 3 (some .int) :: AW) ({ frames := 0, cells := 0, slots := 0, locals := 0 } : Room) (Pz [.int p0, .int p1] D (TY kA) []) (pQ (some (.int (nW p0 p1)))) 0 0 (fun _ => False) := by
  refine MetZ (by decide +kernel) (Nat.le_of_ble_eq_true rfl) ?_
  intro p e s m below meth c ls hx hb hrt hts hown hml hlk hnm hP hK hD hS hl
  have hl : lv_has ls 3 [(0, .int p0), (1, .int p1)] := hl
  refine lv_iload_n hx hb dX0_nextPlace_0 rfl (lv_at hl 0 rfl) ?_
  refine lv_iload_n hx hb dX0_nextPlace_1 rfl (lv_at hl 1 rfl) ?_
  refine lv_iadd hx hb dX0_nextPlace_2 ?_
  refine lv_istore_n (lv' := [(2, .int (p0 + p1)), (0, .int p0), (1, .int p1)]) hx hb dX0_nextPlace_3 rfl hl (by decide) rfl (fun ls hl => ?_)
  refine lv_iload_n hx hb dX0_nextPlace_4 rfl (lv_at hl 0 rfl) ?_
  refine lv_if_ge (tgt := 11) hx hb dX0_nextPlace_5 (by decide) (fun c_1 => ?_) (fun c_1 => ?_)
  · skip
    replace c_1 := ge_n c_1
    refine lv_iload_n hx hb dX0_nextPlace_11 rfl (lv_at hl 0 rfl) ?_
    refine lv_bipush (v := 24) hx hb dX0_nextPlace_12 (by decide) ?_
    refine lv_icmp_ge (tgt := 21) hx hb dX0_nextPlace_14 (by decide) (fun c_2 => ?_) (fun c_2 => ?_)
    · skip
      replace c_2 := ge_n c_2
      refine lv_iconst (v := 0) hx hb dX0_nextPlace_21 (by decide) ?_
      exact end_pi hx hb hrt hlk (by first | rfl | (simp only [nW, c_1, c_2, ↓reduceIte, bI]; done) | (simp only [nW, c_1, c_2, ↓reduceIte, bI]; rfl) | (simp [nW, c_1, c_2, bI]; done)) dX0_nextPlace_22
    · skip
      replace c_2 := nge_l c_2
      refine lv_iload_n hx hb dX0_nextPlace_17 rfl (lv_at hl 0 rfl) ?_
      refine lv_goto (tgt := 22) hx hb dX0_nextPlace_18 (by decide) ?_
      exact end_pi hx hb hrt hlk (by first | rfl | (simp only [nW, c_1, c_2, ↓reduceIte, bI]; done) | (simp only [nW, c_1, c_2, ↓reduceIte, bI]; rfl) | (simp [nW, c_1, c_2, bI]; done)) dX0_nextPlace_22
  · skip
    replace c_1 := nge_l c_1
    refine lv_bipush (v := 23) hx hb dX0_nextPlace_8 (by decide) ?_
    exact end_pi hx hb hrt hlk (by first | rfl | (simp only [nW, c_1, ↓reduceIte, bI]; done) | (simp only [nW, c_1, ↓reduceIte, bI]; rfl) | (simp [nW, c_1, bI]; done)) dX0_nextPlace_10

theorem hd_X0_toothBy : yX0_toothBy.cls ≠ "java/lang/invoke/MethodHandle" ∧ yX0_toothBy.cls ≠ "java/lang/invoke/VarHandle" ∧ (parseMethodDescriptor yX0_toothBy.desc).map (fun d => d.parameters.length) = some 2 := by decide +kernel
set_option maxRecDepth 100000 in
set_option maxHeartbeats 4000000 in
theorem m_X0_toothBy (l : Launch) (D : va_G) (kA : Nat → Nat) (p0 : Int32) (p1 : Int32) : Met l yX0_toothBy (Cond.code yX0_toothBy cX0_toothBy 2 (some .int) :: AW) ({ frames := 0, cells := 0, slots := 0, locals := 0 } : Room) (Pz [.int p0, .int p1] D (TY kA) []) (pQ (some (.int (tW p0 p1)))) 0 0 (fun _ => False) := by
  refine MetZ (by decide +kernel) (Nat.le_of_ble_eq_true rfl) ?_
  intro p e s m below meth c ls hx hb hrt hts hown hml hlk hnm hP hK hD hS hl
  have hl : lv_has ls 2 [(0, .int p0), (1, .int p1)] := hl
  refine lv_iload_n hx hb dX0_toothBy_0 rfl (lv_at hl 1 rfl) ?_
  refine lv_iconst (v := 1) hx hb dX0_toothBy_1 (by decide) ?_
  refine lv_icmp_ne (tgt := 7) hx hb dX0_toothBy_2 (by decide) (fun c_1 => ?_) (fun c_1 => ?_)
  · skip
    refine lv_iload_n hx hb dX0_toothBy_7 rfl (lv_at hl 0 rfl) ?_
    refine lv_if_le (tgt := 17) hx hb dX0_toothBy_8 (by decide) (fun c_2 => ?_) (fun c_2 => ?_)
    · skip
      replace c_2 := ge_n c_2
      refine lv_bipush (v := 23) hx hb dX0_toothBy_17 (by decide) ?_
      exact end_pi hx hb hrt hlk (by first | rfl | (simp only [tW, c_1, c_2, ↓reduceIte, bI]; done) | (simp only [tW, c_1, c_2, ↓reduceIte, bI]; rfl) | (simp [tW, c_1, c_2, bI]; done)) dX0_toothBy_19
    · skip
      replace c_2 := nge_l c_2
      refine lv_iload_n hx hb dX0_toothBy_11 rfl (lv_at hl 0 rfl) ?_
      refine lv_iconst (v := 1) hx hb dX0_toothBy_12 (by decide) ?_
      refine lv_isub hx hb dX0_toothBy_13 ?_
      refine lv_goto (tgt := 19) hx hb dX0_toothBy_14 (by decide) ?_
      exact end_pi hx hb hrt hlk (by first | rfl | (simp only [tW, c_1, c_2, ↓reduceIte, bI]; done) | (simp only [tW, c_1, c_2, ↓reduceIte, bI]; rfl) | (simp [tW, c_1, c_2, bI]; done)) dX0_toothBy_19
  · skip
    refine lv_iload_n hx hb dX0_toothBy_5 rfl (lv_at hl 0 rfl) ?_
    exact end_pi hx hb hrt hlk (by first | rfl | (simp only [tW, c_1, ↓reduceIte, bI]; done) | (simp only [tW, c_1, ↓reduceIte, bI]; rfl) | (simp [tW, c_1, bI]; done)) dX0_toothBy_6

theorem hd_J9_floorMod_7cf53 : yJ9_floorMod_7cf53.cls ≠ "java/lang/invoke/MethodHandle" ∧ yJ9_floorMod_7cf53.cls ≠ "java/lang/invoke/VarHandle" ∧ (parseMethodDescriptor yJ9_floorMod_7cf53.desc).map (fun d => d.parameters.length) = some 2 := by decide +kernel
set_option maxRecDepth 100000 in
set_option maxHeartbeats 4000000 in
theorem m_J9_floorMod_7cf53 (l : Launch) (D : va_G) (kA : Nat → Nat) (p0 : Int32) (p1 : Int32) (hne : ¬ p1 = 0) : Met l yJ9_floorMod_7cf53 (Cond.code yJ9_floorMod_7cf53 cJ9_floorMod_7cf53 3 (some .int) :: AW) ({ frames := 0, cells := 0, slots := 0, locals := 0 } : Room) (Pz [.int p0, .int p1] D (TY kA) []) (pQ (some (.int (fM p0 p1)))) 0 0 (fun _ => False) := by
  refine MetZ (by decide +kernel) (Nat.le_of_ble_eq_true rfl) ?_
  intro p e s m below meth c ls hx hb hrt hts hown hml hlk hnm hP hK hD hS hl
  have hl : lv_has ls 3 [(0, .int p0), (1, .int p1)] := hl
  refine lv_iload_n hx hb dJ9_floorMod_7cf53_0 rfl (lv_at hl 0 rfl) ?_
  refine lv_iload_n hx hb dJ9_floorMod_7cf53_1 rfl (lv_at hl 1 rfl) ?_
  refine lv_irem hx hb dJ9_floorMod_7cf53_2 (hne) ?_
  refine lv_istore_n (lv' := [(2, .int (p0 - p0 / p1 * p1)), (0, .int p0), (1, .int p1)]) hx hb dJ9_floorMod_7cf53_3 rfl hl (by decide) rfl (fun ls hl => ?_)
  refine lv_iload_n hx hb dJ9_floorMod_7cf53_4 rfl (lv_at hl 1 rfl) ?_
  refine lv_iload_n hx hb dJ9_floorMod_7cf53_5 rfl (lv_at hl 2 rfl) ?_
  refine lv_ixor hx hb dJ9_floorMod_7cf53_6 ?_
  refine lv_if_ge (tgt := 18) hx hb dJ9_floorMod_7cf53_7 (by decide) (fun c_1 => ?_) (fun c_1 => ?_)
  · skip
    replace c_1 := ge_n c_1
    refine lv_iload_n hx hb dJ9_floorMod_7cf53_18 rfl (lv_at hl 0 rfl) ?_
    exact end_pi hx hb hrt hlk (by first | rfl | (simp only [fM, c_1, ↓reduceIte, bI]; done) | (simp only [fM, c_1, ↓reduceIte, bI]; rfl) | (simp [fM, c_1, bI]; done)) dJ9_floorMod_7cf53_19
  · skip
    replace c_1 := nge_l c_1
    refine lv_iload_n hx hb dJ9_floorMod_7cf53_10 rfl (lv_at hl 0 rfl) ?_
    refine lv_if_eq (tgt := 18) hx hb dJ9_floorMod_7cf53_11 (by decide) (fun c_2 => ?_) (fun c_2 => ?_)
    · skip
      refine lv_iload_n hx hb dJ9_floorMod_7cf53_18 rfl (lv_at hl 0 rfl) ?_
      exact end_pi hx hb hrt hlk (by first | rfl | (simp only [fM, c_1, c_2, ↓reduceIte, bI]; done) | (simp only [fM, c_1, c_2, ↓reduceIte, bI]; rfl) | (simp [fM, c_1, c_2, bI]; done)) dJ9_floorMod_7cf53_19
    · skip
      refine lv_iload_n hx hb dJ9_floorMod_7cf53_14 rfl (lv_at hl 0 rfl) ?_
      refine lv_iload_n hx hb dJ9_floorMod_7cf53_15 rfl (lv_at hl 2 rfl) ?_
      refine lv_iadd hx hb dJ9_floorMod_7cf53_16 ?_
      exact end_pi hx hb hrt hlk (by first | rfl | (simp only [fM, c_1, c_2, ↓reduceIte, bI]; done) | (simp only [fM, c_1, c_2, ↓reduceIte, bI]; rfl) | (simp [fM, c_1, c_2, bI]; done)) dJ9_floorMod_7cf53_17

theorem hd_X0_distance : yX0_distance.cls ≠ "java/lang/invoke/MethodHandle" ∧ yX0_distance.cls ≠ "java/lang/invoke/VarHandle" ∧ (parseMethodDescriptor yX0_distance.desc).map (fun d => d.parameters.length) = some 2 := by decide +kernel
set_option maxRecDepth 100000 in
set_option maxHeartbeats 4000000 in
theorem m_X0_distance (l : Launch) (D : va_G) (kA : Nat → Nat) (p0 : Int32) (p1 : Int32) : Met l yX0_distance (Cond.code yX0_distance cX0_distance 3 (some .int) :: AW) ({ frames := 1, cells := 0, slots := 0, locals := 22 } : Room) (Pz [.int p0, .int p1] D (TY kA) []) (pQ (some (.int (dist p0 p1)))) 0 0 (fun _ => False) := by
  refine MetZ (by decide +kernel) (Nat.le_of_ble_eq_true rfl) ?_
  intro p e s m below meth c ls hx hb hrt hts hown hml hlk hnm hP hK hD hS hl
  have hl : lv_has ls 3 [(0, .int p0), (1, .int p1)] := hl
  refine lv_iload_n hx hb dX0_distance_0 rfl (lv_at hl 1 rfl) ?_
  refine lv_iload_n hx hb dX0_distance_1 rfl (lv_at hl 0 rfl) ?_
  refine lv_isub hx hb dX0_distance_2 ?_
  refine lv_bipush (v := 24) hx hb dX0_distance_3 (by decide) ?_
  refine cs_p (runS (As := [.int (p1 - p0), .int 24]) (rest := []) ⟨hx, hb, hml, hown, hts⟩ (m_J9_floorMod_7cf53 l D kA (p1 - p0) 24 (by decide)) q_537 q_538 q_12 q_539 hd_J9_floorMod_7cf53 ⟨rfl, rfl⟩ ⟨Nat.le_of_ble_eq_true rfl, Nat.le_of_ble_eq_true rfl⟩ hK (ws := []) (hP.sub [] rfl) (hD.sub [] (by decide) rfl) rfl hl.1 rfl (Nat.le_of_ble_eq_true rfl) dX0_distance_5 ⟨Nat.zero_le _, Nat.zero_le _⟩) ?_
  refine lv_istore_n (lv' := [(2, .int (fM (p1 - p0) 24)), (0, .int p0), (1, .int p1)]) hx hb dX0_distance_8 rfl hl (by decide) rfl (fun ls hl => ?_)
  refine lv_iload_n hx hb dX0_distance_9 rfl (lv_at hl 0 rfl) ?_
  refine lv_bipush (v := 24) hx hb dX0_distance_10 (by decide) ?_
  refine lv_iload_n hx hb dX0_distance_12 rfl (lv_at hl 0 rfl) ?_
  refine lv_isub hx hb dX0_distance_13 ?_
  refine va_mmin hx hb (hml.trans hl.1.symm) hown (hts _ q_375) (hts _ q_356) (hts _ q_12) (hts _ q_357) (Nat.le_of_ble_eq_true rfl) (Nat.le_of_ble_eq_true rfl) (Nat.zero_le _) (Nat.zero_le _) dX0_distance_14 ?_
  exact end_pi hx hb hrt hlk (by first | rfl | (simp only [dist, ↓reduceIte, bI]; done) | (simp only [dist, ↓reduceIte, bI]; rfl) | (simp [dist, bI]; done)) dX0_distance_17

theorem hd_X0_wearOf : yX0_wearOf.cls ≠ "java/lang/invoke/MethodHandle" ∧ yX0_wearOf.cls ≠ "java/lang/invoke/VarHandle" ∧ (parseMethodDescriptor yX0_wearOf.desc).map (fun d => d.parameters.length) = some 1 := by decide +kernel
set_option maxRecDepth 100000 in
set_option maxHeartbeats 4000000 in
theorem m_X0_wearOf (l : Launch) (D : va_G) (kA : Nat → Nat) (h0 : Nat) (hw : Nat) (f0 : Int32) (f1 : Int32) (f2 : Int32) (f3 : Int32) (f4 : Int32) (f5 : Int32) (f6 : Int32) (f7 : Int32) (f8 : Int32) (f9 : Int32) (f10 : Int32) (fw : Nat → Int32) (p0 : Int32) : Met l yX0_wearOf (Cond.code yX0_wearOf cX0_wearOf 2 (some .int) :: AW) ({ frames := 0, cells := 0, slots := 0, locals := 0 } : Room) (Pz [.ref h0, .int p0] D (TY kA) [(h0, .inr (0, [.ref hw, .int f0, .int f1, .int f2, .int f3, .int f4, .int f5, .int f6, .int f7, .int f8, .int f9, .int f10])), (hw, .inl (kA 0, 24, .inl fw))]) (pQ (some (.int (wrF fw p0)))) 0 0 (fun _ => False) := by
  refine MetZ (by decide +kernel) (Nat.le_of_ble_eq_true rfl) ?_
  intro p e s m below meth c ls hx hb hrt hts hown hml hlk hnm hP hK hD hS hl
  have hl : lv_has ls 2 [(0, .ref h0), (1, .int p0)] := hl
  refine lv_iload_n hx hb dX0_wearOf_0 rfl (lv_at hl 1 rfl) ?_
  refine lv_if_lt (tgt := 22) hx hb dX0_wearOf_1 (by decide) (fun c_1 => ?_) (fun c_1 => ?_)
  · skip
    refine lv_iconst (v := 0) hx hb dX0_wearOf_22 (by decide) ?_
    exact end_pi hx hb hrt hlk (by first | rfl | (simp only [wrF, c_1, ↓reduceIte, bI]; done) | (simp only [wrF, c_1, ↓reduceIte, bI]; rfl) | (simp [wrF, c_1, bI]; done)) dX0_wearOf_23
  · skip
    refine lv_iload_n hx hb dX0_wearOf_4 rfl (lv_at hl 1 rfl) ?_
    refine lv_aload_n hx hb dX0_wearOf_5 rfl (lv_at hl 0 rfl) ?_
    refine va_get (ci := 0) (v := .ref hw) (C := RX0) (T := TX0) (N := 12) hx hb hts inX0 hown hK hP 0 rfl rfl 0 (by decide) (hts _ q_68) (fun _ h9 => h9) rfl dX0_wearOf_6 ?_
    refine va_alen (v := 24) hx hb hK hP 1 0 rfl rfl rfl dX0_wearOf_9 ?_
    refine lv_icmp_ge (tgt := 22) hx hb dX0_wearOf_10 (by decide) (fun c_2 => ?_) (fun c_2 => ?_)
    · skip
      replace c_2 := ge_n c_2
      refine lv_iconst (v := 0) hx hb dX0_wearOf_22 (by decide) ?_
      exact end_pi hx hb hrt hlk (by first | rfl | (simp only [wrF, c_1, c_2, ↓reduceIte, bI]; done) | (simp only [wrF, c_1, c_2, ↓reduceIte, bI]; rfl) | (simp [wrF, c_1, c_2, bI]; done)) dX0_wearOf_23
    · skip
      replace c_2 := nge_l c_2
      refine lv_aload_n hx hb dX0_wearOf_13 rfl (lv_at hl 0 rfl) ?_
      refine va_get (ci := 0) (v := .ref hw) (C := RX0) (T := TX0) (N := 12) hx hb hts inX0 hown hK hP 0 rfl rfl 0 (by decide) (hts _ q_68) (fun _ h9 => h9) rfl dX0_wearOf_14 ?_
      refine lv_iload_n hx hb dX0_wearOf_17 rfl (lv_at hl 1 rfl) ?_
      refine va_iald (f := fw) hx hb hK hP 1 0 rfl rfl (in_of c_1 c_2 rfl) dX0_wearOf_18 ?_
      refine lv_goto (tgt := 23) hx hb dX0_wearOf_19 (by decide) ?_
      exact end_pi hx hb hrt hlk (by first | rfl | (simp only [wrF, c_1, c_2, ↓reduceIte, bI]; done) | (simp only [wrF, c_1, c_2, ↓reduceIte, bI]; rfl) | (simp [wrF, c_1, c_2, bI]; done)) dX0_wearOf_23

theorem hd_X0_setWear : yX0_setWear.cls ≠ "java/lang/invoke/MethodHandle" ∧ yX0_setWear.cls ≠ "java/lang/invoke/VarHandle" ∧ (parseMethodDescriptor yX0_setWear.desc).map (fun d => d.parameters.length) = some 2 := by decide +kernel
set_option maxRecDepth 100000 in
set_option maxHeartbeats 4000000 in
theorem m_X0_setWear (l : Launch) (D : va_G) (kA : Nat → Nat) (h0 : Nat) (hw : Nat) (f0 : Int32) (f1 : Int32) (f2 : Int32) (f3 : Int32) (f4 : Int32) (f5 : Int32) (f6 : Int32) (f7 : Int32) (f8 : Int32) (f9 : Int32) (f10 : Int32) (fw : Nat → Int32) (p0 : Int32) (p1 : Int32) : Met l yX0_setWear (Cond.code yX0_setWear cX0_setWear 3 none :: AW) ({ frames := 0, cells := 0, slots := 0, locals := 0 } : Room) (Pz [.ref h0, .int p0, .int p1] D (TY kA) [(h0, .inr (0, [.ref hw, .int f0, .int f1, .int f2, .int f3, .int f4, .int f5, .int f6, .int f7, .int f8, .int f9, .int f10])), (hw, .inl (kA 0, 24, .inl fw))]) (fQ none D [(h0, .inr (0, [.ref hw, .int f0, .int f1, .int f2, .int f3, .int f4, .int f5, .int f6, .int f7, .int f8, .int f9, .int f10])), (hw, .inl (kA 0, 24, .inl fw))] [(h0, .inr (0, [.ref hw, .int f0, .int f1, .int f2, .int f3, .int f4, .int f5, .int f6, .int f7, .int f8, .int f9, .int f10])), (hw, .inl (kA 0, 24, .inl (wsF fw p0 p1)))]) 0 0 (Aw [(h0, .inr (0, [.ref hw, .int f0, .int f1, .int f2, .int f3, .int f4, .int f5, .int f6, .int f7, .int f8, .int f9, .int f10])), (hw, .inl (kA 0, 24, .inl fw))]) := by
  refine MetZ (by decide +kernel) (Nat.le_of_ble_eq_true rfl) ?_
  intro p e s m below meth c ls hx hb hrt hts hown hml hlk hnm hP hK hD hS hl
  have hl : lv_has ls 3 [(0, .ref h0), (1, .int p0), (2, .int p1)] := hl
  refine lv_iload_n hx hb dX0_setWear_0 rfl (lv_at hl 1 rfl) ?_
  refine lv_if_lt (tgt := 20) hx hb dX0_setWear_1 (by decide) (fun c_1 => ?_) (fun c_1 => ?_)
  · skip
    have hP : va_P D vwCl [(h0, .inr (0, [.ref hw, .int f0, .int f1, .int f2, .int f3, .int f4, .int f5, .int f6, .int f7, .int f8, .int f9, .int f10])), (hw, .inl (kA 0, 24, .inl fw))] _ := hP.sub [0, 1] rfl
    exact end_fv hx hb hrt hlk hP hS (by intro h; simpa only [wsF, c_1, ↓reduceIte] using h) dX0_setWear_20
  · skip
    refine lv_iload_n hx hb dX0_setWear_4 rfl (lv_at hl 1 rfl) ?_
    refine lv_aload_n hx hb dX0_setWear_5 rfl (lv_at hl 0 rfl) ?_
    refine va_get (ci := 0) (v := .ref hw) (C := RX0) (T := TX0) (N := 12) hx hb hts inX0 hown hK hP 0 rfl rfl 0 (by decide) (hts _ q_68) (fun _ h9 => h9) rfl dX0_setWear_6 ?_
    refine va_alen (v := 24) hx hb hK hP 1 0 rfl rfl rfl dX0_setWear_9 ?_
    refine lv_icmp_ge (tgt := 20) hx hb dX0_setWear_10 (by decide) (fun c_2 => ?_) (fun c_2 => ?_)
    · skip
      replace c_2 := ge_n c_2
      have hP : va_P D vwCl [(h0, .inr (0, [.ref hw, .int f0, .int f1, .int f2, .int f3, .int f4, .int f5, .int f6, .int f7, .int f8, .int f9, .int f10])), (hw, .inl (kA 0, 24, .inl fw))] _ := hP.sub [0, 1] rfl
      exact end_fv hx hb hrt hlk hP hS (by intro h; simpa only [wsF, c_1, c_2, ↓reduceIte] using h) dX0_setWear_20
    · skip
      replace c_2 := nge_l c_2
      refine lv_aload_n hx hb dX0_setWear_13 rfl (lv_at hl 0 rfl) ?_
      refine va_get (ci := 0) (v := .ref hw) (C := RX0) (T := TX0) (N := 12) hx hb hts inX0 hown hK hP 0 rfl rfl 0 (by decide) (hts _ q_68) (fun _ h9 => h9) rfl dX0_setWear_14 ?_
      refine lv_iload_n hx hb dX0_setWear_17 rfl (lv_at hl 1 rfl) ?_
      refine lv_iload_n hx hb dX0_setWear_18 rfl (lv_at hl 2 rfl) ?_
      refine va_iast (f := fw) hx hb hK hP hD hS 1 0 rfl rfl (in_of c_1 c_2 rfl) dX0_setWear_19 (fun H locs hP hD hS => ?_)
      have hP : va_P D vwCl [(h0, .inr (0, [.ref hw, .int f0, .int f1, .int f2, .int f3, .int f4, .int f5, .int f6, .int f7, .int f8, .int f9, .int f10])), (hw, .inl (kA 0, 24, .inl (upd fw p0.toNatClampNeg p1)))] H := hP
      have hD : va_D (Aw [(h0, .inr (0, [.ref hw, .int f0, .int f1, .int f2, .int f3, .int f4, .int f5, .int f6, .int f7, .int f8, .int f9, .int f10])), (hw, .inl (kA 0, 24, .inl fw))]) [(h0, .inr (0, [.ref hw, .int f0, .int f1, .int f2, .int f3, .int f4, .int f5, .int f6, .int f7, .int f8, .int f9, .int f10])), (hw, .inl (kA 0, 24, .inl (upd fw p0.toNatClampNeg p1)))] := hD
      have hP : va_P D vwCl [(h0, .inr (0, [.ref hw, .int f0, .int f1, .int f2, .int f3, .int f4, .int f5, .int f6, .int f7, .int f8, .int f9, .int f10])), (hw, .inl (kA 0, 24, .inl (upd fw p0.toNatClampNeg p1)))] _ := hP.sub [0, 1] rfl
      exact end_fv hx hb hrt hlk hP hS (by intro h; simpa only [wsF, c_1, c_2, ↓reduceIte] using h) dX0_setWear_20

theorem hd_X0_tollWith : yX0_tollWith.cls ≠ "java/lang/invoke/MethodHandle" ∧ yX0_tollWith.cls ≠ "java/lang/invoke/VarHandle" ∧ (parseMethodDescriptor yX0_tollWith.desc).map (fun d => d.parameters.length) = some 3 := by decide +kernel
set_option maxRecDepth 100000 in
set_option maxHeartbeats 4000000 in
theorem m_X0_tollWith (l : Launch) (D : va_G) (kA : Nat → Nat) (h0 : Nat) (hw : Nat) (f0 : Int32) (f1 : Int32) (f2 : Int32) (f3 : Int32) (f4 : Int32) (f5 : Int32) (f6 : Int32) (f7 : Int32) (f8 : Int32) (f9 : Int32) (f10 : Int32) (h9 : Nat) (r0 : Int32) (r1 : Int32) (r2 : Int32) (r3 : Int32) (r4 : Int32) (r5 : Int32) (p0 : Int32) (p1 : Int32) : Met l yX0_tollWith (Cond.code yX0_tollWith cX0_tollWith 5 (some .int) :: AW) ({ frames := 0, cells := 0, slots := 0, locals := 0 } : Room) (Pz [.ref h0, .int p0, .int p1, .ref h9] D (TY kA) [(h0, .inr (0, [.ref hw, .int f0, .int f1, .int f2, .int f3, .int f4, .int f5, .int f6, .int f7, .int f8, .int f9, .int f10])), (h9, .inr (3, [.int r0, .int r1, .int r2, .int r3, .int r4, .int r5]))]) (pQ (some (.int (tlF f2 p0 p1 r1)))) 0 0 (fun _ => False) := by
  refine MetZ (by decide +kernel) (Nat.le_of_ble_eq_true rfl) ?_
  intro p e s m below meth c ls hx hb hrt hts hown hml hlk hnm hP hK hD hS hl
  have hl : lv_has ls 5 [(0, .ref h0), (1, .int p0), (2, .int p1), (3, .ref h9)] := hl
  refine lv_iconst (v := 1) hx hb dX0_tollWith_0 (by decide) ?_
  refine lv_aload_n hx hb dX0_tollWith_1 rfl (lv_at hl 0 rfl) ?_
  refine va_get (ci := 0) (v := .int f2) (C := RX0) (T := TX0) (N := 12) hx hb hts inX0 hown hK hP 0 rfl rfl 3 (by decide) (hts _ q_74) (fun _ h9 => h9) rfl dX0_tollWith_2 ?_
  refine lv_iadd hx hb dX0_tollWith_5 ?_
  refine lv_istore (lv' := [(4, .int (1 + f2)), (0, .ref h0), (1, .int p0), (2, .int p1), (3, .ref h9)]) hx hb dX0_tollWith_6 hl (by decide) rfl (fun ls hl => ?_)
  refine lv_aload_n hx hb dX0_tollWith_8 rfl (lv_at hl 4 rfl) ?_
  refine va_get (ci := 3) (v := .int r1) (C := RX3) (T := TX3) (N := 6) hx hb hts inX3 hown hK hP 1 rfl rfl 1 (by decide) (hts _ q_38) (fun _ h9 => h9) rfl dX0_tollWith_9 ?_
  refine lv_if_le (tgt := 26) hx hb dX0_tollWith_12 (by decide) (fun c_1 => ?_) (fun c_1 => ?_)
  · skip
    replace c_1 := ge_n c_1
    refine lv_iload_n hx hb dX0_tollWith_26 rfl (lv_at hl 3 rfl) ?_
    refine lv_if_le (tgt := 39) hx hb dX0_tollWith_27 (by decide) (fun c_2 => ?_) (fun c_2 => ?_)
    · skip
      replace c_2 := ge_n c_2
      refine lv_iload hx hb dX0_tollWith_39 (lv_at hl 0 rfl) ?_
      exact end_pi hx hb hrt hlk (by first | rfl | (simp only [tlF, c_1, c_2, ↓reduceIte, bI]; done) | (simp only [tlF, c_1, c_2, ↓reduceIte, bI]; rfl) | (simp [tlF, c_1, c_2, bI]; done)) dX0_tollWith_41
    · skip
      replace c_2 := nge_l c_2
      refine lv_iload hx hb dX0_tollWith_30 (lv_at hl 0 rfl) ?_
      refine lv_iconst (v := 1) hx hb dX0_tollWith_32 (by decide) ?_
      refine lv_iadd hx hb dX0_tollWith_33 ?_
      refine lv_iconst (v := 2) hx hb dX0_tollWith_34 (by decide) ?_
      refine lv_idiv hx hb dX0_tollWith_35 (by decide) ?_
      refine lv_goto (tgt := 41) hx hb dX0_tollWith_36 (by decide) ?_
      exact end_pi hx hb hrt hlk (by first | rfl | (simp only [tlF, c_1, c_2, ↓reduceIte, bI]; done) | (simp only [tlF, c_1, c_2, ↓reduceIte, bI]; rfl) | (simp [tlF, c_1, c_2, bI]; done)) dX0_tollWith_41
  · skip
    replace c_1 := nge_l c_1
    refine lv_iload hx hb dX0_tollWith_15 (lv_at hl 0 rfl) ?_
    refine lv_iload_n hx hb dX0_tollWith_17 rfl (lv_at hl 2 rfl) ?_
    refine lv_aload_n hx hb dX0_tollWith_18 rfl (lv_at hl 4 rfl) ?_
    refine va_get (ci := 3) (v := .int r1) (C := RX3) (T := TX3) (N := 6) hx hb hts inX3 hown hK hP 1 rfl rfl 1 (by decide) (hts _ q_38) (fun _ h9 => h9) rfl dX0_tollWith_19 ?_
    refine lv_idiv hx hb dX0_tollWith_22 (fun h => by rw [h] at c_1; exact absurd c_1 (by decide)) ?_
    refine lv_iadd hx hb dX0_tollWith_23 ?_
    refine lv_istore (lv' := [(4, .int ((1 + f2) + (p0 / r1))), (0, .ref h0), (1, .int p0), (2, .int p1), (3, .ref h9)]) hx hb dX0_tollWith_24 hl (by decide) rfl (fun ls hl => ?_)
    refine lv_iload_n hx hb dX0_tollWith_26 rfl (lv_at hl 3 rfl) ?_
    refine lv_if_le (tgt := 39) hx hb dX0_tollWith_27 (by decide) (fun c_3 => ?_) (fun c_3 => ?_)
    · skip
      replace c_3 := ge_n c_3
      refine lv_iload hx hb dX0_tollWith_39 (lv_at hl 0 rfl) ?_
      exact end_pi hx hb hrt hlk (by first | rfl | (simp only [tlF, c_1, c_3, ↓reduceIte, bI]; done) | (simp only [tlF, c_1, c_3, ↓reduceIte, bI]; rfl) | (simp [tlF, c_1, c_3, bI]; done)) dX0_tollWith_41
    · skip
      replace c_3 := nge_l c_3
      refine lv_iload hx hb dX0_tollWith_30 (lv_at hl 0 rfl) ?_
      refine lv_iconst (v := 1) hx hb dX0_tollWith_32 (by decide) ?_
      refine lv_iadd hx hb dX0_tollWith_33 ?_
      refine lv_iconst (v := 2) hx hb dX0_tollWith_34 (by decide) ?_
      refine lv_idiv hx hb dX0_tollWith_35 (by decide) ?_
      refine lv_goto (tgt := 41) hx hb dX0_tollWith_36 (by decide) ?_
      exact end_pi hx hb hrt hlk (by first | rfl | (simp only [tlF, c_1, c_3, ↓reduceIte, bI]; done) | (simp only [tlF, c_1, c_3, ↓reduceIte, bI]; rfl) | (simp [tlF, c_1, c_3, bI]; done)) dX0_tollWith_41

theorem hd_X0_tollOfStep : yX0_tollOfStep.cls ≠ "java/lang/invoke/MethodHandle" ∧ yX0_tollOfStep.cls ≠ "java/lang/invoke/VarHandle" ∧ (parseMethodDescriptor yX0_tollOfStep.desc).map (fun d => d.parameters.length) = some 2 := by decide +kernel
set_option maxRecDepth 100000 in
set_option maxHeartbeats 4000000 in
theorem m_X0_tollOfStep (l : Launch) (D : va_G) (kA : Nat → Nat) (h0 : Nat) (hw : Nat) (G : Nat → Int32) (h9 : Nat) (R : Nat → Int32) (p0 : Int32) : Met l yX0_tollOfStep (Cond.code yX0_tollOfStep cX0_tollOfStep 3 (some .int) :: AW) ({ frames := 1, cells := 0, slots := 0, locals := 24 } : Room) (Pz [.ref h0, .int p0, .ref h9] D (TY kA) [(h0, gC hw G), (hw, wC kA G), (h9, rC R)]) (pQ (some (.int (tollG G R p0)))) 0 0 (fun _ => False) := by
  refine MetZ (by decide +kernel) (Nat.le_of_ble_eq_true rfl) ?_
  intro p e s m below meth c ls hx hb hrt hts hown hml hlk hnm hP hK hD hS hl
  have hl : lv_has ls 3 [(0, .ref h0), (1, .int p0), (2, .ref h9)] := hl
  refine lv_aload_n hx hb dX0_tollOfStep_0 rfl (lv_at hl 0 rfl) ?_
  refine lv_aload_n hx hb dX0_tollOfStep_1 rfl (lv_at hl 0 rfl) ?_
  refine lv_aload_n hx hb dX0_tollOfStep_2 rfl (lv_at hl 0 rfl) ?_
  refine va_get (ci := 0) (v := .int (G 0)) (C := RX0) (T := TX0) (N := 12) hx hb hts inX0 hown hK hP 0 rfl rfl 1 (by decide) (hts _ q_69) (fun _ h9 => h9) rfl dX0_tollOfStep_3 ?_
  refine lv_iload_n hx hb dX0_tollOfStep_6 rfl (lv_at hl 1 rfl) ?_
  refine cs_p (runS (As := [.int (G 0), .int p0]) (rest := [.ref h0, .ref h0]) ⟨hx, hb, hml, hown, hts⟩ (m_X0_toothBy l D kA (G 0) p0 ) q_324 q_325 q_4 q_326 hd_X0_toothBy ⟨rfl, rfl⟩ ⟨Nat.le_of_ble_eq_true rfl, Nat.le_of_ble_eq_true rfl⟩ hK (ws := []) (hP.sub [] rfl) (hD.sub [] (by decide) rfl) rfl hl.1 rfl (Nat.le_of_ble_eq_true rfl) dX0_tollOfStep_7 ⟨Nat.zero_le _, Nat.zero_le _⟩) ?_
  refine cs_p (runV (As := [.int (tW (G 0) p0)]) (rest := [.ref h0]) ⟨hx, hb, hml, hown, hts⟩ (m_X0_wearOf l D kA h0 hw (G 0) (G 1) (G 2) (G 3) (G 4) (G 5) (G 6) (G 7) (G 8) (G 9) (G 10) (fun t => G (t + 11)) (tW (G 0) p0) ) q_327 q_328 q_329 q_4 q_330 hd_X0_wearOf ⟨rfl, rfl⟩ ⟨Nat.le_of_ble_eq_true rfl, Nat.le_of_ble_eq_true rfl⟩ hK (ws := [(h0, .inr (0, [.ref hw, .int (G 0), .int (G 1), .int (G 2), .int (G 3), .int (G 4), .int (G 5), .int (G 6), .int (G 7), .int (G 8), .int (G 9), .int (G 10)])), (hw, .inl (kA 0, 24, .inl (fun t => G (t + 11))))]) (hP.sub [0, 1] rfl) (hD.sub [0, 1] (by decide) rfl) 0 (ci := 0) (C := RX0) (T := TX0) (N := 12) rfl rfl rfl hl.1 rfl (Nat.le_of_ble_eq_true rfl) dX0_tollOfStep_10 ⟨Nat.zero_le _, Nat.zero_le _⟩) ?_
  refine lv_aload_n hx hb dX0_tollOfStep_13 rfl (lv_at hl 0 rfl) ?_
  refine va_get (ci := 0) (v := .int (G 5)) (C := RX0) (T := TX0) (N := 12) hx hb hts inX0 hown hK hP 0 rfl rfl 6 (by decide) (hts _ q_78) (fun _ h9 => h9) rfl dX0_tollOfStep_14 ?_
  refine lv_aload_n hx hb dX0_tollOfStep_17 rfl (lv_at hl 2 rfl) ?_
  refine cs_p (runV (As := [.int (wrF (fun t => G (t + 11)) (tW (G 0) p0)), .int (G 5), .ref h9]) (rest := []) ⟨hx, hb, hml, hown, hts⟩ (m_X0_tollWith l D kA h0 hw (G 0) (G 1) (G 2) (G 3) (G 4) (G 5) (G 6) (G 7) (G 8) (G 9) (G 10) h9 (R 0) (R 1) (R 2) (R 3) (R 4) (R 5) (wrF (fun t => G (t + 11)) (tW (G 0) p0)) (G 5) ) q_331 q_332 q_333 q_4 q_334 hd_X0_tollWith ⟨rfl, rfl⟩ ⟨Nat.le_of_ble_eq_true rfl, Nat.le_of_ble_eq_true rfl⟩ hK (ws := [(h0, .inr (0, [.ref hw, .int (G 0), .int (G 1), .int (G 2), .int (G 3), .int (G 4), .int (G 5), .int (G 6), .int (G 7), .int (G 8), .int (G 9), .int (G 10)])), (h9, .inr (3, [.int (R 0), .int (R 1), .int (R 2), .int (R 3), .int (R 4), .int (R 5)]))]) (hP.sub [0, 2] rfl) (hD.sub [0, 2] (by decide) rfl) 0 (ci := 0) (C := RX0) (T := TX0) (N := 12) rfl rfl rfl hl.1 rfl (Nat.le_of_ble_eq_true rfl) dX0_tollOfStep_18 ⟨Nat.zero_le _, Nat.zero_le _⟩) ?_
  exact end_pi hx hb hrt hlk (by first | rfl | (simp only [tollG, gwr, ↓reduceIte, bI]; done) | (simp only [tollG, gwr, ↓reduceIte, bI]; rfl) | (simp [tollG, gwr, bI]; done)) dX0_tollOfStep_21

theorem hd_X0_isTurn : yX0_isTurn.cls ≠ "java/lang/invoke/MethodHandle" ∧ yX0_isTurn.cls ≠ "java/lang/invoke/VarHandle" ∧ (parseMethodDescriptor yX0_isTurn.desc).map (fun d => d.parameters.length) = some 1 := by decide +kernel
set_option maxRecDepth 100000 in
set_option maxHeartbeats 4000000 in
theorem m_X0_isTurn (l : Launch) (D : va_G) (kA : Nat → Nat) (h0 : Nat) (hw : Nat) (f0 : Int32) (f1 : Int32) (f2 : Int32) (f3 : Int32) (f4 : Int32) (f5 : Int32) (f6 : Int32) (f7 : Int32) (f8 : Int32) (f9 : Int32) (f10 : Int32) (p0 : Int32) : Met l yX0_isTurn (Cond.code yX0_isTurn cX0_isTurn 2 (some .boolean) :: AW) ({ frames := 0, cells := 0, slots := 0, locals := 0 } : Room) (Pz [.ref h0, .int p0] D (TY kA) [(h0, .inr (0, [.ref hw, .int f0, .int f1, .int f2, .int f3, .int f4, .int f5, .int f6, .int f7, .int f8, .int f9, .int f10]))]) (pQ (some (.int (bI (decide (f3 = -p0)))))) 0 0 (fun _ => False) := by
  refine MetZ (by decide +kernel) (Nat.le_of_ble_eq_true rfl) ?_
  intro p e s m below meth c ls hx hb hrt hts hown hml hlk hnm hP hK hD hS hl
  have hl : lv_has ls 2 [(0, .ref h0), (1, .int p0)] := hl
  refine lv_aload_n hx hb dX0_isTurn_0 rfl (lv_at hl 0 rfl) ?_
  refine va_get (ci := 0) (v := .int f3) (C := RX0) (T := TX0) (N := 12) hx hb hts inX0 hown hK hP 0 rfl rfl 4 (by decide) (hts _ q_76) (fun _ h9 => h9) rfl dX0_isTurn_1 ?_
  refine lv_iload_n hx hb dX0_isTurn_4 rfl (lv_at hl 1 rfl) ?_
  refine lv_ineg hx hb dX0_isTurn_5 ?_
  refine lv_icmp_ne (tgt := 13) hx hb dX0_isTurn_6 (by decide) (fun c_1 => ?_) (fun c_1 => ?_)
  · skip
    refine lv_iconst (v := 0) hx hb dX0_isTurn_13 (by decide) ?_
    exact end_pz hx hb hrt hlk (by decide) (by simp only [c_1, decide_true, decide_false, bI]) dX0_isTurn_14
  · skip
    refine lv_iconst (v := 1) hx hb dX0_isTurn_9 (by decide) ?_
    refine lv_goto (tgt := 14) hx hb dX0_isTurn_10 (by decide) ?_
    exact end_pz hx hb hrt hlk (by decide) (by simp only [c_1, decide_true, decide_false, bI]) dX0_isTurn_14

theorem hd_X0_makeStep : yX0_makeStep.cls ≠ "java/lang/invoke/MethodHandle" ∧ yX0_makeStep.cls ≠ "java/lang/invoke/VarHandle" ∧ (parseMethodDescriptor yX0_makeStep.desc).map (fun d => d.parameters.length) = some 3 := by decide +kernel
set_option maxRecDepth 100000 in
set_option maxHeartbeats 4000000 in
theorem m_X0_makeStep (l : Launch) (D : va_G) (kA : Nat → Nat) (h0 : Nat) (hw : Nat) (G : Nat → Int32) (h9 : Nat) (R : Nat → Int32) (p0 : Int32) (p1 : Int32) : Met l yX0_makeStep (Cond.code yX0_makeStep cX0_makeStep 8 (some .int) :: AW) ({ frames := 1, cells := 0, slots := 0, locals := 24 } : Room) (Pz [.ref h0, .int p0, .int p1, .ref h9] D (TY kA) [(h0, gC hw G), (hw, wC kA G), (h9, rC R)]) (fQ (some (.int (msR G R p0 p1))) D [(h0, gC hw G), (hw, wC kA G), (h9, rC R)] [(h0, gC hw (msG G R p0 p1)), (hw, wC kA (msG G R p0 p1)), (h9, rC R)]) 0 0 (Aw [(h0, gC hw G), (hw, wC kA G), (h9, rC R)]) := by
  refine MetZ (by decide +kernel) (Nat.le_of_ble_eq_true rfl) ?_
  intro p e s m below meth c ls hx hb hrt hts hown hml hlk hnm hP hK hD hS hl
  have hl : lv_has ls 8 [(0, .ref h0), (1, .int p0), (2, .int p1), (3, .ref h9)] := hl
  refine lv_aload_n hx hb dX0_makeStep_0 rfl (lv_at hl 0 rfl) ?_
  refine va_get (ci := 0) (v := .int (G 0)) (C := RX0) (T := TX0) (N := 12) hx hb hts inX0 hown hK hP 0 rfl rfl 1 (by decide) (hts _ q_69) (fun _ h9 => h9) rfl dX0_makeStep_1 ?_
  refine lv_iload_n hx hb dX0_makeStep_4 rfl (lv_at hl 1 rfl) ?_
  refine cs_p (runS (As := [.int (G 0), .int p0]) (rest := []) ⟨hx, hb, hml, hown, hts⟩ (m_X0_toothBy l D kA (G 0) p0 ) q_324 q_325 q_4 q_326 hd_X0_toothBy ⟨rfl, rfl⟩ ⟨Nat.le_of_ble_eq_true rfl, Nat.le_of_ble_eq_true rfl⟩ hK (ws := []) (hP.sub [] rfl) (hD.sub [] (by decide) rfl) rfl hl.1 rfl (Nat.le_of_ble_eq_true rfl) dX0_makeStep_5 ⟨Nat.zero_le _, Nat.zero_le _⟩) ?_
  refine lv_istore (lv' := [(4, .int (tW (G 0) p0)), (0, .ref h0), (1, .int p0), (2, .int p1), (3, .ref h9)]) hx hb dX0_makeStep_8 hl (by decide) rfl (fun ls hl => ?_)
  refine lv_aload_n hx hb dX0_makeStep_10 rfl (lv_at hl 1 rfl) ?_
  refine lv_iload hx hb dX0_makeStep_11 (lv_at hl 0 rfl) ?_
  refine cs_p (runV (As := [.int (tW (G 0) p0)]) (rest := []) ⟨hx, hb, hml, hown, hts⟩ (m_X0_wearOf l D kA h0 hw (G 0) (G 1) (G 2) (G 3) (G 4) (G 5) (G 6) (G 7) (G 8) (G 9) (G 10) (fun t => G (t + 11)) (tW (G 0) p0) ) q_327 q_328 q_329 q_4 q_330 hd_X0_wearOf ⟨rfl, rfl⟩ ⟨Nat.le_of_ble_eq_true rfl, Nat.le_of_ble_eq_true rfl⟩ hK (ws := [(h0, .inr (0, [.ref hw, .int (G 0), .int (G 1), .int (G 2), .int (G 3), .int (G 4), .int (G 5), .int (G 6), .int (G 7), .int (G 8), .int (G 9), .int (G 10)])), (hw, .inl (kA 0, 24, .inl (fun t => G (t + 11))))]) (hP.sub [0, 1] rfl) (hD.sub [0, 1] (by decide) rfl) 0 (ci := 0) (C := RX0) (T := TX0) (N := 12) rfl rfl rfl hl.1 rfl (Nat.le_of_ble_eq_true rfl) dX0_makeStep_13 ⟨Nat.zero_le _, Nat.zero_le _⟩) ?_
  refine lv_istore (lv' := [(5, .int (wrF (fun t => G (t + 11)) (tW (G 0) p0))), (4, .int (tW (G 0) p0)), (0, .ref h0), (1, .int p0), (2, .int p1), (3, .ref h9)]) hx hb dX0_makeStep_16 hl (by decide) rfl (fun ls hl => ?_)
  refine lv_aload_n hx hb dX0_makeStep_18 rfl (lv_at hl 2 rfl) ?_
  refine lv_iload hx hb dX0_makeStep_19 (lv_at hl 0 rfl) ?_
  refine lv_aload_n hx hb dX0_makeStep_21 rfl (lv_at hl 2 rfl) ?_
  refine va_get (ci := 0) (v := .int (G 5)) (C := RX0) (T := TX0) (N := 12) hx hb hts inX0 hown hK hP 0 rfl rfl 6 (by decide) (hts _ q_78) (fun _ h9 => h9) rfl dX0_makeStep_22 ?_
  refine lv_aload_n hx hb dX0_makeStep_25 rfl (lv_at hl 5 rfl) ?_
  refine cs_p (runV (As := [.int (wrF (fun t => G (t + 11)) (tW (G 0) p0)), .int (G 5), .ref h9]) (rest := []) ⟨hx, hb, hml, hown, hts⟩ (m_X0_tollWith l D kA h0 hw (G 0) (G 1) (G 2) (G 3) (G 4) (G 5) (G 6) (G 7) (G 8) (G 9) (G 10) h9 (R 0) (R 1) (R 2) (R 3) (R 4) (R 5) (wrF (fun t => G (t + 11)) (tW (G 0) p0)) (G 5) ) q_331 q_332 q_333 q_4 q_334 hd_X0_tollWith ⟨rfl, rfl⟩ ⟨Nat.le_of_ble_eq_true rfl, Nat.le_of_ble_eq_true rfl⟩ hK (ws := [(h0, .inr (0, [.ref hw, .int (G 0), .int (G 1), .int (G 2), .int (G 3), .int (G 4), .int (G 5), .int (G 6), .int (G 7), .int (G 8), .int (G 9), .int (G 10)])), (h9, .inr (3, [.int (R 0), .int (R 1), .int (R 2), .int (R 3), .int (R 4), .int (R 5)]))]) (hP.sub [0, 2] rfl) (hD.sub [0, 2] (by decide) rfl) 0 (ci := 0) (C := RX0) (T := TX0) (N := 12) rfl rfl rfl hl.1 rfl (Nat.le_of_ble_eq_true rfl) dX0_makeStep_26 ⟨Nat.zero_le _, Nat.zero_le _⟩) ?_
  refine lv_istore (lv' := [(6, .int (tlF (G 2) (wrF (fun t => G (t + 11)) (tW (G 0) p0)) (G 5) (R 1))), (5, .int (wrF (fun t => G (t + 11)) (tW (G 0) p0))), (4, .int (tW (G 0) p0)), (0, .ref h0), (1, .int p0), (2, .int p1), (3, .ref h9)]) hx hb dX0_makeStep_29 hl (by decide) rfl (fun ls hl => ?_)
  refine lv_iload hx hb dX0_makeStep_31 (lv_at hl 0 rfl) ?_
  refine lv_iload_n hx hb dX0_makeStep_33 rfl (lv_at hl 5 rfl) ?_
  refine lv_icmp_le (tgt := 39) hx hb dX0_makeStep_34 (by decide) (fun c_1 => ?_) (fun c_1 => ?_)
  · skip
    replace c_1 := ge_n c_1
    refine lv_aload_n hx hb dX0_makeStep_39 rfl (lv_at hl 3 rfl) ?_
    refine lv_iload_n hx hb dX0_makeStep_40 rfl (lv_at hl 4 rfl) ?_
    refine cs_p (runV (As := [.int p0]) (rest := []) ⟨hx, hb, hml, hown, hts⟩ (m_X0_isTurn l D kA h0 hw (G 0) (G 1) (G 2) (G 3) (G 4) (G 5) (G 6) (G 7) (G 8) (G 9) (G 10) p0 ) q_387 q_388 q_389 q_4 q_390 hd_X0_isTurn ⟨rfl, rfl⟩ ⟨Nat.le_of_ble_eq_true rfl, Nat.le_of_ble_eq_true rfl⟩ hK (ws := [(h0, .inr (0, [.ref hw, .int (G 0), .int (G 1), .int (G 2), .int (G 3), .int (G 4), .int (G 5), .int (G 6), .int (G 7), .int (G 8), .int (G 9), .int (G 10)]))]) (hP.sub [0] rfl) (hD.sub [0] (by decide) rfl) 0 (ci := 0) (C := RX0) (T := TX0) (N := 12) rfl rfl rfl hl.1 rfl (Nat.le_of_ble_eq_true rfl) dX0_makeStep_41 ⟨Nat.zero_le _, Nat.zero_le _⟩) ?_
    refine lv_istore (lv' := [(7, .int (bI (decide ((G 3) = -p0)))), (6, .int (tlF (G 2) (wrF (fun t => G (t + 11)) (tW (G 0) p0)) (G 5) (R 1))), (5, .int (wrF (fun t => G (t + 11)) (tW (G 0) p0))), (4, .int (tW (G 0) p0)), (0, .ref h0), (1, .int p0), (2, .int p1), (3, .ref h9)]) hx hb dX0_makeStep_44 hl (by decide) rfl (fun ls hl => ?_)
    refine lv_iload hx hb dX0_makeStep_46 (lv_at hl 0 rfl) ?_
    refine lv_if_eq (tgt := 76) hx hb dX0_makeStep_48 (by decide) (fun c_2 => ?_) (fun c_2 => ?_)
    · skip
      replace c_2 := bI_0.mp c_2
      refine lv_aload_n hx hb dX0_makeStep_76 rfl (lv_at hl 4 rfl) ?_
      refine lv_aload_n hx hb dX0_makeStep_77 rfl (lv_at hl 4 rfl) ?_
      refine va_get (ci := 0) (v := .int (G 1)) (C := RX0) (T := TX0) (N := 12) hx hb hts inX0 hown hK hP 0 rfl rfl 2 (by decide) (hts _ q_71) (fun _ h9 => h9) rfl dX0_makeStep_78 ?_
      refine lv_iload_n hx hb dX0_makeStep_81 rfl (lv_at hl 5 rfl) ?_
      refine cs_p (runS (As := [.int (G 1), .int p0]) (rest := [.ref h0]) ⟨hx, hb, hml, hown, hts⟩ (m_X0_nextPlace l D kA (G 1) p0 ) q_391 q_392 q_4 q_393 hd_X0_nextPlace ⟨rfl, rfl⟩ ⟨Nat.le_of_ble_eq_true rfl, Nat.le_of_ble_eq_true rfl⟩ hK (ws := []) (hP.sub [] rfl) (hD.sub [] (by decide) rfl) rfl hl.1 rfl (Nat.le_of_ble_eq_true rfl) dX0_makeStep_82 ⟨Nat.zero_le _, Nat.zero_le _⟩) ?_
      refine va_put (ci := 0) (v := .int (nW (G 1) p0)) (ty := tyX0 2) (C := RX0) (T := TX0) (N := 12) hx hb hts inX0 tyX0 tyX0_ok nmX0 hown hK hP hD hS 0 rfl rfl 2 (by decide) (hts _ q_71) (fun _ h9 => h9) rfl (tyX0_ok 2 (by decide)) rfl rfl (Nat.le_of_ble_eq_true rfl) dX0_makeStep_85 (fun H locs hP hD hS => ?_)
      have hP : va_P D vwCl [(h0, .inr (0, [.ref hw, .int (G 0), .int (nW (G 1) p0), .int (G 2), .int (G 3), .int (G 4), .int (G 5), .int (G 6), .int (G 7), .int (G 8), .int (G 9), .int (G 10)])), (hw, wC kA G), (h9, rC R)] H := hP
      have hD : va_D (Aw [(h0, gC hw G), (hw, wC kA G), (h9, rC R)]) [(h0, .inr (0, [.ref hw, .int (G 0), .int (nW (G 1) p0), .int (G 2), .int (G 3), .int (G 4), .int (G 5), .int (G 6), .int (G 7), .int (G 8), .int (G 9), .int (G 10)])), (hw, wC kA G), (h9, rC R)] := hD
      refine lv_iload hx hb dX0_makeStep_88 (lv_at hl 0 rfl) ?_
      refine lv_if_eq (tgt := 115) hx hb dX0_makeStep_90 (by decide) (fun c_3 => ?_) (fun c_3 => ?_)
      · skip
        replace c_3 := bI_0.mp c_3
        refine lv_aload_n hx hb dX0_makeStep_115 rfl (lv_at hl 4 rfl) ?_
        refine lv_aload_n hx hb dX0_makeStep_116 rfl (lv_at hl 4 rfl) ?_
        refine va_get (ci := 0) (v := .int (G 0)) (C := RX0) (T := TX0) (N := 12) hx hb hts inX0 hown hK hP 0 rfl rfl 1 (by decide) (hts _ q_69) (fun _ h9 => h9) rfl dX0_makeStep_117 ?_
        refine lv_iload_n hx hb dX0_makeStep_120 rfl (lv_at hl 5 rfl) ?_
        refine cs_p (runS (As := [.int (G 0), .int p0]) (rest := [.ref h0]) ⟨hx, hb, hml, hown, hts⟩ (m_X0_nextPlace l D kA (G 0) p0 ) q_391 q_392 q_4 q_393 hd_X0_nextPlace ⟨rfl, rfl⟩ ⟨Nat.le_of_ble_eq_true rfl, Nat.le_of_ble_eq_true rfl⟩ hK (ws := []) (hP.sub [] rfl) (hD.sub [] (by decide) rfl) rfl hl.1 rfl (Nat.le_of_ble_eq_true rfl) dX0_makeStep_121 ⟨Nat.zero_le _, Nat.zero_le _⟩) ?_
        refine va_put (ci := 0) (v := .int (nW (G 0) p0)) (ty := tyX0 1) (C := RX0) (T := TX0) (N := 12) hx hb hts inX0 tyX0 tyX0_ok nmX0 hown hK hP hD hS 0 rfl rfl 1 (by decide) (hts _ q_69) (fun _ h9 => h9) rfl (tyX0_ok 1 (by decide)) rfl rfl (Nat.le_of_ble_eq_true rfl) dX0_makeStep_124 (fun H locs hP hD hS => ?_)
        have hP : va_P D vwCl [(h0, .inr (0, [.ref hw, .int (nW (G 0) p0), .int (nW (G 1) p0), .int (G 2), .int (G 3), .int (G 4), .int (G 5), .int (G 6), .int (G 7), .int (G 8), .int (G 9), .int (G 10)])), (hw, wC kA G), (h9, rC R)] H := hP
        have hD : va_D (Aw [(h0, gC hw G), (hw, wC kA G), (h9, rC R)]) [(h0, .inr (0, [.ref hw, .int (nW (G 0) p0), .int (nW (G 1) p0), .int (G 2), .int (G 3), .int (G 4), .int (G 5), .int (G 6), .int (G 7), .int (G 8), .int (G 9), .int (G 10)])), (hw, wC kA G), (h9, rC R)] := hD
        refine lv_aload_n hx hb dX0_makeStep_127 rfl (lv_at hl 4 rfl) ?_
        refine lv_iload hx hb dX0_makeStep_128 (lv_at hl 3 rfl) ?_
        refine lv_iload hx hb dX0_makeStep_130 (lv_at hl 2 rfl) ?_
        refine lv_aload_n hx hb dX0_makeStep_132 rfl (lv_at hl 7 rfl) ?_
        refine va_get (ci := 3) (v := .int (R 0)) (C := RX3) (T := TX3) (N := 6) hx hb hts inX3 hown hK hP 2 rfl rfl 0 (by decide) (hts _ q_36) (fun _ h9 => h9) rfl dX0_makeStep_133 ?_
        refine lv_iadd hx hb dX0_makeStep_136 ?_
        refine lv_bipush (v := 99) hx hb dX0_makeStep_137 (by decide) ?_
        refine va_mmin hx hb (hml.trans hl.1.symm) hown (hts _ q_375) (hts _ q_356) (hts _ q_12) (hts _ q_357) (Nat.le_of_ble_eq_true rfl) (Nat.le_of_ble_eq_true rfl) (Nat.zero_le _) (Nat.zero_le _) dX0_makeStep_139 ?_
        refine cs_fn (runV (As := [.int (tW (G 0) p0), .int (if 99 < (wrF (fun t => G (t + 11)) (tW (G 0) p0)) + (R 0) then 99 else (wrF (fun t => G (t + 11)) (tW (G 0) p0)) + (R 0))]) (rest := []) ⟨hx, hb, hml, hown, hts⟩ (m_X0_setWear l D kA h0 hw (nW (G 0) p0) (nW (G 1) p0) (G 2) (G 3) (G 4) (G 5) (G 6) (G 7) (G 8) (G 9) (G 10) (fun t => G (t + 11)) (tW (G 0) p0) (if 99 < (wrF (fun t => G (t + 11)) (tW (G 0) p0)) + (R 0) then 99 else (wrF (fun t => G (t + 11)) (tW (G 0) p0)) + (R 0)) ) q_394 q_395 q_396 q_4 q_397 hd_X0_setWear ⟨rfl, rfl⟩ ⟨Nat.le_of_ble_eq_true rfl, Nat.le_of_ble_eq_true rfl⟩ hK (ws := [(h0, .inr (0, [.ref hw, .int (nW (G 0) p0), .int (nW (G 1) p0), .int (G 2), .int (G 3), .int (G 4), .int (G 5), .int (G 6), .int (G 7), .int (G 8), .int (G 9), .int (G 10)])), (hw, .inl (kA 0, 24, .inl (fun t => G (t + 11))))]) (hP.sub [0, 1] rfl) (hD.sub [0, 1] (by decide) rfl) 0 (ci := 0) (C := RX0) (T := TX0) (N := 12) rfl rfl rfl hl.1 rfl (Nat.le_of_ble_eq_true rfl) dX0_makeStep_142 ⟨Nat.zero_le _, Nat.zero_le _⟩) hS (aw_sub hD (isC := [0, 1]) rfl) (fun H locs hP1 hk1 hS => ?_)
        obtain ⟨hP, hD⟩ := jn (wr := [(h9, rC R)]) (w1 := [(h0, .inr (0, [.ref hw, .int (nW (G 0) p0), .int (nW (G 1) p0), .int (G 2), .int (G 3), .int (G 4), .int (G 5), .int (G 6), .int (G 7), .int (G 8), .int (G 9), .int (G 10)])), (hw, .inl (kA 0, 24, .inl (wsF (fun t => G (t + 11)) (tW (G 0) p0) (if 99 < (wrF (fun t => G (t + 11)) (tW (G 0) p0)) + (R 0) then 99 else (wrF (fun t => G (t + 11)) (tW (G 0) p0)) + (R 0)))))]) hP hD [0, 1] [2] rfl rfl (by decide) hk1 hP1 rfl
        have hP : va_P D vwCl [(h9, rC R), (h0, .inr (0, [.ref hw, .int (nW (G 0) p0), .int (nW (G 1) p0), .int (G 2), .int (G 3), .int (G 4), .int (G 5), .int (G 6), .int (G 7), .int (G 8), .int (G 9), .int (G 10)])), (hw, .inl (kA 0, 24, .inl (wsF (fun t => G (t + 11)) (tW (G 0) p0) (if 99 < (wrF (fun t => G (t + 11)) (tW (G 0) p0)) + (R 0) then 99 else (wrF (fun t => G (t + 11)) (tW (G 0) p0)) + (R 0)))))] H := hP
        have hD : va_D (Aw [(h0, gC hw G), (hw, wC kA G), (h9, rC R)]) [(h9, rC R), (h0, .inr (0, [.ref hw, .int (nW (G 0) p0), .int (nW (G 1) p0), .int (G 2), .int (G 3), .int (G 4), .int (G 5), .int (G 6), .int (G 7), .int (G 8), .int (G 9), .int (G 10)])), (hw, .inl (kA 0, 24, .inl (wsF (fun t => G (t + 11)) (tW (G 0) p0) (if 99 < (wrF (fun t => G (t + 11)) (tW (G 0) p0)) + (R 0) then 99 else (wrF (fun t => G (t + 11)) (tW (G 0) p0)) + (R 0)))))] := hD
        refine lv_aload_n hx hb dX0_makeStep_145 rfl (lv_at hl 4 rfl) ?_
        refine lv_iload_n hx hb dX0_makeStep_146 rfl (lv_at hl 5 rfl) ?_
        refine va_put (ci := 0) (v := .int p0) (ty := tyX0 4) (C := RX0) (T := TX0) (N := 12) hx hb hts inX0 tyX0 tyX0_ok nmX0 hown hK hP hD hS 1 rfl rfl 4 (by decide) (hts _ q_76) (fun _ h9 => h9) rfl (tyX0_ok 4 (by decide)) rfl rfl (Nat.le_of_ble_eq_true rfl) dX0_makeStep_147 (fun H locs hP hD hS => ?_)
        have hP : va_P D vwCl [(h9, rC R), (h0, .inr (0, [.ref hw, .int (nW (G 0) p0), .int (nW (G 1) p0), .int (G 2), .int p0, .int (G 4), .int (G 5), .int (G 6), .int (G 7), .int (G 8), .int (G 9), .int (G 10)])), (hw, .inl (kA 0, 24, .inl (wsF (fun t => G (t + 11)) (tW (G 0) p0) (if 99 < (wrF (fun t => G (t + 11)) (tW (G 0) p0)) + (R 0) then 99 else (wrF (fun t => G (t + 11)) (tW (G 0) p0)) + (R 0)))))] H := hP
        have hD : va_D (Aw [(h0, gC hw G), (hw, wC kA G), (h9, rC R)]) [(h9, rC R), (h0, .inr (0, [.ref hw, .int (nW (G 0) p0), .int (nW (G 1) p0), .int (G 2), .int p0, .int (G 4), .int (G 5), .int (G 6), .int (G 7), .int (G 8), .int (G 9), .int (G 10)])), (hw, .inl (kA 0, 24, .inl (wsF (fun t => G (t + 11)) (tW (G 0) p0) (if 99 < (wrF (fun t => G (t + 11)) (tW (G 0) p0)) + (R 0) then 99 else (wrF (fun t => G (t + 11)) (tW (G 0) p0)) + (R 0)))))] := hD
        refine lv_aload_n hx hb dX0_makeStep_150 rfl (lv_at hl 4 rfl) ?_
        refine lv_aload_n hx hb dX0_makeStep_151 rfl (lv_at hl 4 rfl) ?_
        refine va_get (ci := 0) (v := .int (G 5)) (C := RX0) (T := TX0) (N := 12) hx hb hts inX0 hown hK hP 1 rfl rfl 6 (by decide) (hts _ q_78) (fun _ h9 => h9) rfl dX0_makeStep_152 ?_
        refine lv_iconst (v := 1) hx hb dX0_makeStep_155 (by decide) ?_
        refine lv_isub hx hb dX0_makeStep_156 ?_
        refine lv_iconst (v := 0) hx hb dX0_makeStep_157 (by decide) ?_
        refine va_mmax hx hb (hml.trans hl.1.symm) hown (hts _ q_398) (hts _ q_399) (hts _ q_12) (hts _ q_400) (Nat.le_of_ble_eq_true rfl) (Nat.le_of_ble_eq_true rfl) (Nat.zero_le _) (Nat.zero_le _) dX0_makeStep_158 ?_
        refine va_put (ci := 0) (v := .int (if (G 5) - 1 < 0 then 0 else (G 5) - 1)) (ty := tyX0 6) (C := RX0) (T := TX0) (N := 12) hx hb hts inX0 tyX0 tyX0_ok nmX0 hown hK hP hD hS 1 rfl rfl 6 (by decide) (hts _ q_78) (fun _ h9 => h9) rfl (tyX0_ok 6 (by decide)) rfl rfl (Nat.le_of_ble_eq_true rfl) dX0_makeStep_161 (fun H locs hP hD hS => ?_)
        have hP : va_P D vwCl [(h9, rC R), (h0, .inr (0, [.ref hw, .int (nW (G 0) p0), .int (nW (G 1) p0), .int (G 2), .int p0, .int (G 4), .int (if (G 5) - 1 < 0 then 0 else (G 5) - 1), .int (G 6), .int (G 7), .int (G 8), .int (G 9), .int (G 10)])), (hw, .inl (kA 0, 24, .inl (wsF (fun t => G (t + 11)) (tW (G 0) p0) (if 99 < (wrF (fun t => G (t + 11)) (tW (G 0) p0)) + (R 0) then 99 else (wrF (fun t => G (t + 11)) (tW (G 0) p0)) + (R 0)))))] H := hP
        have hD : va_D (Aw [(h0, gC hw G), (hw, wC kA G), (h9, rC R)]) [(h9, rC R), (h0, .inr (0, [.ref hw, .int (nW (G 0) p0), .int (nW (G 1) p0), .int (G 2), .int p0, .int (G 4), .int (if (G 5) - 1 < 0 then 0 else (G 5) - 1), .int (G 6), .int (G 7), .int (G 8), .int (G 9), .int (G 10)])), (hw, .inl (kA 0, 24, .inl (wsF (fun t => G (t + 11)) (tW (G 0) p0) (if 99 < (wrF (fun t => G (t + 11)) (tW (G 0) p0)) + (R 0) then 99 else (wrF (fun t => G (t + 11)) (tW (G 0) p0)) + (R 0)))))] := hD
        refine lv_aload_n hx hb dX0_makeStep_164 rfl (lv_at hl 4 rfl) ?_
        refine lv_dup hx hb dX0_makeStep_165 rfl ?_
        refine va_get (ci := 0) (v := .int (G 6)) (C := RX0) (T := TX0) (N := 12) hx hb hts inX0 hown hK hP 1 rfl rfl 7 (by decide) (hts _ q_80) (fun _ h9 => h9) rfl dX0_makeStep_166 ?_
        refine lv_iconst (v := 1) hx hb dX0_makeStep_169 (by decide) ?_
        refine lv_iadd hx hb dX0_makeStep_170 ?_
        refine va_put (ci := 0) (v := .int ((G 6) + 1)) (ty := tyX0 7) (C := RX0) (T := TX0) (N := 12) hx hb hts inX0 tyX0 tyX0_ok nmX0 hown hK hP hD hS 1 rfl rfl 7 (by decide) (hts _ q_80) (fun _ h9 => h9) rfl (tyX0_ok 7 (by decide)) rfl rfl (Nat.le_of_ble_eq_true rfl) dX0_makeStep_171 (fun H locs hP hD hS => ?_)
        have hP : va_P D vwCl [(h9, rC R), (h0, .inr (0, [.ref hw, .int (nW (G 0) p0), .int (nW (G 1) p0), .int (G 2), .int p0, .int (G 4), .int (if (G 5) - 1 < 0 then 0 else (G 5) - 1), .int ((G 6) + 1), .int (G 7), .int (G 8), .int (G 9), .int (G 10)])), (hw, .inl (kA 0, 24, .inl (wsF (fun t => G (t + 11)) (tW (G 0) p0) (if 99 < (wrF (fun t => G (t + 11)) (tW (G 0) p0)) + (R 0) then 99 else (wrF (fun t => G (t + 11)) (tW (G 0) p0)) + (R 0)))))] H := hP
        have hD : va_D (Aw [(h0, gC hw G), (hw, wC kA G), (h9, rC R)]) [(h9, rC R), (h0, .inr (0, [.ref hw, .int (nW (G 0) p0), .int (nW (G 1) p0), .int (G 2), .int p0, .int (G 4), .int (if (G 5) - 1 < 0 then 0 else (G 5) - 1), .int ((G 6) + 1), .int (G 7), .int (G 8), .int (G 9), .int (G 10)])), (hw, .inl (kA 0, 24, .inl (wsF (fun t => G (t + 11)) (tW (G 0) p0) (if 99 < (wrF (fun t => G (t + 11)) (tW (G 0) p0)) + (R 0) then 99 else (wrF (fun t => G (t + 11)) (tW (G 0) p0)) + (R 0)))))] := hD
        refine lv_aload_n hx hb dX0_makeStep_174 rfl (lv_at hl 4 rfl) ?_
        refine lv_dup hx hb dX0_makeStep_175 rfl ?_
        refine va_get (ci := 0) (v := .int (G 8)) (C := RX0) (T := TX0) (N := 12) hx hb hts inX0 hown hK hP 1 rfl rfl 9 (by decide) (hts _ q_83) (fun _ h9 => h9) rfl dX0_makeStep_176 ?_
        refine lv_iload hx hb dX0_makeStep_179 (lv_at hl 1 rfl) ?_
        refine lv_iadd hx hb dX0_makeStep_181 ?_
        refine va_put (ci := 0) (v := .int ((G 8) + (tlF (G 2) (wrF (fun t => G (t + 11)) (tW (G 0) p0)) (G 5) (R 1)))) (ty := tyX0 9) (C := RX0) (T := TX0) (N := 12) hx hb hts inX0 tyX0 tyX0_ok nmX0 hown hK hP hD hS 1 rfl rfl 9 (by decide) (hts _ q_83) (fun _ h9 => h9) rfl (tyX0_ok 9 (by decide)) rfl rfl (Nat.le_of_ble_eq_true rfl) dX0_makeStep_182 (fun H locs hP hD hS => ?_)
        have hP : va_P D vwCl [(h9, rC R), (h0, .inr (0, [.ref hw, .int (nW (G 0) p0), .int (nW (G 1) p0), .int (G 2), .int p0, .int (G 4), .int (if (G 5) - 1 < 0 then 0 else (G 5) - 1), .int ((G 6) + 1), .int (G 7), .int ((G 8) + (tlF (G 2) (wrF (fun t => G (t + 11)) (tW (G 0) p0)) (G 5) (R 1))), .int (G 9), .int (G 10)])), (hw, .inl (kA 0, 24, .inl (wsF (fun t => G (t + 11)) (tW (G 0) p0) (if 99 < (wrF (fun t => G (t + 11)) (tW (G 0) p0)) + (R 0) then 99 else (wrF (fun t => G (t + 11)) (tW (G 0) p0)) + (R 0)))))] H := hP
        have hD : va_D (Aw [(h0, gC hw G), (hw, wC kA G), (h9, rC R)]) [(h9, rC R), (h0, .inr (0, [.ref hw, .int (nW (G 0) p0), .int (nW (G 1) p0), .int (G 2), .int p0, .int (G 4), .int (if (G 5) - 1 < 0 then 0 else (G 5) - 1), .int ((G 6) + 1), .int (G 7), .int ((G 8) + (tlF (G 2) (wrF (fun t => G (t + 11)) (tW (G 0) p0)) (G 5) (R 1))), .int (G 9), .int (G 10)])), (hw, .inl (kA 0, 24, .inl (wsF (fun t => G (t + 11)) (tW (G 0) p0) (if 99 < (wrF (fun t => G (t + 11)) (tW (G 0) p0)) + (R 0) then 99 else (wrF (fun t => G (t + 11)) (tW (G 0) p0)) + (R 0)))))] := hD
        refine lv_iload hx hb dX0_makeStep_185 (lv_at hl 1 rfl) ?_
        have hP : va_P D vwCl [(h0, .inr (0, [.ref hw, .int (nW (G 0) p0), .int (nW (G 1) p0), .int (G 2), .int p0, .int (G 4), .int (if (G 5) - 1 < 0 then 0 else (G 5) - 1), .int ((G 6) + 1), .int (G 7), .int ((G 8) + (tlF (G 2) (wrF (fun t => G (t + 11)) (tW (G 0) p0)) (G 5) (R 1))), .int (G 9), .int (G 10)])), (hw, .inl (kA 0, 24, .inl (wsF (fun t => G (t + 11)) (tW (G 0) p0) (if 99 < (wrF (fun t => G (t + 11)) (tW (G 0) p0)) + (R 0) then 99 else (wrF (fun t => G (t + 11)) (tW (G 0) p0)) + (R 0))))), (h9, rC R)] _ := hP.sub [1, 2, 0] rfl
        exact end_fi hx hb hrt hlk hP hS (by first | rfl | (simp only [msR, tollG, gwr, c_1, c_2, c_3, ↓reduceIte, bI]; done) | (simp only [msR, tollG, gwr, c_1, c_2, c_3, ↓reduceIte, bI]; rfl) | (simp [msR, tollG, gwr, c_1, c_2, c_3, bI]; done)) (by intro h; have e9 : msG G R p0 p1 = mkG (nW (G 0) p0) (nW (G 1) p0) (G 2) p0 (G 4) (if (G 5) - 1 < 0 then 0 else (G 5) - 1) ((G 6) + 1) (G 7) ((G 8) + (tlF (G 2) (wrF (fun t => G (t + 11)) (tW (G 0) p0)) (G 5) (R 1))) (G 9) (G 10) (wsF (fun t => G (t + 11)) (tW (G 0) p0) (if 99 < (wrF (fun t => G (t + 11)) (tW (G 0) p0)) + (R 0) then 99 else (wrF (fun t => G (t + 11)) (tW (G 0) p0)) + (R 0))) := (by first | (simp only [msG, stepG, tollG, gwr, turnG, c_1, c_2, c_3, ↓reduceIte, Bool.false_eq_true]; done) | (simp only [msG, stepG, tollG, gwr, turnG, c_1, c_2, c_3, ↓reduceIte, Bool.false_eq_true]; rfl) | (simp [msG, stepG, tollG, gwr, turnG, c_1, c_2, c_3]; done)); rw [e9]; exact h) dX0_makeStep_187
      · exact absurd (bI_n0 c_3) (by rw [c_2]; decide)
    · skip
      replace c_2 := bI_n0 c_2
      refine lv_aload_n hx hb dX0_makeStep_51 rfl (lv_at hl 4 rfl) ?_
      refine lv_dup hx hb dX0_makeStep_52 rfl ?_
      refine va_get (ci := 0) (v := .int (G 9)) (C := RX0) (T := TX0) (N := 12) hx hb hts inX0 hown hK hP 0 rfl rfl 10 (by decide) (hts _ q_84) (fun _ h9 => h9) rfl dX0_makeStep_53 ?_
      refine lv_iconst (v := 1) hx hb dX0_makeStep_56 (by decide) ?_
      refine lv_iadd hx hb dX0_makeStep_57 ?_
      refine va_put (ci := 0) (v := .int ((G 9) + 1)) (ty := tyX0 10) (C := RX0) (T := TX0) (N := 12) hx hb hts inX0 tyX0 tyX0_ok nmX0 hown hK hP hD hS 0 rfl rfl 10 (by decide) (hts _ q_84) (fun _ h9 => h9) rfl (tyX0_ok 10 (by decide)) rfl rfl (Nat.le_of_ble_eq_true rfl) dX0_makeStep_58 (fun H locs hP hD hS => ?_)
      have hP : va_P D vwCl [(h0, .inr (0, [.ref hw, .int (G 0), .int (G 1), .int (G 2), .int (G 3), .int (G 4), .int (G 5), .int (G 6), .int (G 7), .int (G 8), .int ((G 9) + 1), .int (G 10)])), (hw, wC kA G), (h9, rC R)] H := hP
      have hD : va_D (Aw [(h0, gC hw G), (hw, wC kA G), (h9, rC R)]) [(h0, .inr (0, [.ref hw, .int (G 0), .int (G 1), .int (G 2), .int (G 3), .int (G 4), .int (G 5), .int (G 6), .int (G 7), .int (G 8), .int ((G 9) + 1), .int (G 10)])), (hw, wC kA G), (h9, rC R)] := hD
      refine lv_aload_n hx hb dX0_makeStep_61 rfl (lv_at hl 4 rfl) ?_
      refine lv_aload_n hx hb dX0_makeStep_62 rfl (lv_at hl 4 rfl) ?_
      refine va_get (ci := 0) (v := .int (G 4)) (C := RX0) (T := TX0) (N := 12) hx hb hts inX0 hown hK hP 0 rfl rfl 5 (by decide) (hts _ q_77) (fun _ h9 => h9) rfl dX0_makeStep_63 ?_
      refine lv_iconst (v := 1) hx hb dX0_makeStep_66 (by decide) ?_
      refine lv_iadd hx hb dX0_makeStep_67 ?_
      refine lv_bipush (v := 12) hx hb dX0_makeStep_68 (by decide) ?_
      refine va_mmin hx hb (hml.trans hl.1.symm) hown (hts _ q_375) (hts _ q_356) (hts _ q_12) (hts _ q_357) (Nat.le_of_ble_eq_true rfl) (Nat.le_of_ble_eq_true rfl) (Nat.zero_le _) (Nat.zero_le _) dX0_makeStep_70 ?_
      refine va_put (ci := 0) (v := .int (if 12 < (G 4) + 1 then 12 else (G 4) + 1)) (ty := tyX0 5) (C := RX0) (T := TX0) (N := 12) hx hb hts inX0 tyX0 tyX0_ok nmX0 hown hK hP hD hS 0 rfl rfl 5 (by decide) (hts _ q_77) (fun _ h9 => h9) rfl (tyX0_ok 5 (by decide)) rfl rfl (Nat.le_of_ble_eq_true rfl) dX0_makeStep_73 (fun H locs hP hD hS => ?_)
      have hP : va_P D vwCl [(h0, .inr (0, [.ref hw, .int (G 0), .int (G 1), .int (G 2), .int (G 3), .int (if 12 < (G 4) + 1 then 12 else (G 4) + 1), .int (G 5), .int (G 6), .int (G 7), .int (G 8), .int ((G 9) + 1), .int (G 10)])), (hw, wC kA G), (h9, rC R)] H := hP
      have hD : va_D (Aw [(h0, gC hw G), (hw, wC kA G), (h9, rC R)]) [(h0, .inr (0, [.ref hw, .int (G 0), .int (G 1), .int (G 2), .int (G 3), .int (if 12 < (G 4) + 1 then 12 else (G 4) + 1), .int (G 5), .int (G 6), .int (G 7), .int (G 8), .int ((G 9) + 1), .int (G 10)])), (hw, wC kA G), (h9, rC R)] := hD
      refine lv_aload_n hx hb dX0_makeStep_76 rfl (lv_at hl 4 rfl) ?_
      refine lv_aload_n hx hb dX0_makeStep_77 rfl (lv_at hl 4 rfl) ?_
      refine va_get (ci := 0) (v := .int (G 1)) (C := RX0) (T := TX0) (N := 12) hx hb hts inX0 hown hK hP 0 rfl rfl 2 (by decide) (hts _ q_71) (fun _ h9 => h9) rfl dX0_makeStep_78 ?_
      refine lv_iload_n hx hb dX0_makeStep_81 rfl (lv_at hl 5 rfl) ?_
      refine cs_p (runS (As := [.int (G 1), .int p0]) (rest := [.ref h0]) ⟨hx, hb, hml, hown, hts⟩ (m_X0_nextPlace l D kA (G 1) p0 ) q_391 q_392 q_4 q_393 hd_X0_nextPlace ⟨rfl, rfl⟩ ⟨Nat.le_of_ble_eq_true rfl, Nat.le_of_ble_eq_true rfl⟩ hK (ws := []) (hP.sub [] rfl) (hD.sub [] (by decide) rfl) rfl hl.1 rfl (Nat.le_of_ble_eq_true rfl) dX0_makeStep_82 ⟨Nat.zero_le _, Nat.zero_le _⟩) ?_
      refine va_put (ci := 0) (v := .int (nW (G 1) p0)) (ty := tyX0 2) (C := RX0) (T := TX0) (N := 12) hx hb hts inX0 tyX0 tyX0_ok nmX0 hown hK hP hD hS 0 rfl rfl 2 (by decide) (hts _ q_71) (fun _ h9 => h9) rfl (tyX0_ok 2 (by decide)) rfl rfl (Nat.le_of_ble_eq_true rfl) dX0_makeStep_85 (fun H locs hP hD hS => ?_)
      have hP : va_P D vwCl [(h0, .inr (0, [.ref hw, .int (G 0), .int (nW (G 1) p0), .int (G 2), .int (G 3), .int (if 12 < (G 4) + 1 then 12 else (G 4) + 1), .int (G 5), .int (G 6), .int (G 7), .int (G 8), .int ((G 9) + 1), .int (G 10)])), (hw, wC kA G), (h9, rC R)] H := hP
      have hD : va_D (Aw [(h0, gC hw G), (hw, wC kA G), (h9, rC R)]) [(h0, .inr (0, [.ref hw, .int (G 0), .int (nW (G 1) p0), .int (G 2), .int (G 3), .int (if 12 < (G 4) + 1 then 12 else (G 4) + 1), .int (G 5), .int (G 6), .int (G 7), .int (G 8), .int ((G 9) + 1), .int (G 10)])), (hw, wC kA G), (h9, rC R)] := hD
      refine lv_iload hx hb dX0_makeStep_88 (lv_at hl 0 rfl) ?_
      refine lv_if_eq (tgt := 115) hx hb dX0_makeStep_90 (by decide) (fun c_4 => ?_) (fun c_4 => ?_)
      · exact absurd (bI_0.mp c_4) (by rw [c_2]; decide)
      · skip
        replace c_4 := bI_n0 c_4
        refine lv_iload hx hb dX0_makeStep_93 (lv_at hl 2 rfl) ?_
        refine lv_aload_n hx hb dX0_makeStep_95 rfl (lv_at hl 7 rfl) ?_
        refine va_get (ci := 3) (v := .int (R 2)) (C := RX3) (T := TX3) (N := 6) hx hb hts inX3 hown hK hP 2 rfl rfl 2 (by decide) (hts _ q_40) (fun _ h9 => h9) rfl dX0_makeStep_96 ?_
        refine lv_icmp_lt (tgt := 115) hx hb dX0_makeStep_99 (by decide) (fun c_5 => ?_) (fun c_5 => ?_)
        · skip
          refine lv_aload_n hx hb dX0_makeStep_115 rfl (lv_at hl 4 rfl) ?_
          refine lv_aload_n hx hb dX0_makeStep_116 rfl (lv_at hl 4 rfl) ?_
          refine va_get (ci := 0) (v := .int (G 0)) (C := RX0) (T := TX0) (N := 12) hx hb hts inX0 hown hK hP 0 rfl rfl 1 (by decide) (hts _ q_69) (fun _ h9 => h9) rfl dX0_makeStep_117 ?_
          refine lv_iload_n hx hb dX0_makeStep_120 rfl (lv_at hl 5 rfl) ?_
          refine cs_p (runS (As := [.int (G 0), .int p0]) (rest := [.ref h0]) ⟨hx, hb, hml, hown, hts⟩ (m_X0_nextPlace l D kA (G 0) p0 ) q_391 q_392 q_4 q_393 hd_X0_nextPlace ⟨rfl, rfl⟩ ⟨Nat.le_of_ble_eq_true rfl, Nat.le_of_ble_eq_true rfl⟩ hK (ws := []) (hP.sub [] rfl) (hD.sub [] (by decide) rfl) rfl hl.1 rfl (Nat.le_of_ble_eq_true rfl) dX0_makeStep_121 ⟨Nat.zero_le _, Nat.zero_le _⟩) ?_
          refine va_put (ci := 0) (v := .int (nW (G 0) p0)) (ty := tyX0 1) (C := RX0) (T := TX0) (N := 12) hx hb hts inX0 tyX0 tyX0_ok nmX0 hown hK hP hD hS 0 rfl rfl 1 (by decide) (hts _ q_69) (fun _ h9 => h9) rfl (tyX0_ok 1 (by decide)) rfl rfl (Nat.le_of_ble_eq_true rfl) dX0_makeStep_124 (fun H locs hP hD hS => ?_)
          have hP : va_P D vwCl [(h0, .inr (0, [.ref hw, .int (nW (G 0) p0), .int (nW (G 1) p0), .int (G 2), .int (G 3), .int (if 12 < (G 4) + 1 then 12 else (G 4) + 1), .int (G 5), .int (G 6), .int (G 7), .int (G 8), .int ((G 9) + 1), .int (G 10)])), (hw, wC kA G), (h9, rC R)] H := hP
          have hD : va_D (Aw [(h0, gC hw G), (hw, wC kA G), (h9, rC R)]) [(h0, .inr (0, [.ref hw, .int (nW (G 0) p0), .int (nW (G 1) p0), .int (G 2), .int (G 3), .int (if 12 < (G 4) + 1 then 12 else (G 4) + 1), .int (G 5), .int (G 6), .int (G 7), .int (G 8), .int ((G 9) + 1), .int (G 10)])), (hw, wC kA G), (h9, rC R)] := hD
          refine lv_aload_n hx hb dX0_makeStep_127 rfl (lv_at hl 4 rfl) ?_
          refine lv_iload hx hb dX0_makeStep_128 (lv_at hl 3 rfl) ?_
          refine lv_iload hx hb dX0_makeStep_130 (lv_at hl 2 rfl) ?_
          refine lv_aload_n hx hb dX0_makeStep_132 rfl (lv_at hl 7 rfl) ?_
          refine va_get (ci := 3) (v := .int (R 0)) (C := RX3) (T := TX3) (N := 6) hx hb hts inX3 hown hK hP 2 rfl rfl 0 (by decide) (hts _ q_36) (fun _ h9 => h9) rfl dX0_makeStep_133 ?_
          refine lv_iadd hx hb dX0_makeStep_136 ?_
          refine lv_bipush (v := 99) hx hb dX0_makeStep_137 (by decide) ?_
          refine va_mmin hx hb (hml.trans hl.1.symm) hown (hts _ q_375) (hts _ q_356) (hts _ q_12) (hts _ q_357) (Nat.le_of_ble_eq_true rfl) (Nat.le_of_ble_eq_true rfl) (Nat.zero_le _) (Nat.zero_le _) dX0_makeStep_139 ?_
          refine cs_fn (runV (As := [.int (tW (G 0) p0), .int (if 99 < (wrF (fun t => G (t + 11)) (tW (G 0) p0)) + (R 0) then 99 else (wrF (fun t => G (t + 11)) (tW (G 0) p0)) + (R 0))]) (rest := []) ⟨hx, hb, hml, hown, hts⟩ (m_X0_setWear l D kA h0 hw (nW (G 0) p0) (nW (G 1) p0) (G 2) (G 3) (if 12 < (G 4) + 1 then 12 else (G 4) + 1) (G 5) (G 6) (G 7) (G 8) ((G 9) + 1) (G 10) (fun t => G (t + 11)) (tW (G 0) p0) (if 99 < (wrF (fun t => G (t + 11)) (tW (G 0) p0)) + (R 0) then 99 else (wrF (fun t => G (t + 11)) (tW (G 0) p0)) + (R 0)) ) q_394 q_395 q_396 q_4 q_397 hd_X0_setWear ⟨rfl, rfl⟩ ⟨Nat.le_of_ble_eq_true rfl, Nat.le_of_ble_eq_true rfl⟩ hK (ws := [(h0, .inr (0, [.ref hw, .int (nW (G 0) p0), .int (nW (G 1) p0), .int (G 2), .int (G 3), .int (if 12 < (G 4) + 1 then 12 else (G 4) + 1), .int (G 5), .int (G 6), .int (G 7), .int (G 8), .int ((G 9) + 1), .int (G 10)])), (hw, .inl (kA 0, 24, .inl (fun t => G (t + 11))))]) (hP.sub [0, 1] rfl) (hD.sub [0, 1] (by decide) rfl) 0 (ci := 0) (C := RX0) (T := TX0) (N := 12) rfl rfl rfl hl.1 rfl (Nat.le_of_ble_eq_true rfl) dX0_makeStep_142 ⟨Nat.zero_le _, Nat.zero_le _⟩) hS (aw_sub hD (isC := [0, 1]) rfl) (fun H locs hP1 hk1 hS => ?_)
          obtain ⟨hP, hD⟩ := jn (wr := [(h9, rC R)]) (w1 := [(h0, .inr (0, [.ref hw, .int (nW (G 0) p0), .int (nW (G 1) p0), .int (G 2), .int (G 3), .int (if 12 < (G 4) + 1 then 12 else (G 4) + 1), .int (G 5), .int (G 6), .int (G 7), .int (G 8), .int ((G 9) + 1), .int (G 10)])), (hw, .inl (kA 0, 24, .inl (wsF (fun t => G (t + 11)) (tW (G 0) p0) (if 99 < (wrF (fun t => G (t + 11)) (tW (G 0) p0)) + (R 0) then 99 else (wrF (fun t => G (t + 11)) (tW (G 0) p0)) + (R 0)))))]) hP hD [0, 1] [2] rfl rfl (by decide) hk1 hP1 rfl
          have hP : va_P D vwCl [(h9, rC R), (h0, .inr (0, [.ref hw, .int (nW (G 0) p0), .int (nW (G 1) p0), .int (G 2), .int (G 3), .int (if 12 < (G 4) + 1 then 12 else (G 4) + 1), .int (G 5), .int (G 6), .int (G 7), .int (G 8), .int ((G 9) + 1), .int (G 10)])), (hw, .inl (kA 0, 24, .inl (wsF (fun t => G (t + 11)) (tW (G 0) p0) (if 99 < (wrF (fun t => G (t + 11)) (tW (G 0) p0)) + (R 0) then 99 else (wrF (fun t => G (t + 11)) (tW (G 0) p0)) + (R 0)))))] H := hP
          have hD : va_D (Aw [(h0, gC hw G), (hw, wC kA G), (h9, rC R)]) [(h9, rC R), (h0, .inr (0, [.ref hw, .int (nW (G 0) p0), .int (nW (G 1) p0), .int (G 2), .int (G 3), .int (if 12 < (G 4) + 1 then 12 else (G 4) + 1), .int (G 5), .int (G 6), .int (G 7), .int (G 8), .int ((G 9) + 1), .int (G 10)])), (hw, .inl (kA 0, 24, .inl (wsF (fun t => G (t + 11)) (tW (G 0) p0) (if 99 < (wrF (fun t => G (t + 11)) (tW (G 0) p0)) + (R 0) then 99 else (wrF (fun t => G (t + 11)) (tW (G 0) p0)) + (R 0)))))] := hD
          refine lv_aload_n hx hb dX0_makeStep_145 rfl (lv_at hl 4 rfl) ?_
          refine lv_iload_n hx hb dX0_makeStep_146 rfl (lv_at hl 5 rfl) ?_
          refine va_put (ci := 0) (v := .int p0) (ty := tyX0 4) (C := RX0) (T := TX0) (N := 12) hx hb hts inX0 tyX0 tyX0_ok nmX0 hown hK hP hD hS 1 rfl rfl 4 (by decide) (hts _ q_76) (fun _ h9 => h9) rfl (tyX0_ok 4 (by decide)) rfl rfl (Nat.le_of_ble_eq_true rfl) dX0_makeStep_147 (fun H locs hP hD hS => ?_)
          have hP : va_P D vwCl [(h9, rC R), (h0, .inr (0, [.ref hw, .int (nW (G 0) p0), .int (nW (G 1) p0), .int (G 2), .int p0, .int (if 12 < (G 4) + 1 then 12 else (G 4) + 1), .int (G 5), .int (G 6), .int (G 7), .int (G 8), .int ((G 9) + 1), .int (G 10)])), (hw, .inl (kA 0, 24, .inl (wsF (fun t => G (t + 11)) (tW (G 0) p0) (if 99 < (wrF (fun t => G (t + 11)) (tW (G 0) p0)) + (R 0) then 99 else (wrF (fun t => G (t + 11)) (tW (G 0) p0)) + (R 0)))))] H := hP
          have hD : va_D (Aw [(h0, gC hw G), (hw, wC kA G), (h9, rC R)]) [(h9, rC R), (h0, .inr (0, [.ref hw, .int (nW (G 0) p0), .int (nW (G 1) p0), .int (G 2), .int p0, .int (if 12 < (G 4) + 1 then 12 else (G 4) + 1), .int (G 5), .int (G 6), .int (G 7), .int (G 8), .int ((G 9) + 1), .int (G 10)])), (hw, .inl (kA 0, 24, .inl (wsF (fun t => G (t + 11)) (tW (G 0) p0) (if 99 < (wrF (fun t => G (t + 11)) (tW (G 0) p0)) + (R 0) then 99 else (wrF (fun t => G (t + 11)) (tW (G 0) p0)) + (R 0)))))] := hD
          refine lv_aload_n hx hb dX0_makeStep_150 rfl (lv_at hl 4 rfl) ?_
          refine lv_aload_n hx hb dX0_makeStep_151 rfl (lv_at hl 4 rfl) ?_
          refine va_get (ci := 0) (v := .int (G 5)) (C := RX0) (T := TX0) (N := 12) hx hb hts inX0 hown hK hP 1 rfl rfl 6 (by decide) (hts _ q_78) (fun _ h9 => h9) rfl dX0_makeStep_152 ?_
          refine lv_iconst (v := 1) hx hb dX0_makeStep_155 (by decide) ?_
          refine lv_isub hx hb dX0_makeStep_156 ?_
          refine lv_iconst (v := 0) hx hb dX0_makeStep_157 (by decide) ?_
          refine va_mmax hx hb (hml.trans hl.1.symm) hown (hts _ q_398) (hts _ q_399) (hts _ q_12) (hts _ q_400) (Nat.le_of_ble_eq_true rfl) (Nat.le_of_ble_eq_true rfl) (Nat.zero_le _) (Nat.zero_le _) dX0_makeStep_158 ?_
          refine va_put (ci := 0) (v := .int (if (G 5) - 1 < 0 then 0 else (G 5) - 1)) (ty := tyX0 6) (C := RX0) (T := TX0) (N := 12) hx hb hts inX0 tyX0 tyX0_ok nmX0 hown hK hP hD hS 1 rfl rfl 6 (by decide) (hts _ q_78) (fun _ h9 => h9) rfl (tyX0_ok 6 (by decide)) rfl rfl (Nat.le_of_ble_eq_true rfl) dX0_makeStep_161 (fun H locs hP hD hS => ?_)
          have hP : va_P D vwCl [(h9, rC R), (h0, .inr (0, [.ref hw, .int (nW (G 0) p0), .int (nW (G 1) p0), .int (G 2), .int p0, .int (if 12 < (G 4) + 1 then 12 else (G 4) + 1), .int (if (G 5) - 1 < 0 then 0 else (G 5) - 1), .int (G 6), .int (G 7), .int (G 8), .int ((G 9) + 1), .int (G 10)])), (hw, .inl (kA 0, 24, .inl (wsF (fun t => G (t + 11)) (tW (G 0) p0) (if 99 < (wrF (fun t => G (t + 11)) (tW (G 0) p0)) + (R 0) then 99 else (wrF (fun t => G (t + 11)) (tW (G 0) p0)) + (R 0)))))] H := hP
          have hD : va_D (Aw [(h0, gC hw G), (hw, wC kA G), (h9, rC R)]) [(h9, rC R), (h0, .inr (0, [.ref hw, .int (nW (G 0) p0), .int (nW (G 1) p0), .int (G 2), .int p0, .int (if 12 < (G 4) + 1 then 12 else (G 4) + 1), .int (if (G 5) - 1 < 0 then 0 else (G 5) - 1), .int (G 6), .int (G 7), .int (G 8), .int ((G 9) + 1), .int (G 10)])), (hw, .inl (kA 0, 24, .inl (wsF (fun t => G (t + 11)) (tW (G 0) p0) (if 99 < (wrF (fun t => G (t + 11)) (tW (G 0) p0)) + (R 0) then 99 else (wrF (fun t => G (t + 11)) (tW (G 0) p0)) + (R 0)))))] := hD
          refine lv_aload_n hx hb dX0_makeStep_164 rfl (lv_at hl 4 rfl) ?_
          refine lv_dup hx hb dX0_makeStep_165 rfl ?_
          refine va_get (ci := 0) (v := .int (G 6)) (C := RX0) (T := TX0) (N := 12) hx hb hts inX0 hown hK hP 1 rfl rfl 7 (by decide) (hts _ q_80) (fun _ h9 => h9) rfl dX0_makeStep_166 ?_
          refine lv_iconst (v := 1) hx hb dX0_makeStep_169 (by decide) ?_
          refine lv_iadd hx hb dX0_makeStep_170 ?_
          refine va_put (ci := 0) (v := .int ((G 6) + 1)) (ty := tyX0 7) (C := RX0) (T := TX0) (N := 12) hx hb hts inX0 tyX0 tyX0_ok nmX0 hown hK hP hD hS 1 rfl rfl 7 (by decide) (hts _ q_80) (fun _ h9 => h9) rfl (tyX0_ok 7 (by decide)) rfl rfl (Nat.le_of_ble_eq_true rfl) dX0_makeStep_171 (fun H locs hP hD hS => ?_)
          have hP : va_P D vwCl [(h9, rC R), (h0, .inr (0, [.ref hw, .int (nW (G 0) p0), .int (nW (G 1) p0), .int (G 2), .int p0, .int (if 12 < (G 4) + 1 then 12 else (G 4) + 1), .int (if (G 5) - 1 < 0 then 0 else (G 5) - 1), .int ((G 6) + 1), .int (G 7), .int (G 8), .int ((G 9) + 1), .int (G 10)])), (hw, .inl (kA 0, 24, .inl (wsF (fun t => G (t + 11)) (tW (G 0) p0) (if 99 < (wrF (fun t => G (t + 11)) (tW (G 0) p0)) + (R 0) then 99 else (wrF (fun t => G (t + 11)) (tW (G 0) p0)) + (R 0)))))] H := hP
          have hD : va_D (Aw [(h0, gC hw G), (hw, wC kA G), (h9, rC R)]) [(h9, rC R), (h0, .inr (0, [.ref hw, .int (nW (G 0) p0), .int (nW (G 1) p0), .int (G 2), .int p0, .int (if 12 < (G 4) + 1 then 12 else (G 4) + 1), .int (if (G 5) - 1 < 0 then 0 else (G 5) - 1), .int ((G 6) + 1), .int (G 7), .int (G 8), .int ((G 9) + 1), .int (G 10)])), (hw, .inl (kA 0, 24, .inl (wsF (fun t => G (t + 11)) (tW (G 0) p0) (if 99 < (wrF (fun t => G (t + 11)) (tW (G 0) p0)) + (R 0) then 99 else (wrF (fun t => G (t + 11)) (tW (G 0) p0)) + (R 0)))))] := hD
          refine lv_aload_n hx hb dX0_makeStep_174 rfl (lv_at hl 4 rfl) ?_
          refine lv_dup hx hb dX0_makeStep_175 rfl ?_
          refine va_get (ci := 0) (v := .int (G 8)) (C := RX0) (T := TX0) (N := 12) hx hb hts inX0 hown hK hP 1 rfl rfl 9 (by decide) (hts _ q_83) (fun _ h9 => h9) rfl dX0_makeStep_176 ?_
          refine lv_iload hx hb dX0_makeStep_179 (lv_at hl 1 rfl) ?_
          refine lv_iadd hx hb dX0_makeStep_181 ?_
          refine va_put (ci := 0) (v := .int ((G 8) + (tlF (G 2) (wrF (fun t => G (t + 11)) (tW (G 0) p0)) (G 5) (R 1)))) (ty := tyX0 9) (C := RX0) (T := TX0) (N := 12) hx hb hts inX0 tyX0 tyX0_ok nmX0 hown hK hP hD hS 1 rfl rfl 9 (by decide) (hts _ q_83) (fun _ h9 => h9) rfl (tyX0_ok 9 (by decide)) rfl rfl (Nat.le_of_ble_eq_true rfl) dX0_makeStep_182 (fun H locs hP hD hS => ?_)
          have hP : va_P D vwCl [(h9, rC R), (h0, .inr (0, [.ref hw, .int (nW (G 0) p0), .int (nW (G 1) p0), .int (G 2), .int p0, .int (if 12 < (G 4) + 1 then 12 else (G 4) + 1), .int (if (G 5) - 1 < 0 then 0 else (G 5) - 1), .int ((G 6) + 1), .int (G 7), .int ((G 8) + (tlF (G 2) (wrF (fun t => G (t + 11)) (tW (G 0) p0)) (G 5) (R 1))), .int ((G 9) + 1), .int (G 10)])), (hw, .inl (kA 0, 24, .inl (wsF (fun t => G (t + 11)) (tW (G 0) p0) (if 99 < (wrF (fun t => G (t + 11)) (tW (G 0) p0)) + (R 0) then 99 else (wrF (fun t => G (t + 11)) (tW (G 0) p0)) + (R 0)))))] H := hP
          have hD : va_D (Aw [(h0, gC hw G), (hw, wC kA G), (h9, rC R)]) [(h9, rC R), (h0, .inr (0, [.ref hw, .int (nW (G 0) p0), .int (nW (G 1) p0), .int (G 2), .int p0, .int (if 12 < (G 4) + 1 then 12 else (G 4) + 1), .int (if (G 5) - 1 < 0 then 0 else (G 5) - 1), .int ((G 6) + 1), .int (G 7), .int ((G 8) + (tlF (G 2) (wrF (fun t => G (t + 11)) (tW (G 0) p0)) (G 5) (R 1))), .int ((G 9) + 1), .int (G 10)])), (hw, .inl (kA 0, 24, .inl (wsF (fun t => G (t + 11)) (tW (G 0) p0) (if 99 < (wrF (fun t => G (t + 11)) (tW (G 0) p0)) + (R 0) then 99 else (wrF (fun t => G (t + 11)) (tW (G 0) p0)) + (R 0)))))] := hD
          refine lv_iload hx hb dX0_makeStep_185 (lv_at hl 1 rfl) ?_
          have hP : va_P D vwCl [(h0, .inr (0, [.ref hw, .int (nW (G 0) p0), .int (nW (G 1) p0), .int (G 2), .int p0, .int (if 12 < (G 4) + 1 then 12 else (G 4) + 1), .int (if (G 5) - 1 < 0 then 0 else (G 5) - 1), .int ((G 6) + 1), .int (G 7), .int ((G 8) + (tlF (G 2) (wrF (fun t => G (t + 11)) (tW (G 0) p0)) (G 5) (R 1))), .int ((G 9) + 1), .int (G 10)])), (hw, .inl (kA 0, 24, .inl (wsF (fun t => G (t + 11)) (tW (G 0) p0) (if 99 < (wrF (fun t => G (t + 11)) (tW (G 0) p0)) + (R 0) then 99 else (wrF (fun t => G (t + 11)) (tW (G 0) p0)) + (R 0))))), (h9, rC R)] _ := hP.sub [1, 2, 0] rfl
          exact end_fi hx hb hrt hlk hP hS (by first | rfl | (simp only [msR, tollG, gwr, c_1, c_2, c_4, c_5, ↓reduceIte, bI]; done) | (simp only [msR, tollG, gwr, c_1, c_2, c_4, c_5, ↓reduceIte, bI]; rfl) | (simp [msR, tollG, gwr, c_1, c_2, c_4, c_5, bI]; done)) (by intro h; have e9 : msG G R p0 p1 = mkG (nW (G 0) p0) (nW (G 1) p0) (G 2) p0 (if 12 < (G 4) + 1 then 12 else (G 4) + 1) (if (G 5) - 1 < 0 then 0 else (G 5) - 1) ((G 6) + 1) (G 7) ((G 8) + (tlF (G 2) (wrF (fun t => G (t + 11)) (tW (G 0) p0)) (G 5) (R 1))) ((G 9) + 1) (G 10) (wsF (fun t => G (t + 11)) (tW (G 0) p0) (if 99 < (wrF (fun t => G (t + 11)) (tW (G 0) p0)) + (R 0) then 99 else (wrF (fun t => G (t + 11)) (tW (G 0) p0)) + (R 0))) := (by first | (simp only [msG, stepG, tollG, gwr, turnG, c_1, c_2, c_4, c_5, ↓reduceIte, Bool.false_eq_true]; done) | (simp only [msG, stepG, tollG, gwr, turnG, c_1, c_2, c_4, c_5, ↓reduceIte, Bool.false_eq_true]; rfl) | (simp [msG, stepG, tollG, gwr, turnG, c_1, c_2, c_4, c_5]; done)); rw [e9]; exact h) dX0_makeStep_187
        · skip
          refine lv_aload_n hx hb dX0_makeStep_102 rfl (lv_at hl 4 rfl) ?_
          refine lv_dup hx hb dX0_makeStep_103 rfl ?_
          refine va_get (ci := 0) (v := .int (G 7)) (C := RX0) (T := TX0) (N := 12) hx hb hts inX0 hown hK hP 0 rfl rfl 8 (by decide) (hts _ q_82) (fun _ h9 => h9) rfl dX0_makeStep_104 ?_
          refine lv_iconst (v := 1) hx hb dX0_makeStep_107 (by decide) ?_
          refine lv_iadd hx hb dX0_makeStep_108 ?_
          refine va_put (ci := 0) (v := .int ((G 7) + 1)) (ty := tyX0 8) (C := RX0) (T := TX0) (N := 12) hx hb hts inX0 tyX0 tyX0_ok nmX0 hown hK hP hD hS 0 rfl rfl 8 (by decide) (hts _ q_82) (fun _ h9 => h9) rfl (tyX0_ok 8 (by decide)) rfl rfl (Nat.le_of_ble_eq_true rfl) dX0_makeStep_109 (fun H locs hP hD hS => ?_)
          have hP : va_P D vwCl [(h0, .inr (0, [.ref hw, .int (G 0), .int (nW (G 1) p0), .int (G 2), .int (G 3), .int (if 12 < (G 4) + 1 then 12 else (G 4) + 1), .int (G 5), .int (G 6), .int ((G 7) + 1), .int (G 8), .int ((G 9) + 1), .int (G 10)])), (hw, wC kA G), (h9, rC R)] H := hP
          have hD : va_D (Aw [(h0, gC hw G), (hw, wC kA G), (h9, rC R)]) [(h0, .inr (0, [.ref hw, .int (G 0), .int (nW (G 1) p0), .int (G 2), .int (G 3), .int (if 12 < (G 4) + 1 then 12 else (G 4) + 1), .int (G 5), .int (G 6), .int ((G 7) + 1), .int (G 8), .int ((G 9) + 1), .int (G 10)])), (hw, wC kA G), (h9, rC R)] := hD
          refine lv_goto (tgt := 127) hx hb dX0_makeStep_112 (by decide) ?_
          refine lv_aload_n hx hb dX0_makeStep_127 rfl (lv_at hl 4 rfl) ?_
          refine lv_iload hx hb dX0_makeStep_128 (lv_at hl 3 rfl) ?_
          refine lv_iload hx hb dX0_makeStep_130 (lv_at hl 2 rfl) ?_
          refine lv_aload_n hx hb dX0_makeStep_132 rfl (lv_at hl 7 rfl) ?_
          refine va_get (ci := 3) (v := .int (R 0)) (C := RX3) (T := TX3) (N := 6) hx hb hts inX3 hown hK hP 2 rfl rfl 0 (by decide) (hts _ q_36) (fun _ h9 => h9) rfl dX0_makeStep_133 ?_
          refine lv_iadd hx hb dX0_makeStep_136 ?_
          refine lv_bipush (v := 99) hx hb dX0_makeStep_137 (by decide) ?_
          refine va_mmin hx hb (hml.trans hl.1.symm) hown (hts _ q_375) (hts _ q_356) (hts _ q_12) (hts _ q_357) (Nat.le_of_ble_eq_true rfl) (Nat.le_of_ble_eq_true rfl) (Nat.zero_le _) (Nat.zero_le _) dX0_makeStep_139 ?_
          refine cs_fn (runV (As := [.int (tW (G 0) p0), .int (if 99 < (wrF (fun t => G (t + 11)) (tW (G 0) p0)) + (R 0) then 99 else (wrF (fun t => G (t + 11)) (tW (G 0) p0)) + (R 0))]) (rest := []) ⟨hx, hb, hml, hown, hts⟩ (m_X0_setWear l D kA h0 hw (G 0) (nW (G 1) p0) (G 2) (G 3) (if 12 < (G 4) + 1 then 12 else (G 4) + 1) (G 5) (G 6) ((G 7) + 1) (G 8) ((G 9) + 1) (G 10) (fun t => G (t + 11)) (tW (G 0) p0) (if 99 < (wrF (fun t => G (t + 11)) (tW (G 0) p0)) + (R 0) then 99 else (wrF (fun t => G (t + 11)) (tW (G 0) p0)) + (R 0)) ) q_394 q_395 q_396 q_4 q_397 hd_X0_setWear ⟨rfl, rfl⟩ ⟨Nat.le_of_ble_eq_true rfl, Nat.le_of_ble_eq_true rfl⟩ hK (ws := [(h0, .inr (0, [.ref hw, .int (G 0), .int (nW (G 1) p0), .int (G 2), .int (G 3), .int (if 12 < (G 4) + 1 then 12 else (G 4) + 1), .int (G 5), .int (G 6), .int ((G 7) + 1), .int (G 8), .int ((G 9) + 1), .int (G 10)])), (hw, .inl (kA 0, 24, .inl (fun t => G (t + 11))))]) (hP.sub [0, 1] rfl) (hD.sub [0, 1] (by decide) rfl) 0 (ci := 0) (C := RX0) (T := TX0) (N := 12) rfl rfl rfl hl.1 rfl (Nat.le_of_ble_eq_true rfl) dX0_makeStep_142 ⟨Nat.zero_le _, Nat.zero_le _⟩) hS (aw_sub hD (isC := [0, 1]) rfl) (fun H locs hP1 hk1 hS => ?_)
          obtain ⟨hP, hD⟩ := jn (wr := [(h9, rC R)]) (w1 := [(h0, .inr (0, [.ref hw, .int (G 0), .int (nW (G 1) p0), .int (G 2), .int (G 3), .int (if 12 < (G 4) + 1 then 12 else (G 4) + 1), .int (G 5), .int (G 6), .int ((G 7) + 1), .int (G 8), .int ((G 9) + 1), .int (G 10)])), (hw, .inl (kA 0, 24, .inl (wsF (fun t => G (t + 11)) (tW (G 0) p0) (if 99 < (wrF (fun t => G (t + 11)) (tW (G 0) p0)) + (R 0) then 99 else (wrF (fun t => G (t + 11)) (tW (G 0) p0)) + (R 0)))))]) hP hD [0, 1] [2] rfl rfl (by decide) hk1 hP1 rfl
          have hP : va_P D vwCl [(h9, rC R), (h0, .inr (0, [.ref hw, .int (G 0), .int (nW (G 1) p0), .int (G 2), .int (G 3), .int (if 12 < (G 4) + 1 then 12 else (G 4) + 1), .int (G 5), .int (G 6), .int ((G 7) + 1), .int (G 8), .int ((G 9) + 1), .int (G 10)])), (hw, .inl (kA 0, 24, .inl (wsF (fun t => G (t + 11)) (tW (G 0) p0) (if 99 < (wrF (fun t => G (t + 11)) (tW (G 0) p0)) + (R 0) then 99 else (wrF (fun t => G (t + 11)) (tW (G 0) p0)) + (R 0)))))] H := hP
          have hD : va_D (Aw [(h0, gC hw G), (hw, wC kA G), (h9, rC R)]) [(h9, rC R), (h0, .inr (0, [.ref hw, .int (G 0), .int (nW (G 1) p0), .int (G 2), .int (G 3), .int (if 12 < (G 4) + 1 then 12 else (G 4) + 1), .int (G 5), .int (G 6), .int ((G 7) + 1), .int (G 8), .int ((G 9) + 1), .int (G 10)])), (hw, .inl (kA 0, 24, .inl (wsF (fun t => G (t + 11)) (tW (G 0) p0) (if 99 < (wrF (fun t => G (t + 11)) (tW (G 0) p0)) + (R 0) then 99 else (wrF (fun t => G (t + 11)) (tW (G 0) p0)) + (R 0)))))] := hD
          refine lv_aload_n hx hb dX0_makeStep_145 rfl (lv_at hl 4 rfl) ?_
          refine lv_iload_n hx hb dX0_makeStep_146 rfl (lv_at hl 5 rfl) ?_
          refine va_put (ci := 0) (v := .int p0) (ty := tyX0 4) (C := RX0) (T := TX0) (N := 12) hx hb hts inX0 tyX0 tyX0_ok nmX0 hown hK hP hD hS 1 rfl rfl 4 (by decide) (hts _ q_76) (fun _ h9 => h9) rfl (tyX0_ok 4 (by decide)) rfl rfl (Nat.le_of_ble_eq_true rfl) dX0_makeStep_147 (fun H locs hP hD hS => ?_)
          have hP : va_P D vwCl [(h9, rC R), (h0, .inr (0, [.ref hw, .int (G 0), .int (nW (G 1) p0), .int (G 2), .int p0, .int (if 12 < (G 4) + 1 then 12 else (G 4) + 1), .int (G 5), .int (G 6), .int ((G 7) + 1), .int (G 8), .int ((G 9) + 1), .int (G 10)])), (hw, .inl (kA 0, 24, .inl (wsF (fun t => G (t + 11)) (tW (G 0) p0) (if 99 < (wrF (fun t => G (t + 11)) (tW (G 0) p0)) + (R 0) then 99 else (wrF (fun t => G (t + 11)) (tW (G 0) p0)) + (R 0)))))] H := hP
          have hD : va_D (Aw [(h0, gC hw G), (hw, wC kA G), (h9, rC R)]) [(h9, rC R), (h0, .inr (0, [.ref hw, .int (G 0), .int (nW (G 1) p0), .int (G 2), .int p0, .int (if 12 < (G 4) + 1 then 12 else (G 4) + 1), .int (G 5), .int (G 6), .int ((G 7) + 1), .int (G 8), .int ((G 9) + 1), .int (G 10)])), (hw, .inl (kA 0, 24, .inl (wsF (fun t => G (t + 11)) (tW (G 0) p0) (if 99 < (wrF (fun t => G (t + 11)) (tW (G 0) p0)) + (R 0) then 99 else (wrF (fun t => G (t + 11)) (tW (G 0) p0)) + (R 0)))))] := hD
          refine lv_aload_n hx hb dX0_makeStep_150 rfl (lv_at hl 4 rfl) ?_
          refine lv_aload_n hx hb dX0_makeStep_151 rfl (lv_at hl 4 rfl) ?_
          refine va_get (ci := 0) (v := .int (G 5)) (C := RX0) (T := TX0) (N := 12) hx hb hts inX0 hown hK hP 1 rfl rfl 6 (by decide) (hts _ q_78) (fun _ h9 => h9) rfl dX0_makeStep_152 ?_
          refine lv_iconst (v := 1) hx hb dX0_makeStep_155 (by decide) ?_
          refine lv_isub hx hb dX0_makeStep_156 ?_
          refine lv_iconst (v := 0) hx hb dX0_makeStep_157 (by decide) ?_
          refine va_mmax hx hb (hml.trans hl.1.symm) hown (hts _ q_398) (hts _ q_399) (hts _ q_12) (hts _ q_400) (Nat.le_of_ble_eq_true rfl) (Nat.le_of_ble_eq_true rfl) (Nat.zero_le _) (Nat.zero_le _) dX0_makeStep_158 ?_
          refine va_put (ci := 0) (v := .int (if (G 5) - 1 < 0 then 0 else (G 5) - 1)) (ty := tyX0 6) (C := RX0) (T := TX0) (N := 12) hx hb hts inX0 tyX0 tyX0_ok nmX0 hown hK hP hD hS 1 rfl rfl 6 (by decide) (hts _ q_78) (fun _ h9 => h9) rfl (tyX0_ok 6 (by decide)) rfl rfl (Nat.le_of_ble_eq_true rfl) dX0_makeStep_161 (fun H locs hP hD hS => ?_)
          have hP : va_P D vwCl [(h9, rC R), (h0, .inr (0, [.ref hw, .int (G 0), .int (nW (G 1) p0), .int (G 2), .int p0, .int (if 12 < (G 4) + 1 then 12 else (G 4) + 1), .int (if (G 5) - 1 < 0 then 0 else (G 5) - 1), .int (G 6), .int ((G 7) + 1), .int (G 8), .int ((G 9) + 1), .int (G 10)])), (hw, .inl (kA 0, 24, .inl (wsF (fun t => G (t + 11)) (tW (G 0) p0) (if 99 < (wrF (fun t => G (t + 11)) (tW (G 0) p0)) + (R 0) then 99 else (wrF (fun t => G (t + 11)) (tW (G 0) p0)) + (R 0)))))] H := hP
          have hD : va_D (Aw [(h0, gC hw G), (hw, wC kA G), (h9, rC R)]) [(h9, rC R), (h0, .inr (0, [.ref hw, .int (G 0), .int (nW (G 1) p0), .int (G 2), .int p0, .int (if 12 < (G 4) + 1 then 12 else (G 4) + 1), .int (if (G 5) - 1 < 0 then 0 else (G 5) - 1), .int (G 6), .int ((G 7) + 1), .int (G 8), .int ((G 9) + 1), .int (G 10)])), (hw, .inl (kA 0, 24, .inl (wsF (fun t => G (t + 11)) (tW (G 0) p0) (if 99 < (wrF (fun t => G (t + 11)) (tW (G 0) p0)) + (R 0) then 99 else (wrF (fun t => G (t + 11)) (tW (G 0) p0)) + (R 0)))))] := hD
          refine lv_aload_n hx hb dX0_makeStep_164 rfl (lv_at hl 4 rfl) ?_
          refine lv_dup hx hb dX0_makeStep_165 rfl ?_
          refine va_get (ci := 0) (v := .int (G 6)) (C := RX0) (T := TX0) (N := 12) hx hb hts inX0 hown hK hP 1 rfl rfl 7 (by decide) (hts _ q_80) (fun _ h9 => h9) rfl dX0_makeStep_166 ?_
          refine lv_iconst (v := 1) hx hb dX0_makeStep_169 (by decide) ?_
          refine lv_iadd hx hb dX0_makeStep_170 ?_
          refine va_put (ci := 0) (v := .int ((G 6) + 1)) (ty := tyX0 7) (C := RX0) (T := TX0) (N := 12) hx hb hts inX0 tyX0 tyX0_ok nmX0 hown hK hP hD hS 1 rfl rfl 7 (by decide) (hts _ q_80) (fun _ h9 => h9) rfl (tyX0_ok 7 (by decide)) rfl rfl (Nat.le_of_ble_eq_true rfl) dX0_makeStep_171 (fun H locs hP hD hS => ?_)
          have hP : va_P D vwCl [(h9, rC R), (h0, .inr (0, [.ref hw, .int (G 0), .int (nW (G 1) p0), .int (G 2), .int p0, .int (if 12 < (G 4) + 1 then 12 else (G 4) + 1), .int (if (G 5) - 1 < 0 then 0 else (G 5) - 1), .int ((G 6) + 1), .int ((G 7) + 1), .int (G 8), .int ((G 9) + 1), .int (G 10)])), (hw, .inl (kA 0, 24, .inl (wsF (fun t => G (t + 11)) (tW (G 0) p0) (if 99 < (wrF (fun t => G (t + 11)) (tW (G 0) p0)) + (R 0) then 99 else (wrF (fun t => G (t + 11)) (tW (G 0) p0)) + (R 0)))))] H := hP
          have hD : va_D (Aw [(h0, gC hw G), (hw, wC kA G), (h9, rC R)]) [(h9, rC R), (h0, .inr (0, [.ref hw, .int (G 0), .int (nW (G 1) p0), .int (G 2), .int p0, .int (if 12 < (G 4) + 1 then 12 else (G 4) + 1), .int (if (G 5) - 1 < 0 then 0 else (G 5) - 1), .int ((G 6) + 1), .int ((G 7) + 1), .int (G 8), .int ((G 9) + 1), .int (G 10)])), (hw, .inl (kA 0, 24, .inl (wsF (fun t => G (t + 11)) (tW (G 0) p0) (if 99 < (wrF (fun t => G (t + 11)) (tW (G 0) p0)) + (R 0) then 99 else (wrF (fun t => G (t + 11)) (tW (G 0) p0)) + (R 0)))))] := hD
          refine lv_aload_n hx hb dX0_makeStep_174 rfl (lv_at hl 4 rfl) ?_
          refine lv_dup hx hb dX0_makeStep_175 rfl ?_
          refine va_get (ci := 0) (v := .int (G 8)) (C := RX0) (T := TX0) (N := 12) hx hb hts inX0 hown hK hP 1 rfl rfl 9 (by decide) (hts _ q_83) (fun _ h9 => h9) rfl dX0_makeStep_176 ?_
          refine lv_iload hx hb dX0_makeStep_179 (lv_at hl 1 rfl) ?_
          refine lv_iadd hx hb dX0_makeStep_181 ?_
          refine va_put (ci := 0) (v := .int ((G 8) + (tlF (G 2) (wrF (fun t => G (t + 11)) (tW (G 0) p0)) (G 5) (R 1)))) (ty := tyX0 9) (C := RX0) (T := TX0) (N := 12) hx hb hts inX0 tyX0 tyX0_ok nmX0 hown hK hP hD hS 1 rfl rfl 9 (by decide) (hts _ q_83) (fun _ h9 => h9) rfl (tyX0_ok 9 (by decide)) rfl rfl (Nat.le_of_ble_eq_true rfl) dX0_makeStep_182 (fun H locs hP hD hS => ?_)
          have hP : va_P D vwCl [(h9, rC R), (h0, .inr (0, [.ref hw, .int (G 0), .int (nW (G 1) p0), .int (G 2), .int p0, .int (if 12 < (G 4) + 1 then 12 else (G 4) + 1), .int (if (G 5) - 1 < 0 then 0 else (G 5) - 1), .int ((G 6) + 1), .int ((G 7) + 1), .int ((G 8) + (tlF (G 2) (wrF (fun t => G (t + 11)) (tW (G 0) p0)) (G 5) (R 1))), .int ((G 9) + 1), .int (G 10)])), (hw, .inl (kA 0, 24, .inl (wsF (fun t => G (t + 11)) (tW (G 0) p0) (if 99 < (wrF (fun t => G (t + 11)) (tW (G 0) p0)) + (R 0) then 99 else (wrF (fun t => G (t + 11)) (tW (G 0) p0)) + (R 0)))))] H := hP
          have hD : va_D (Aw [(h0, gC hw G), (hw, wC kA G), (h9, rC R)]) [(h9, rC R), (h0, .inr (0, [.ref hw, .int (G 0), .int (nW (G 1) p0), .int (G 2), .int p0, .int (if 12 < (G 4) + 1 then 12 else (G 4) + 1), .int (if (G 5) - 1 < 0 then 0 else (G 5) - 1), .int ((G 6) + 1), .int ((G 7) + 1), .int ((G 8) + (tlF (G 2) (wrF (fun t => G (t + 11)) (tW (G 0) p0)) (G 5) (R 1))), .int ((G 9) + 1), .int (G 10)])), (hw, .inl (kA 0, 24, .inl (wsF (fun t => G (t + 11)) (tW (G 0) p0) (if 99 < (wrF (fun t => G (t + 11)) (tW (G 0) p0)) + (R 0) then 99 else (wrF (fun t => G (t + 11)) (tW (G 0) p0)) + (R 0)))))] := hD
          refine lv_iload hx hb dX0_makeStep_185 (lv_at hl 1 rfl) ?_
          have hP : va_P D vwCl [(h0, .inr (0, [.ref hw, .int (G 0), .int (nW (G 1) p0), .int (G 2), .int p0, .int (if 12 < (G 4) + 1 then 12 else (G 4) + 1), .int (if (G 5) - 1 < 0 then 0 else (G 5) - 1), .int ((G 6) + 1), .int ((G 7) + 1), .int ((G 8) + (tlF (G 2) (wrF (fun t => G (t + 11)) (tW (G 0) p0)) (G 5) (R 1))), .int ((G 9) + 1), .int (G 10)])), (hw, .inl (kA 0, 24, .inl (wsF (fun t => G (t + 11)) (tW (G 0) p0) (if 99 < (wrF (fun t => G (t + 11)) (tW (G 0) p0)) + (R 0) then 99 else (wrF (fun t => G (t + 11)) (tW (G 0) p0)) + (R 0))))), (h9, rC R)] _ := hP.sub [1, 2, 0] rfl
          exact end_fi hx hb hrt hlk hP hS (by first | rfl | (simp only [msR, tollG, gwr, c_1, c_2, c_4, c_5, ↓reduceIte, bI]; done) | (simp only [msR, tollG, gwr, c_1, c_2, c_4, c_5, ↓reduceIte, bI]; rfl) | (simp [msR, tollG, gwr, c_1, c_2, c_4, c_5, bI]; done)) (by intro h; have e9 : msG G R p0 p1 = mkG (G 0) (nW (G 1) p0) (G 2) p0 (if 12 < (G 4) + 1 then 12 else (G 4) + 1) (if (G 5) - 1 < 0 then 0 else (G 5) - 1) ((G 6) + 1) ((G 7) + 1) ((G 8) + (tlF (G 2) (wrF (fun t => G (t + 11)) (tW (G 0) p0)) (G 5) (R 1))) ((G 9) + 1) (G 10) (wsF (fun t => G (t + 11)) (tW (G 0) p0) (if 99 < (wrF (fun t => G (t + 11)) (tW (G 0) p0)) + (R 0) then 99 else (wrF (fun t => G (t + 11)) (tW (G 0) p0)) + (R 0))) := (by first | (simp only [msG, stepG, tollG, gwr, turnG, c_1, c_2, c_4, c_5, ↓reduceIte, Bool.false_eq_true]; done) | (simp only [msG, stepG, tollG, gwr, turnG, c_1, c_2, c_4, c_5, ↓reduceIte, Bool.false_eq_true]; rfl) | (simp [msG, stepG, tollG, gwr, turnG, c_1, c_2, c_4, c_5]; done)); rw [e9]; exact h) dX0_makeStep_187
  · skip
    replace c_1 := nge_l c_1
    refine lv_iconst (v := 0) hx hb dX0_makeStep_37 (by decide) ?_
    have hP : va_P D vwCl [(h0, gC hw G), (hw, wC kA G), (h9, rC R)] _ := hP.sub [0, 1, 2] rfl
    exact end_fi hx hb hrt hlk hP hS (by first | rfl | (simp only [msR, tollG, gwr, c_1, ↓reduceIte, bI]; done) | (simp only [msR, tollG, gwr, c_1, ↓reduceIte, bI]; rfl) | (simp [msR, tollG, gwr, c_1, bI]; done)) (by intro h; have e9 : msG G R p0 p1 = G := (by first | (simp only [msG, stepG, tollG, gwr, turnG, c_1, ↓reduceIte, Bool.false_eq_true]; done) | (simp only [msG, stepG, tollG, gwr, turnG, c_1, ↓reduceIte, Bool.false_eq_true]; rfl) | (simp [msG, stepG, tollG, gwr, turnG, c_1]; done)); rw [e9]; exact h) dX0_makeStep_38

theorem hd_X0_makeHomed : yX0_makeHomed.cls ≠ "java/lang/invoke/MethodHandle" ∧ yX0_makeHomed.cls ≠ "java/lang/invoke/VarHandle" ∧ (parseMethodDescriptor yX0_makeHomed.desc).map (fun d => d.parameters.length) = some 2 := by decide +kernel
set_option maxRecDepth 100000 in
set_option maxHeartbeats 4000000 in
theorem m_X0_makeHomed (l : Launch) (D : va_G) (kA : Nat → Nat) (h0 : Nat) (hw : Nat) (G : Nat → Int32) (h9 : Nat) (R : Nat → Int32) (p0 : Int32) : Met l yX0_makeHomed (Cond.code yX0_makeHomed cX0_makeHomed 6 (some .int) :: AW) ({ frames := 2, cells := 0, slots := 0, locals := 51 } : Room) (Pz [.ref h0, .int p0, .ref h9] D (TY kA) [(h0, gC hw G), (hw, wC kA G), (h9, rC R)]) (fQ (some (.int (hmP G R p0))) D [(h0, gC hw G), (hw, wC kA G), (h9, rC R)] [(h0, gC hw (hmG G R p0)), (hw, wC kA (hmG G R p0)), (h9, rC R)]) 0 0 (Aw [(h0, gC hw G), (hw, wC kA G), (h9, rC R)]) := by
  refine MetZ (by decide +kernel) (Nat.le_of_ble_eq_true rfl) ?_
  intro p e s m below meth c ls hx hb hrt hts hown hml hlk hnm hP hK hD hS hl
  have hl : lv_has ls 6 [(0, .ref h0), (1, .int p0), (2, .ref h9)] := hl
  refine lv_iconst (v := 0) hx hb dX0_makeHomed_0 (by decide) ?_
  refine lv_istore_n (lv' := [(3, .int 0), (0, .ref h0), (1, .int p0), (2, .ref h9)]) hx hb dX0_makeHomed_1 rfl hl (by decide) rfl (fun ls hl => ?_)
  refine lv_iconst (v := 0) hx hb dX0_makeHomed_2 (by decide) ?_
  refine lv_istore (lv' := [(4, .int 0), (3, .int 0), (0, .ref h0), (1, .int p0), (2, .ref h9)]) hx hb dX0_makeHomed_3 hl (by decide) rfl (fun ls hl => ?_)
  have loop_5 : ∀ (n : Nat) (j : Nat) (Gj : Nat → Int32) (x3 : Int32) (x4 : Int32) (hj : j + n = 40) (e4 : x4 = nI j) (hres : hmL R p0 n Gj x3 = hmL R p0 40 G 0), ∀ (H : Heap) (locs : List Loc), va_P D vwCl [(h0, gC hw Gj), (hw, wC kA Gj), (h9, rC R)] H → va_D (Aw [(h0, gC hw G), (hw, wC kA G), (h9, rC R)]) [(h0, gC hw Gj), (hw, wC kA Gj), (h9, rC R)] → va_S (Aw [(h0, gC hw G), (hw, wC kA G), (h9, rC R)]) s.heap H locs → ∀ ls : Array Slot, lv_has ls 6 [(0, .ref h0), (1, .int p0), (2, .ref h9), (3, .int x3), (4, .int x4)] → W p l e ({ frames := 2, cells := 0, slots := 0, locals := 51 } : Room) s m [.ref h0, .int p0, .ref h9].toArray below meth c H locs 0 0 (MQ below (fQ (some (.int (hmP G R p0))) D [(h0, gC hw G), (hw, wC kA G), (h9, rC R)] [(h0, gC hw (hmG G R p0)), (hw, wC kA (hmG G R p0)), (h9, rC R)]) [.ref h0, .int p0, .ref h9].toArray s 0 0 (Aw [(h0, gC hw G), (hw, wC kA G), (h9, rC R)])) (F0 m 5 ls []) := by
    clear hl
    clear hP hD hS
    intro n
    induction n with
    | zero =>
      intro j Gj x3 x4 hj e4 hres H locs hP hD hS ls hl
      refine lv_iload hx hb dX0_makeHomed_5 (lv_at hl 4 rfl) ?_
      refine lv_bipush (v := 40) hx hb dX0_makeHomed_7 (by decide) ?_
      refine lv_icmp_ge (tgt := 49) hx hb dX0_makeHomed_9 (by decide) (fun c_1 => ?_) (fun c_1 => ?_)
      · skip
        replace c_1 := ge_n c_1
        refine lv_aload_n hx hb dX0_makeHomed_49 rfl (lv_at hl 0 rfl) ?_
        refine va_get (ci := 0) (v := .int (Gj 0)) (C := RX0) (T := TX0) (N := 12) hx hb hts inX0 hown hK hP 0 rfl rfl 1 (by decide) (hts _ q_69) (fun _ h9 => h9) rfl dX0_makeHomed_50 ?_
        refine lv_if_ne (tgt := 81) hx hb dX0_makeHomed_53 (by decide) (fun c_2 => ?_) (fun c_2 => ?_)
        · skip
          refine lv_iload_n hx hb dX0_makeHomed_81 rfl (lv_at hl 3 rfl) ?_
          have hP : va_P D vwCl [(h0, gC hw Gj), (hw, wC kA Gj), (h9, rC R)] _ := hP.sub [0, 1, 2] rfl
          exact end_fi hx hb hrt hlk hP hS (by simp only [hmP]; rw [← hres]; first | rfl | (simp only [hmL, c_1, c_2, ↓reduceIte]; done)) (by intro h; have e9 : hmG G R p0 = Gj := (by first | (simp only [hmG]; rw [← hres]; simp only [hmL, hm1, c_1, c_2, ↓reduceIte, Bool.false_eq_true]; done) | (simp only [hmG]; rw [← hres]; simp only [hmL, hm1, c_1, c_2, ↓reduceIte, Bool.false_eq_true]; rfl) | (simp only [hmG]; rw [← hres]; simp [hmL, hm1, c_1, c_2]; done)); rw [e9]; exact h) dX0_makeHomed_82
        · skip
          refine lv_aload_n hx hb dX0_makeHomed_56 rfl (lv_at hl 0 rfl) ?_
          refine lv_iconst (v := 0) hx hb dX0_makeHomed_57 (by decide) ?_
          refine va_put (ci := 0) (v := .int 0) (ty := tyX0 2) (C := RX0) (T := TX0) (N := 12) hx hb hts inX0 tyX0 tyX0_ok nmX0 hown hK hP hD hS 0 rfl rfl 2 (by decide) (hts _ q_71) (fun _ h9 => h9) rfl (tyX0_ok 2 (by decide)) rfl rfl (Nat.le_of_ble_eq_true rfl) dX0_makeHomed_58 (fun H locs hP hD hS => ?_)
          have hP : va_P D vwCl [(h0, .inr (0, [.ref hw, .int (Gj 0), .int 0, .int (Gj 2), .int (Gj 3), .int (Gj 4), .int (Gj 5), .int (Gj 6), .int (Gj 7), .int (Gj 8), .int (Gj 9), .int (Gj 10)])), (hw, wC kA Gj), (h9, rC R)] H := hP
          have hD : va_D (Aw [(h0, gC hw G), (hw, wC kA G), (h9, rC R)]) [(h0, .inr (0, [.ref hw, .int (Gj 0), .int 0, .int (Gj 2), .int (Gj 3), .int (Gj 4), .int (Gj 5), .int (Gj 6), .int (Gj 7), .int (Gj 8), .int (Gj 9), .int (Gj 10)])), (hw, wC kA Gj), (h9, rC R)] := hD
          refine lv_aload_n hx hb dX0_makeHomed_61 rfl (lv_at hl 0 rfl) ?_
          refine lv_iconst (v := 0) hx hb dX0_makeHomed_62 (by decide) ?_
          refine va_put (ci := 0) (v := .int 0) (ty := tyX0 5) (C := RX0) (T := TX0) (N := 12) hx hb hts inX0 tyX0 tyX0_ok nmX0 hown hK hP hD hS 0 rfl rfl 5 (by decide) (hts _ q_77) (fun _ h9 => h9) rfl (tyX0_ok 5 (by decide)) rfl rfl (Nat.le_of_ble_eq_true rfl) dX0_makeHomed_63 (fun H locs hP hD hS => ?_)
          have hP : va_P D vwCl [(h0, .inr (0, [.ref hw, .int (Gj 0), .int 0, .int (Gj 2), .int (Gj 3), .int 0, .int (Gj 5), .int (Gj 6), .int (Gj 7), .int (Gj 8), .int (Gj 9), .int (Gj 10)])), (hw, wC kA Gj), (h9, rC R)] H := hP
          have hD : va_D (Aw [(h0, gC hw G), (hw, wC kA G), (h9, rC R)]) [(h0, .inr (0, [.ref hw, .int (Gj 0), .int 0, .int (Gj 2), .int (Gj 3), .int 0, .int (Gj 5), .int (Gj 6), .int (Gj 7), .int (Gj 8), .int (Gj 9), .int (Gj 10)])), (hw, wC kA Gj), (h9, rC R)] := hD
          refine lv_aload_n hx hb dX0_makeHomed_66 rfl (lv_at hl 0 rfl) ?_
          refine lv_iconst (v := 0) hx hb dX0_makeHomed_67 (by decide) ?_
          refine va_put (ci := 0) (v := .int 0) (ty := tyX0 4) (C := RX0) (T := TX0) (N := 12) hx hb hts inX0 tyX0 tyX0_ok nmX0 hown hK hP hD hS 0 rfl rfl 4 (by decide) (hts _ q_76) (fun _ h9 => h9) rfl (tyX0_ok 4 (by decide)) rfl rfl (Nat.le_of_ble_eq_true rfl) dX0_makeHomed_68 (fun H locs hP hD hS => ?_)
          have hP : va_P D vwCl [(h0, .inr (0, [.ref hw, .int (Gj 0), .int 0, .int (Gj 2), .int 0, .int 0, .int (Gj 5), .int (Gj 6), .int (Gj 7), .int (Gj 8), .int (Gj 9), .int (Gj 10)])), (hw, wC kA Gj), (h9, rC R)] H := hP
          have hD : va_D (Aw [(h0, gC hw G), (hw, wC kA G), (h9, rC R)]) [(h0, .inr (0, [.ref hw, .int (Gj 0), .int 0, .int (Gj 2), .int 0, .int 0, .int (Gj 5), .int (Gj 6), .int (Gj 7), .int (Gj 8), .int (Gj 9), .int (Gj 10)])), (hw, wC kA Gj), (h9, rC R)] := hD
          refine lv_aload_n hx hb dX0_makeHomed_71 rfl (lv_at hl 0 rfl) ?_
          refine lv_dup hx hb dX0_makeHomed_72 rfl ?_
          refine va_get (ci := 0) (v := .int (Gj 10)) (C := RX0) (T := TX0) (N := 12) hx hb hts inX0 hown hK hP 0 rfl rfl 11 (by decide) (hts _ q_85) (fun _ h9 => h9) rfl dX0_makeHomed_73 ?_
          refine lv_iconst (v := 1) hx hb dX0_makeHomed_76 (by decide) ?_
          refine lv_iadd hx hb dX0_makeHomed_77 ?_
          refine va_put (ci := 0) (v := .int ((Gj 10) + 1)) (ty := tyX0 11) (C := RX0) (T := TX0) (N := 12) hx hb hts inX0 tyX0 tyX0_ok nmX0 hown hK hP hD hS 0 rfl rfl 11 (by decide) (hts _ q_85) (fun _ h9 => h9) rfl (tyX0_ok 11 (by decide)) rfl rfl (Nat.le_of_ble_eq_true rfl) dX0_makeHomed_78 (fun H locs hP hD hS => ?_)
          have hP : va_P D vwCl [(h0, .inr (0, [.ref hw, .int (Gj 0), .int 0, .int (Gj 2), .int 0, .int 0, .int (Gj 5), .int (Gj 6), .int (Gj 7), .int (Gj 8), .int (Gj 9), .int ((Gj 10) + 1)])), (hw, wC kA Gj), (h9, rC R)] H := hP
          have hD : va_D (Aw [(h0, gC hw G), (hw, wC kA G), (h9, rC R)]) [(h0, .inr (0, [.ref hw, .int (Gj 0), .int 0, .int (Gj 2), .int 0, .int 0, .int (Gj 5), .int (Gj 6), .int (Gj 7), .int (Gj 8), .int (Gj 9), .int ((Gj 10) + 1)])), (hw, wC kA Gj), (h9, rC R)] := hD
          refine lv_iload_n hx hb dX0_makeHomed_81 rfl (lv_at hl 3 rfl) ?_
          have hP : va_P D vwCl [(h0, .inr (0, [.ref hw, .int (Gj 0), .int 0, .int (Gj 2), .int 0, .int 0, .int (Gj 5), .int (Gj 6), .int (Gj 7), .int (Gj 8), .int (Gj 9), .int ((Gj 10) + 1)])), (hw, wC kA Gj), (h9, rC R)] _ := hP.sub [0, 1, 2] rfl
          exact end_fi hx hb hrt hlk hP hS (by simp only [hmP]; rw [← hres]; first | rfl | (simp only [hmL, c_1, c_2, ↓reduceIte]; done)) (by intro h; have e9 : hmG G R p0 = mkG (Gj 0) 0 (Gj 2) 0 0 (Gj 5) (Gj 6) (Gj 7) (Gj 8) (Gj 9) ((Gj 10) + 1) (fun t => Gj (t + 11)) := (by first | (simp only [hmG]; rw [← hres]; simp only [hmL, hm1, c_1, c_2, ↓reduceIte, Bool.false_eq_true]; done) | (simp only [hmG]; rw [← hres]; simp only [hmL, hm1, c_1, c_2, ↓reduceIte, Bool.false_eq_true]; rfl) | (simp only [hmG]; rw [← hres]; simp [hmL, hm1, c_1, c_2]; done)); rw [e9]; exact h) dX0_makeHomed_82
      · exact absurd c_1 (fun h => h (cnt_ge (N := 40) e4 rfl (by omega) (by omega)))
    | succ n ih5 =>
      intro j Gj x3 x4 hj e4 hres H locs hP hD hS ls hl
      refine lv_iload hx hb dX0_makeHomed_5 (lv_at hl 4 rfl) ?_
      refine lv_bipush (v := 40) hx hb dX0_makeHomed_7 (by decide) ?_
      refine lv_icmp_ge (tgt := 49) hx hb dX0_makeHomed_9 (by decide) (fun c_3 => ?_) (fun c_3 => ?_)
      · exact absurd c_3 (cnt_nge (N := 40) e4 rfl (by decide) (by omega))
      · skip
        replace c_3 := nge_l c_3
        refine lv_aload_n hx hb dX0_makeHomed_12 rfl (lv_at hl 0 rfl) ?_
        refine va_get (ci := 0) (v := .int (Gj 0)) (C := RX0) (T := TX0) (N := 12) hx hb hts inX0 hown hK hP 0 rfl rfl 1 (by decide) (hts _ q_69) (fun _ h9 => h9) rfl dX0_makeHomed_13 ?_
        refine lv_if_eq (tgt := 49) hx hb dX0_makeHomed_16 (by decide) (fun c_4 => ?_) (fun c_4 => ?_)
        · skip
          refine lv_aload_n hx hb dX0_makeHomed_49 rfl (lv_at hl 0 rfl) ?_
          refine va_get (ci := 0) (v := .int (Gj 0)) (C := RX0) (T := TX0) (N := 12) hx hb hts inX0 hown hK hP 0 rfl rfl 1 (by decide) (hts _ q_69) (fun _ h9 => h9) rfl dX0_makeHomed_50 ?_
          refine lv_if_ne (tgt := 81) hx hb dX0_makeHomed_53 (by decide) (fun c_5 => ?_) (fun c_5 => ?_)
          · exact absurd c_4 c_5
          · skip
            refine lv_aload_n hx hb dX0_makeHomed_56 rfl (lv_at hl 0 rfl) ?_
            refine lv_iconst (v := 0) hx hb dX0_makeHomed_57 (by decide) ?_
            refine va_put (ci := 0) (v := .int 0) (ty := tyX0 2) (C := RX0) (T := TX0) (N := 12) hx hb hts inX0 tyX0 tyX0_ok nmX0 hown hK hP hD hS 0 rfl rfl 2 (by decide) (hts _ q_71) (fun _ h9 => h9) rfl (tyX0_ok 2 (by decide)) rfl rfl (Nat.le_of_ble_eq_true rfl) dX0_makeHomed_58 (fun H locs hP hD hS => ?_)
            have hP : va_P D vwCl [(h0, .inr (0, [.ref hw, .int (Gj 0), .int 0, .int (Gj 2), .int (Gj 3), .int (Gj 4), .int (Gj 5), .int (Gj 6), .int (Gj 7), .int (Gj 8), .int (Gj 9), .int (Gj 10)])), (hw, wC kA Gj), (h9, rC R)] H := hP
            have hD : va_D (Aw [(h0, gC hw G), (hw, wC kA G), (h9, rC R)]) [(h0, .inr (0, [.ref hw, .int (Gj 0), .int 0, .int (Gj 2), .int (Gj 3), .int (Gj 4), .int (Gj 5), .int (Gj 6), .int (Gj 7), .int (Gj 8), .int (Gj 9), .int (Gj 10)])), (hw, wC kA Gj), (h9, rC R)] := hD
            refine lv_aload_n hx hb dX0_makeHomed_61 rfl (lv_at hl 0 rfl) ?_
            refine lv_iconst (v := 0) hx hb dX0_makeHomed_62 (by decide) ?_
            refine va_put (ci := 0) (v := .int 0) (ty := tyX0 5) (C := RX0) (T := TX0) (N := 12) hx hb hts inX0 tyX0 tyX0_ok nmX0 hown hK hP hD hS 0 rfl rfl 5 (by decide) (hts _ q_77) (fun _ h9 => h9) rfl (tyX0_ok 5 (by decide)) rfl rfl (Nat.le_of_ble_eq_true rfl) dX0_makeHomed_63 (fun H locs hP hD hS => ?_)
            have hP : va_P D vwCl [(h0, .inr (0, [.ref hw, .int (Gj 0), .int 0, .int (Gj 2), .int (Gj 3), .int 0, .int (Gj 5), .int (Gj 6), .int (Gj 7), .int (Gj 8), .int (Gj 9), .int (Gj 10)])), (hw, wC kA Gj), (h9, rC R)] H := hP
            have hD : va_D (Aw [(h0, gC hw G), (hw, wC kA G), (h9, rC R)]) [(h0, .inr (0, [.ref hw, .int (Gj 0), .int 0, .int (Gj 2), .int (Gj 3), .int 0, .int (Gj 5), .int (Gj 6), .int (Gj 7), .int (Gj 8), .int (Gj 9), .int (Gj 10)])), (hw, wC kA Gj), (h9, rC R)] := hD
            refine lv_aload_n hx hb dX0_makeHomed_66 rfl (lv_at hl 0 rfl) ?_
            refine lv_iconst (v := 0) hx hb dX0_makeHomed_67 (by decide) ?_
            refine va_put (ci := 0) (v := .int 0) (ty := tyX0 4) (C := RX0) (T := TX0) (N := 12) hx hb hts inX0 tyX0 tyX0_ok nmX0 hown hK hP hD hS 0 rfl rfl 4 (by decide) (hts _ q_76) (fun _ h9 => h9) rfl (tyX0_ok 4 (by decide)) rfl rfl (Nat.le_of_ble_eq_true rfl) dX0_makeHomed_68 (fun H locs hP hD hS => ?_)
            have hP : va_P D vwCl [(h0, .inr (0, [.ref hw, .int (Gj 0), .int 0, .int (Gj 2), .int 0, .int 0, .int (Gj 5), .int (Gj 6), .int (Gj 7), .int (Gj 8), .int (Gj 9), .int (Gj 10)])), (hw, wC kA Gj), (h9, rC R)] H := hP
            have hD : va_D (Aw [(h0, gC hw G), (hw, wC kA G), (h9, rC R)]) [(h0, .inr (0, [.ref hw, .int (Gj 0), .int 0, .int (Gj 2), .int 0, .int 0, .int (Gj 5), .int (Gj 6), .int (Gj 7), .int (Gj 8), .int (Gj 9), .int (Gj 10)])), (hw, wC kA Gj), (h9, rC R)] := hD
            refine lv_aload_n hx hb dX0_makeHomed_71 rfl (lv_at hl 0 rfl) ?_
            refine lv_dup hx hb dX0_makeHomed_72 rfl ?_
            refine va_get (ci := 0) (v := .int (Gj 10)) (C := RX0) (T := TX0) (N := 12) hx hb hts inX0 hown hK hP 0 rfl rfl 11 (by decide) (hts _ q_85) (fun _ h9 => h9) rfl dX0_makeHomed_73 ?_
            refine lv_iconst (v := 1) hx hb dX0_makeHomed_76 (by decide) ?_
            refine lv_iadd hx hb dX0_makeHomed_77 ?_
            refine va_put (ci := 0) (v := .int ((Gj 10) + 1)) (ty := tyX0 11) (C := RX0) (T := TX0) (N := 12) hx hb hts inX0 tyX0 tyX0_ok nmX0 hown hK hP hD hS 0 rfl rfl 11 (by decide) (hts _ q_85) (fun _ h9 => h9) rfl (tyX0_ok 11 (by decide)) rfl rfl (Nat.le_of_ble_eq_true rfl) dX0_makeHomed_78 (fun H locs hP hD hS => ?_)
            have hP : va_P D vwCl [(h0, .inr (0, [.ref hw, .int (Gj 0), .int 0, .int (Gj 2), .int 0, .int 0, .int (Gj 5), .int (Gj 6), .int (Gj 7), .int (Gj 8), .int (Gj 9), .int ((Gj 10) + 1)])), (hw, wC kA Gj), (h9, rC R)] H := hP
            have hD : va_D (Aw [(h0, gC hw G), (hw, wC kA G), (h9, rC R)]) [(h0, .inr (0, [.ref hw, .int (Gj 0), .int 0, .int (Gj 2), .int 0, .int 0, .int (Gj 5), .int (Gj 6), .int (Gj 7), .int (Gj 8), .int (Gj 9), .int ((Gj 10) + 1)])), (hw, wC kA Gj), (h9, rC R)] := hD
            refine lv_iload_n hx hb dX0_makeHomed_81 rfl (lv_at hl 3 rfl) ?_
            have hP : va_P D vwCl [(h0, .inr (0, [.ref hw, .int (Gj 0), .int 0, .int (Gj 2), .int 0, .int 0, .int (Gj 5), .int (Gj 6), .int (Gj 7), .int (Gj 8), .int (Gj 9), .int ((Gj 10) + 1)])), (hw, wC kA Gj), (h9, rC R)] _ := hP.sub [0, 1, 2] rfl
            exact end_fi hx hb hrt hlk hP hS (by simp only [hmP]; rw [← hres]; first | rfl | (simp only [hmL, c_3, c_4, c_5, ↓reduceIte]; done)) (by intro h; have e9 : hmG G R p0 = mkG (Gj 0) 0 (Gj 2) 0 0 (Gj 5) (Gj 6) (Gj 7) (Gj 8) (Gj 9) ((Gj 10) + 1) (fun t => Gj (t + 11)) := (by first | (simp only [hmG]; rw [← hres]; simp only [hmL, hm1, c_3, c_4, c_5, ↓reduceIte, Bool.false_eq_true]; done) | (simp only [hmG]; rw [← hres]; simp only [hmL, hm1, c_3, c_4, c_5, ↓reduceIte, Bool.false_eq_true]; rfl) | (simp only [hmG]; rw [← hres]; simp [hmL, hm1, c_3, c_4, c_5]; done)); rw [e9]; exact h) dX0_makeHomed_82
        · skip
          refine lv_aload_n hx hb dX0_makeHomed_19 rfl (lv_at hl 0 rfl) ?_
          refine lv_iconst (v := (-1)) hx hb dX0_makeHomed_20 (by decide) ?_
          refine lv_iload_n hx hb dX0_makeHomed_21 rfl (lv_at hl 1 rfl) ?_
          refine lv_iload_n hx hb dX0_makeHomed_22 rfl (lv_at hl 3 rfl) ?_
          refine lv_isub hx hb dX0_makeHomed_23 ?_
          refine lv_aload_n hx hb dX0_makeHomed_24 rfl (lv_at hl 2 rfl) ?_
          refine cs_fs (runV (As := [.int (-1), .int (p0 - x3), .ref h9]) (rest := []) ⟨hx, hb, hml, hown, hts⟩ (m_X0_makeStep l D kA h0 hw Gj h9 R (-1) (p0 - x3) ) q_446 q_384 q_385 q_4 q_386 hd_X0_makeStep ⟨rfl, rfl⟩ ⟨Nat.le_of_ble_eq_true rfl, Nat.le_of_ble_eq_true rfl⟩ hK (ws := [(h0, gC hw Gj), (hw, wC kA Gj), (h9, rC R)]) (hP.sub [0, 1, 2] rfl) (hD.sub [0, 1, 2] (by decide) rfl) 0 (ci := 0) (C := RX0) (T := TX0) (N := 12) rfl rfl rfl hl.1 rfl (Nat.le_of_ble_eq_true rfl) dX0_makeHomed_25 ⟨Nat.zero_le _, Nat.zero_le _⟩) hS (aw_sub hD (isC := [0, 1, 2]) rfl) (fun H locs hP1 hk1 hS => ?_)
          obtain ⟨hP, hD⟩ := jn (wr := []) (w1 := [(h0, gC hw (msG Gj R (-1) (p0 - x3))), (hw, wC kA (msG Gj R (-1) (p0 - x3))), (h9, rC R)]) hP hD [0, 1, 2] [] rfl rfl (by decide) hk1 hP1 rfl
          have hP : va_P D vwCl [(h0, gC hw (msG Gj R (-1) (p0 - x3))), (hw, wC kA (msG Gj R (-1) (p0 - x3))), (h9, rC R)] H := hP
          have hD : va_D (Aw [(h0, gC hw G), (hw, wC kA G), (h9, rC R)]) [(h0, gC hw (msG Gj R (-1) (p0 - x3))), (hw, wC kA (msG Gj R (-1) (p0 - x3))), (h9, rC R)] := hD
          refine lv_istore (lv' := [(5, .int (msR Gj R (-1) (p0 - x3))), (0, .ref h0), (1, .int p0), (2, .ref h9), (3, .int x3), (4, .int x4)]) hx hb dX0_makeHomed_28 hl (by decide) rfl (fun ls hl => ?_)
          refine lv_iload hx hb dX0_makeHomed_30 (lv_at hl 0 rfl) ?_
          refine lv_if_ne (tgt := 38) hx hb dX0_makeHomed_32 (by decide) (fun c_6 => ?_) (fun c_6 => ?_)
          · skip
            refine lv_iload_n hx hb dX0_makeHomed_38 rfl (lv_at hl 4 rfl) ?_
            refine lv_iload hx hb dX0_makeHomed_39 (lv_at hl 0 rfl) ?_
            refine lv_iadd hx hb dX0_makeHomed_41 ?_
            refine lv_istore_n (lv' := [(3, .int (x3 + (msR Gj R (-1) (p0 - x3)))), (5, .int (msR Gj R (-1) (p0 - x3))), (0, .ref h0), (1, .int p0), (2, .ref h9), (4, .int x4)]) hx hb dX0_makeHomed_42 rfl hl (by decide) rfl (fun ls hl => ?_)
            refine lv_iinc (v := x4 + 1) (lv' := [(4, .int (x4 + 1)), (3, .int (x3 + (msR Gj R (-1) (p0 - x3)))), (5, .int (msR Gj R (-1) (p0 - x3))), (0, .ref h0), (1, .int p0), (2, .ref h9)]) hx hb dX0_makeHomed_43 hl (k := 5) rfl (by first | rfl | exact congrArg (_ + ·) (by decide)) (by decide) rfl (fun ls hl => ?_)
            refine lv_goto (tgt := 5) hx hb dX0_makeHomed_46 (by decide) ?_
            exact ih5 (j + 1) (msG Gj R (-1) (p0 - x3)) (x3 + (msR Gj R (-1) (p0 - x3))) (x4 + 1) (by omega) (by rw [e4]; exact nI_1 j) (by rw [← hres]; simp only [hmL, c_3, c_4, c_6, ↓reduceIte]) _ _ (hP.sub [0, 1, 2] rfl) (hD.sub [0, 1, 2] (by decide) rfl) hS ls (lv_sub hl [3, 4, 5, 1, 0] rfl)
          · skip
            refine lv_goto (tgt := 49) hx hb dX0_makeHomed_35 (by decide) ?_
            refine lv_aload_n hx hb dX0_makeHomed_49 rfl (lv_at hl 1 rfl) ?_
            refine va_get (ci := 0) (v := .int ((msG Gj R (-1) (p0 - x3)) 0)) (C := RX0) (T := TX0) (N := 12) hx hb hts inX0 hown hK hP 0 rfl rfl 1 (by decide) (hts _ q_69) (fun _ h9 => h9) rfl dX0_makeHomed_50 ?_
            refine lv_if_ne (tgt := 81) hx hb dX0_makeHomed_53 (by decide) (fun c_7 => ?_) (fun c_7 => ?_)
            · skip
              refine lv_iload_n hx hb dX0_makeHomed_81 rfl (lv_at hl 4 rfl) ?_
              have hP : va_P D vwCl [(h0, gC hw (msG Gj R (-1) (p0 - x3))), (hw, wC kA (msG Gj R (-1) (p0 - x3))), (h9, rC R)] _ := hP.sub [0, 1, 2] rfl
              exact end_fi hx hb hrt hlk hP hS (by simp only [hmP]; rw [← hres]; first | rfl | (simp only [hmL, c_3, c_4, c_6, c_7, ↓reduceIte]; done)) (by intro h; have e9 : hmG G R p0 = (msG Gj R (-1) (p0 - x3)) := (by first | (simp only [hmG]; rw [← hres]; simp only [hmL, hm1, c_3, c_4, c_6, c_7, ↓reduceIte, Bool.false_eq_true]; done) | (simp only [hmG]; rw [← hres]; simp only [hmL, hm1, c_3, c_4, c_6, c_7, ↓reduceIte, Bool.false_eq_true]; rfl) | (simp only [hmG]; rw [← hres]; simp [hmL, hm1, c_3, c_4, c_6, c_7]; done)); rw [e9]; exact h) dX0_makeHomed_82
            · skip
              refine lv_aload_n hx hb dX0_makeHomed_56 rfl (lv_at hl 1 rfl) ?_
              refine lv_iconst (v := 0) hx hb dX0_makeHomed_57 (by decide) ?_
              refine va_put (ci := 0) (v := .int 0) (ty := tyX0 2) (C := RX0) (T := TX0) (N := 12) hx hb hts inX0 tyX0 tyX0_ok nmX0 hown hK hP hD hS 0 rfl rfl 2 (by decide) (hts _ q_71) (fun _ h9 => h9) rfl (tyX0_ok 2 (by decide)) rfl rfl (Nat.le_of_ble_eq_true rfl) dX0_makeHomed_58 (fun H locs hP hD hS => ?_)
              have hP : va_P D vwCl [(h0, .inr (0, [.ref hw, .int ((msG Gj R (-1) (p0 - x3)) 0), .int 0, .int ((msG Gj R (-1) (p0 - x3)) 2), .int ((msG Gj R (-1) (p0 - x3)) 3), .int ((msG Gj R (-1) (p0 - x3)) 4), .int ((msG Gj R (-1) (p0 - x3)) 5), .int ((msG Gj R (-1) (p0 - x3)) 6), .int ((msG Gj R (-1) (p0 - x3)) 7), .int ((msG Gj R (-1) (p0 - x3)) 8), .int ((msG Gj R (-1) (p0 - x3)) 9), .int ((msG Gj R (-1) (p0 - x3)) 10)])), (hw, wC kA (msG Gj R (-1) (p0 - x3))), (h9, rC R)] H := hP
              have hD : va_D (Aw [(h0, gC hw G), (hw, wC kA G), (h9, rC R)]) [(h0, .inr (0, [.ref hw, .int ((msG Gj R (-1) (p0 - x3)) 0), .int 0, .int ((msG Gj R (-1) (p0 - x3)) 2), .int ((msG Gj R (-1) (p0 - x3)) 3), .int ((msG Gj R (-1) (p0 - x3)) 4), .int ((msG Gj R (-1) (p0 - x3)) 5), .int ((msG Gj R (-1) (p0 - x3)) 6), .int ((msG Gj R (-1) (p0 - x3)) 7), .int ((msG Gj R (-1) (p0 - x3)) 8), .int ((msG Gj R (-1) (p0 - x3)) 9), .int ((msG Gj R (-1) (p0 - x3)) 10)])), (hw, wC kA (msG Gj R (-1) (p0 - x3))), (h9, rC R)] := hD
              refine lv_aload_n hx hb dX0_makeHomed_61 rfl (lv_at hl 1 rfl) ?_
              refine lv_iconst (v := 0) hx hb dX0_makeHomed_62 (by decide) ?_
              refine va_put (ci := 0) (v := .int 0) (ty := tyX0 5) (C := RX0) (T := TX0) (N := 12) hx hb hts inX0 tyX0 tyX0_ok nmX0 hown hK hP hD hS 0 rfl rfl 5 (by decide) (hts _ q_77) (fun _ h9 => h9) rfl (tyX0_ok 5 (by decide)) rfl rfl (Nat.le_of_ble_eq_true rfl) dX0_makeHomed_63 (fun H locs hP hD hS => ?_)
              have hP : va_P D vwCl [(h0, .inr (0, [.ref hw, .int ((msG Gj R (-1) (p0 - x3)) 0), .int 0, .int ((msG Gj R (-1) (p0 - x3)) 2), .int ((msG Gj R (-1) (p0 - x3)) 3), .int 0, .int ((msG Gj R (-1) (p0 - x3)) 5), .int ((msG Gj R (-1) (p0 - x3)) 6), .int ((msG Gj R (-1) (p0 - x3)) 7), .int ((msG Gj R (-1) (p0 - x3)) 8), .int ((msG Gj R (-1) (p0 - x3)) 9), .int ((msG Gj R (-1) (p0 - x3)) 10)])), (hw, wC kA (msG Gj R (-1) (p0 - x3))), (h9, rC R)] H := hP
              have hD : va_D (Aw [(h0, gC hw G), (hw, wC kA G), (h9, rC R)]) [(h0, .inr (0, [.ref hw, .int ((msG Gj R (-1) (p0 - x3)) 0), .int 0, .int ((msG Gj R (-1) (p0 - x3)) 2), .int ((msG Gj R (-1) (p0 - x3)) 3), .int 0, .int ((msG Gj R (-1) (p0 - x3)) 5), .int ((msG Gj R (-1) (p0 - x3)) 6), .int ((msG Gj R (-1) (p0 - x3)) 7), .int ((msG Gj R (-1) (p0 - x3)) 8), .int ((msG Gj R (-1) (p0 - x3)) 9), .int ((msG Gj R (-1) (p0 - x3)) 10)])), (hw, wC kA (msG Gj R (-1) (p0 - x3))), (h9, rC R)] := hD
              refine lv_aload_n hx hb dX0_makeHomed_66 rfl (lv_at hl 1 rfl) ?_
              refine lv_iconst (v := 0) hx hb dX0_makeHomed_67 (by decide) ?_
              refine va_put (ci := 0) (v := .int 0) (ty := tyX0 4) (C := RX0) (T := TX0) (N := 12) hx hb hts inX0 tyX0 tyX0_ok nmX0 hown hK hP hD hS 0 rfl rfl 4 (by decide) (hts _ q_76) (fun _ h9 => h9) rfl (tyX0_ok 4 (by decide)) rfl rfl (Nat.le_of_ble_eq_true rfl) dX0_makeHomed_68 (fun H locs hP hD hS => ?_)
              have hP : va_P D vwCl [(h0, .inr (0, [.ref hw, .int ((msG Gj R (-1) (p0 - x3)) 0), .int 0, .int ((msG Gj R (-1) (p0 - x3)) 2), .int 0, .int 0, .int ((msG Gj R (-1) (p0 - x3)) 5), .int ((msG Gj R (-1) (p0 - x3)) 6), .int ((msG Gj R (-1) (p0 - x3)) 7), .int ((msG Gj R (-1) (p0 - x3)) 8), .int ((msG Gj R (-1) (p0 - x3)) 9), .int ((msG Gj R (-1) (p0 - x3)) 10)])), (hw, wC kA (msG Gj R (-1) (p0 - x3))), (h9, rC R)] H := hP
              have hD : va_D (Aw [(h0, gC hw G), (hw, wC kA G), (h9, rC R)]) [(h0, .inr (0, [.ref hw, .int ((msG Gj R (-1) (p0 - x3)) 0), .int 0, .int ((msG Gj R (-1) (p0 - x3)) 2), .int 0, .int 0, .int ((msG Gj R (-1) (p0 - x3)) 5), .int ((msG Gj R (-1) (p0 - x3)) 6), .int ((msG Gj R (-1) (p0 - x3)) 7), .int ((msG Gj R (-1) (p0 - x3)) 8), .int ((msG Gj R (-1) (p0 - x3)) 9), .int ((msG Gj R (-1) (p0 - x3)) 10)])), (hw, wC kA (msG Gj R (-1) (p0 - x3))), (h9, rC R)] := hD
              refine lv_aload_n hx hb dX0_makeHomed_71 rfl (lv_at hl 1 rfl) ?_
              refine lv_dup hx hb dX0_makeHomed_72 rfl ?_
              refine va_get (ci := 0) (v := .int ((msG Gj R (-1) (p0 - x3)) 10)) (C := RX0) (T := TX0) (N := 12) hx hb hts inX0 hown hK hP 0 rfl rfl 11 (by decide) (hts _ q_85) (fun _ h9 => h9) rfl dX0_makeHomed_73 ?_
              refine lv_iconst (v := 1) hx hb dX0_makeHomed_76 (by decide) ?_
              refine lv_iadd hx hb dX0_makeHomed_77 ?_
              refine va_put (ci := 0) (v := .int (((msG Gj R (-1) (p0 - x3)) 10) + 1)) (ty := tyX0 11) (C := RX0) (T := TX0) (N := 12) hx hb hts inX0 tyX0 tyX0_ok nmX0 hown hK hP hD hS 0 rfl rfl 11 (by decide) (hts _ q_85) (fun _ h9 => h9) rfl (tyX0_ok 11 (by decide)) rfl rfl (Nat.le_of_ble_eq_true rfl) dX0_makeHomed_78 (fun H locs hP hD hS => ?_)
              have hP : va_P D vwCl [(h0, .inr (0, [.ref hw, .int ((msG Gj R (-1) (p0 - x3)) 0), .int 0, .int ((msG Gj R (-1) (p0 - x3)) 2), .int 0, .int 0, .int ((msG Gj R (-1) (p0 - x3)) 5), .int ((msG Gj R (-1) (p0 - x3)) 6), .int ((msG Gj R (-1) (p0 - x3)) 7), .int ((msG Gj R (-1) (p0 - x3)) 8), .int ((msG Gj R (-1) (p0 - x3)) 9), .int (((msG Gj R (-1) (p0 - x3)) 10) + 1)])), (hw, wC kA (msG Gj R (-1) (p0 - x3))), (h9, rC R)] H := hP
              have hD : va_D (Aw [(h0, gC hw G), (hw, wC kA G), (h9, rC R)]) [(h0, .inr (0, [.ref hw, .int ((msG Gj R (-1) (p0 - x3)) 0), .int 0, .int ((msG Gj R (-1) (p0 - x3)) 2), .int 0, .int 0, .int ((msG Gj R (-1) (p0 - x3)) 5), .int ((msG Gj R (-1) (p0 - x3)) 6), .int ((msG Gj R (-1) (p0 - x3)) 7), .int ((msG Gj R (-1) (p0 - x3)) 8), .int ((msG Gj R (-1) (p0 - x3)) 9), .int (((msG Gj R (-1) (p0 - x3)) 10) + 1)])), (hw, wC kA (msG Gj R (-1) (p0 - x3))), (h9, rC R)] := hD
              refine lv_iload_n hx hb dX0_makeHomed_81 rfl (lv_at hl 4 rfl) ?_
              have hP : va_P D vwCl [(h0, .inr (0, [.ref hw, .int ((msG Gj R (-1) (p0 - x3)) 0), .int 0, .int ((msG Gj R (-1) (p0 - x3)) 2), .int 0, .int 0, .int ((msG Gj R (-1) (p0 - x3)) 5), .int ((msG Gj R (-1) (p0 - x3)) 6), .int ((msG Gj R (-1) (p0 - x3)) 7), .int ((msG Gj R (-1) (p0 - x3)) 8), .int ((msG Gj R (-1) (p0 - x3)) 9), .int (((msG Gj R (-1) (p0 - x3)) 10) + 1)])), (hw, wC kA (msG Gj R (-1) (p0 - x3))), (h9, rC R)] _ := hP.sub [0, 1, 2] rfl
              exact end_fi hx hb hrt hlk hP hS (by simp only [hmP]; rw [← hres]; first | rfl | (simp only [hmL, c_3, c_4, c_6, c_7, ↓reduceIte]; done)) (by intro h; have e9 : hmG G R p0 = mkG ((msG Gj R (-1) (p0 - x3)) 0) 0 ((msG Gj R (-1) (p0 - x3)) 2) 0 0 ((msG Gj R (-1) (p0 - x3)) 5) ((msG Gj R (-1) (p0 - x3)) 6) ((msG Gj R (-1) (p0 - x3)) 7) ((msG Gj R (-1) (p0 - x3)) 8) ((msG Gj R (-1) (p0 - x3)) 9) (((msG Gj R (-1) (p0 - x3)) 10) + 1) (fun t => (msG Gj R (-1) (p0 - x3)) (t + 11)) := (by first | (simp only [hmG]; rw [← hres]; simp only [hmL, hm1, c_3, c_4, c_6, c_7, ↓reduceIte, Bool.false_eq_true]; done) | (simp only [hmG]; rw [← hres]; simp only [hmL, hm1, c_3, c_4, c_6, c_7, ↓reduceIte, Bool.false_eq_true]; rfl) | (simp only [hmG]; rw [← hres]; simp [hmL, hm1, c_3, c_4, c_6, c_7]; done)); rw [e9]; exact h) dX0_makeHomed_82
  exact loop_5 40 0 G 0 0 (by omega) (nI_0.symm) (rfl) _ _ (hP.sub [0, 1, 2] rfl) (hD.sub [0, 1, 2] (by decide) rfl) hS ls (lv_sub hl [2, 3, 4, 1, 0] rfl)

theorem hd_X0_costOfWay : yX0_costOfWay.cls ≠ "java/lang/invoke/MethodHandle" ∧ yX0_costOfWay.cls ≠ "java/lang/invoke/VarHandle" ∧ (parseMethodDescriptor yX0_costOfWay.desc).map (fun d => d.parameters.length) = some 4 := by decide +kernel
set_option maxRecDepth 100000 in
set_option maxHeartbeats 4000000 in
theorem m_X0_costOfWay (l : Launch) (D : va_G) (kA : Nat → Nat) (h0 : Nat) (hw : Nat) (G : Nat → Int32) (h9 : Nat) (R : Nat → Int32) (p0 : Int32) (p1 : Int32) (p2 : Int32) : Met l yX0_costOfWay (Cond.code yX0_costOfWay cX0_costOfWay 10 (some .int) :: AW) ({ frames := 1, cells := 0, slots := 0, locals := 24 } : Room) (Pz [.ref h0, .int p0, .int p1, .int p2, .ref h9] D (TY kA) [(h0, gC hw G), (hw, wC kA G), (h9, rC R)]) (pQ (some (.int (costG G R p0 p1 p2)))) 0 0 (fun _ => False) := by
  refine MetZ (by decide +kernel) (Nat.le_of_ble_eq_true rfl) ?_
  intro p e s m below meth c ls hx hb hrt hts hown hml hlk hnm hP hK hD hS hl
  have hl : lv_has ls 10 [(0, .ref h0), (1, .int p0), (2, .int p1), (3, .int p2), (4, .ref h9)] := hl
  refine lv_aload_n hx hb dX0_costOfWay_0 rfl (lv_at hl 0 rfl) ?_
  refine va_get (ci := 0) (v := .int (G 1)) (C := RX0) (T := TX0) (N := 12) hx hb hts inX0 hown hK hP 0 rfl rfl 2 (by decide) (hts _ q_71) (fun _ h9 => h9) rfl dX0_costOfWay_1 ?_
  refine lv_istore (lv' := [(5, .int (G 1)), (0, .ref h0), (1, .int p0), (2, .int p1), (3, .int p2), (4, .ref h9)]) hx hb dX0_costOfWay_4 hl (by decide) rfl (fun ls hl => ?_)
  refine lv_iconst (v := 0) hx hb dX0_costOfWay_6 (by decide) ?_
  refine lv_istore (lv' := [(6, .int 0), (5, .int (G 1)), (0, .ref h0), (1, .int p0), (2, .int p1), (3, .int p2), (4, .ref h9)]) hx hb dX0_costOfWay_7 hl (by decide) rfl (fun ls hl => ?_)
  refine lv_iconst (v := 0) hx hb dX0_costOfWay_9 (by decide) ?_
  refine lv_istore (lv' := [(7, .int 0), (6, .int 0), (5, .int (G 1)), (0, .ref h0), (1, .int p0), (2, .int p1), (3, .int p2), (4, .ref h9)]) hx hb dX0_costOfWay_10 hl (by decide) rfl (fun ls hl => ?_)
  have loop_12 : ∀ (n : Nat) (j : Nat) (x5 : Int32) (x6 : Int32) (x7 : Int32) (hj : j + n = 24) (e7 : x7 = nI j) (hres : coL G R p0 p1 p2 n x5 x7 x6 = costG G R p0 p1 p2), ∀ ls : Array Slot, lv_has ls 10 [(0, .ref h0), (1, .int p0), (2, .int p1), (3, .int p2), (4, .ref h9), (5, .int x5), (6, .int x6), (7, .int x7)] → W p l e ({ frames := 1, cells := 0, slots := 0, locals := 24 } : Room) s m [.ref h0, .int p0, .int p1, .int p2, .ref h9].toArray below meth c s.heap [] 0 0 (MQ below (pQ (some (.int (costG G R p0 p1 p2)))) [.ref h0, .int p0, .int p1, .int p2, .ref h9].toArray s 0 0 (fun _ => False)) (F0 m 12 ls []) := by
    clear hl
    intro n
    induction n with
    | zero =>
      intro j x5 x6 x7 hj e7 hres  ls hl
      refine lv_iload hx hb dX0_costOfWay_12 (lv_at hl 7 rfl) ?_
      refine lv_bipush (v := 24) hx hb dX0_costOfWay_14 (by decide) ?_
      refine lv_icmp_ge (tgt := 85) hx hb dX0_costOfWay_16 (by decide) (fun c_1 => ?_) (fun c_1 => ?_)
      · skip
        replace c_1 := ge_n c_1
        refine lv_iload hx hb dX0_costOfWay_85 (lv_at hl 6 rfl) ?_
        exact end_pi hx hb hrt hlk (by rw [← hres]; first | rfl | (simp only [coL, c_1, ↓reduceIte]; done)) dX0_costOfWay_87
      · exact absurd c_1 (fun h => h (cnt_ge (N := 24) e7 rfl (by omega) (by omega)))
    | succ n ih12 =>
      intro j x5 x6 x7 hj e7 hres  ls hl
      refine lv_iload hx hb dX0_costOfWay_12 (lv_at hl 7 rfl) ?_
      refine lv_bipush (v := 24) hx hb dX0_costOfWay_14 (by decide) ?_
      refine lv_icmp_ge (tgt := 85) hx hb dX0_costOfWay_16 (by decide) (fun c_2 => ?_) (fun c_2 => ?_)
      · exact absurd c_2 (cnt_nge (N := 24) e7 rfl (by decide) (by omega))
      · skip
        replace c_2 := nge_l c_2
        refine lv_iload hx hb dX0_costOfWay_19 (lv_at hl 5 rfl) ?_
        refine lv_iload_n hx hb dX0_costOfWay_21 rfl (lv_at hl 1 rfl) ?_
        refine lv_icmp_eq (tgt := 85) hx hb dX0_costOfWay_22 (by decide) (fun c_3 => ?_) (fun c_3 => ?_)
        · skip
          refine lv_iload hx hb dX0_costOfWay_85 (lv_at hl 6 rfl) ?_
          exact end_pi hx hb hrt hlk (by rw [← hres]; first | rfl | (simp only [coL, c_2, c_3, ↓reduceIte]; done)) dX0_costOfWay_87
        · skip
          refine lv_iload hx hb dX0_costOfWay_25 (lv_at hl 5 rfl) ?_
          refine lv_iload_n hx hb dX0_costOfWay_27 rfl (lv_at hl 2 rfl) ?_
          refine cs_p (runS (As := [.int x5, .int p1]) (rest := []) ⟨hx, hb, hml, hown, hts⟩ (m_X0_toothBy l D kA x5 p1 ) q_324 q_325 q_4 q_326 hd_X0_toothBy ⟨rfl, rfl⟩ ⟨Nat.le_of_ble_eq_true rfl, Nat.le_of_ble_eq_true rfl⟩ hK (ws := []) (hP.sub [] rfl) (hD.sub [] (by decide) rfl) rfl hl.1 rfl (Nat.le_of_ble_eq_true rfl) dX0_costOfWay_28 ⟨Nat.zero_le _, Nat.zero_le _⟩) ?_
          refine lv_istore (lv' := [(8, .int (tW x5 p1)), (0, .ref h0), (1, .int p0), (2, .int p1), (3, .int p2), (4, .ref h9), (5, .int x5), (6, .int x6), (7, .int x7)]) hx hb dX0_costOfWay_31 hl (by decide) rfl (fun ls hl => ?_)
          refine lv_iload hx hb dX0_costOfWay_33 (lv_at hl 0 rfl) ?_
          refine lv_iload_n hx hb dX0_costOfWay_35 rfl (lv_at hl 4 rfl) ?_
          refine lv_icmp_ne (tgt := 43) hx hb dX0_costOfWay_36 (by decide) (fun c_4 => ?_) (fun c_4 => ?_)
          · skip
            refine lv_aload_n hx hb dX0_costOfWay_43 rfl (lv_at hl 1 rfl) ?_
            refine lv_iload hx hb dX0_costOfWay_44 (lv_at hl 0 rfl) ?_
            refine cs_p (runV (As := [.int (tW x5 p1)]) (rest := []) ⟨hx, hb, hml, hown, hts⟩ (m_X0_wearOf l D kA h0 hw (G 0) (G 1) (G 2) (G 3) (G 4) (G 5) (G 6) (G 7) (G 8) (G 9) (G 10) (fun t => G (t + 11)) (tW x5 p1) ) q_327 q_328 q_329 q_4 q_330 hd_X0_wearOf ⟨rfl, rfl⟩ ⟨Nat.le_of_ble_eq_true rfl, Nat.le_of_ble_eq_true rfl⟩ hK (ws := [(h0, .inr (0, [.ref hw, .int (G 0), .int (G 1), .int (G 2), .int (G 3), .int (G 4), .int (G 5), .int (G 6), .int (G 7), .int (G 8), .int (G 9), .int (G 10)])), (hw, .inl (kA 0, 24, .inl (fun t => G (t + 11))))]) (hP.sub [0, 1] rfl) (hD.sub [0, 1] (by decide) rfl) 0 (ci := 0) (C := RX0) (T := TX0) (N := 12) rfl rfl rfl hl.1 rfl (Nat.le_of_ble_eq_true rfl) dX0_costOfWay_46 ⟨Nat.zero_le _, Nat.zero_le _⟩) ?_
            refine lv_istore (lv' := [(9, .int (wrF (fun t => G (t + 11)) (tW x5 p1))), (8, .int (tW x5 p1)), (0, .ref h0), (1, .int p0), (2, .int p1), (3, .int p2), (4, .ref h9), (5, .int x5), (6, .int x6), (7, .int x7)]) hx hb dX0_costOfWay_49 hl (by decide) rfl (fun ls hl => ?_)
            refine lv_iload hx hb dX0_costOfWay_51 (lv_at hl 8 rfl) ?_
            refine lv_aload_n hx hb dX0_costOfWay_53 rfl (lv_at hl 2 rfl) ?_
            refine lv_iload hx hb dX0_costOfWay_54 (lv_at hl 0 rfl) ?_
            refine lv_aload_n hx hb dX0_costOfWay_56 rfl (lv_at hl 2 rfl) ?_
            refine va_get (ci := 0) (v := .int (G 5)) (C := RX0) (T := TX0) (N := 12) hx hb hts inX0 hown hK hP 0 rfl rfl 6 (by decide) (hts _ q_78) (fun _ h9 => h9) rfl dX0_costOfWay_57 ?_
            refine lv_iload hx hb dX0_costOfWay_60 (lv_at hl 9 rfl) ?_
            refine lv_isub hx hb dX0_costOfWay_62 ?_
            refine lv_aload hx hb dX0_costOfWay_63 (lv_at hl 6 rfl) ?_
            refine cs_p (runV (As := [.int (wrF (fun t => G (t + 11)) (tW x5 p1)), .int ((G 5) - x7), .ref h9]) (rest := [.int x6]) ⟨hx, hb, hml, hown, hts⟩ (m_X0_tollWith l D kA h0 hw (G 0) (G 1) (G 2) (G 3) (G 4) (G 5) (G 6) (G 7) (G 8) (G 9) (G 10) h9 (R 0) (R 1) (R 2) (R 3) (R 4) (R 5) (wrF (fun t => G (t + 11)) (tW x5 p1)) ((G 5) - x7) ) q_331 q_332 q_333 q_4 q_334 hd_X0_tollWith ⟨rfl, rfl⟩ ⟨Nat.le_of_ble_eq_true rfl, Nat.le_of_ble_eq_true rfl⟩ hK (ws := [(h0, .inr (0, [.ref hw, .int (G 0), .int (G 1), .int (G 2), .int (G 3), .int (G 4), .int (G 5), .int (G 6), .int (G 7), .int (G 8), .int (G 9), .int (G 10)])), (h9, .inr (3, [.int (R 0), .int (R 1), .int (R 2), .int (R 3), .int (R 4), .int (R 5)]))]) (hP.sub [0, 2] rfl) (hD.sub [0, 2] (by decide) rfl) 0 (ci := 0) (C := RX0) (T := TX0) (N := 12) rfl rfl rfl hl.1 rfl (Nat.le_of_ble_eq_true rfl) dX0_costOfWay_65 ⟨Nat.zero_le _, Nat.zero_le _⟩) ?_
            refine lv_iadd hx hb dX0_costOfWay_68 ?_
            refine lv_istore (lv' := [(6, .int (x6 + (tlF (G 2) (wrF (fun t => G (t + 11)) (tW x5 p1)) ((G 5) - x7) (R 1)))), (9, .int (wrF (fun t => G (t + 11)) (tW x5 p1))), (8, .int (tW x5 p1)), (0, .ref h0), (1, .int p0), (2, .int p1), (3, .int p2), (4, .ref h9), (5, .int x5), (7, .int x7)]) hx hb dX0_costOfWay_69 hl (by decide) rfl (fun ls hl => ?_)
            refine lv_iload hx hb dX0_costOfWay_71 (lv_at hl 8 rfl) ?_
            refine lv_iload_n hx hb dX0_costOfWay_73 rfl (lv_at hl 5 rfl) ?_
            refine cs_p (runS (As := [.int x5, .int p1]) (rest := []) ⟨hx, hb, hml, hown, hts⟩ (m_X0_nextPlace l D kA x5 p1 ) q_391 q_392 q_4 q_393 hd_X0_nextPlace ⟨rfl, rfl⟩ ⟨Nat.le_of_ble_eq_true rfl, Nat.le_of_ble_eq_true rfl⟩ hK (ws := []) (hP.sub [] rfl) (hD.sub [] (by decide) rfl) rfl hl.1 rfl (Nat.le_of_ble_eq_true rfl) dX0_costOfWay_74 ⟨Nat.zero_le _, Nat.zero_le _⟩) ?_
            refine lv_istore (lv' := [(5, .int (nW x5 p1)), (6, .int (x6 + (tlF (G 2) (wrF (fun t => G (t + 11)) (tW x5 p1)) ((G 5) - x7) (R 1)))), (9, .int (wrF (fun t => G (t + 11)) (tW x5 p1))), (8, .int (tW x5 p1)), (0, .ref h0), (1, .int p0), (2, .int p1), (3, .int p2), (4, .ref h9), (7, .int x7)]) hx hb dX0_costOfWay_77 hl (by decide) rfl (fun ls hl => ?_)
            refine lv_iinc (v := x7 + 1) (lv' := [(7, .int (x7 + 1)), (5, .int (nW x5 p1)), (6, .int (x6 + (tlF (G 2) (wrF (fun t => G (t + 11)) (tW x5 p1)) ((G 5) - x7) (R 1)))), (9, .int (wrF (fun t => G (t + 11)) (tW x5 p1))), (8, .int (tW x5 p1)), (0, .ref h0), (1, .int p0), (2, .int p1), (3, .int p2), (4, .ref h9)]) hx hb dX0_costOfWay_79 hl (k := 9) rfl (by first | rfl | exact congrArg (_ + ·) (by decide)) (by decide) rfl (fun ls hl => ?_)
            refine lv_goto (tgt := 12) hx hb dX0_costOfWay_82 (by decide) ?_
            exact ih12 (j + 1) (nW x5 p1) (x6 + (tlF (G 2) (wrF (fun t => G (t + 11)) (tW x5 p1)) ((G 5) - x7) (R 1))) (x7 + 1) (by omega) (by rw [e7]; exact nI_1 j) (by rw [← hres]; simp only [coL, gwr, c_2, c_3, c_4, ↓reduceIte]) ls (lv_sub hl [5, 6, 7, 8, 9, 1, 2, 0] rfl)
          · skip
            refine lv_iconst (v := 0) hx hb dX0_costOfWay_39 (by decide) ?_
            refine lv_goto (tgt := 49) hx hb dX0_costOfWay_40 (by decide) ?_
            refine lv_istore (lv' := [(9, .int 0), (8, .int (tW x5 p1)), (0, .ref h0), (1, .int p0), (2, .int p1), (3, .int p2), (4, .ref h9), (5, .int x5), (6, .int x6), (7, .int x7)]) hx hb dX0_costOfWay_49 hl (by decide) rfl (fun ls hl => ?_)
            refine lv_iload hx hb dX0_costOfWay_51 (lv_at hl 8 rfl) ?_
            refine lv_aload_n hx hb dX0_costOfWay_53 rfl (lv_at hl 2 rfl) ?_
            refine lv_iload hx hb dX0_costOfWay_54 (lv_at hl 0 rfl) ?_
            refine lv_aload_n hx hb dX0_costOfWay_56 rfl (lv_at hl 2 rfl) ?_
            refine va_get (ci := 0) (v := .int (G 5)) (C := RX0) (T := TX0) (N := 12) hx hb hts inX0 hown hK hP 0 rfl rfl 6 (by decide) (hts _ q_78) (fun _ h9 => h9) rfl dX0_costOfWay_57 ?_
            refine lv_iload hx hb dX0_costOfWay_60 (lv_at hl 9 rfl) ?_
            refine lv_isub hx hb dX0_costOfWay_62 ?_
            refine lv_aload hx hb dX0_costOfWay_63 (lv_at hl 6 rfl) ?_
            refine cs_p (runV (As := [.int 0, .int ((G 5) - x7), .ref h9]) (rest := [.int x6]) ⟨hx, hb, hml, hown, hts⟩ (m_X0_tollWith l D kA h0 hw (G 0) (G 1) (G 2) (G 3) (G 4) (G 5) (G 6) (G 7) (G 8) (G 9) (G 10) h9 (R 0) (R 1) (R 2) (R 3) (R 4) (R 5) 0 ((G 5) - x7) ) q_331 q_332 q_333 q_4 q_334 hd_X0_tollWith ⟨rfl, rfl⟩ ⟨Nat.le_of_ble_eq_true rfl, Nat.le_of_ble_eq_true rfl⟩ hK (ws := [(h0, .inr (0, [.ref hw, .int (G 0), .int (G 1), .int (G 2), .int (G 3), .int (G 4), .int (G 5), .int (G 6), .int (G 7), .int (G 8), .int (G 9), .int (G 10)])), (h9, .inr (3, [.int (R 0), .int (R 1), .int (R 2), .int (R 3), .int (R 4), .int (R 5)]))]) (hP.sub [0, 2] rfl) (hD.sub [0, 2] (by decide) rfl) 0 (ci := 0) (C := RX0) (T := TX0) (N := 12) rfl rfl rfl hl.1 rfl (Nat.le_of_ble_eq_true rfl) dX0_costOfWay_65 ⟨Nat.zero_le _, Nat.zero_le _⟩) ?_
            refine lv_iadd hx hb dX0_costOfWay_68 ?_
            refine lv_istore (lv' := [(6, .int (x6 + (tlF (G 2) 0 ((G 5) - x7) (R 1)))), (9, .int 0), (8, .int (tW x5 p1)), (0, .ref h0), (1, .int p0), (2, .int p1), (3, .int p2), (4, .ref h9), (5, .int x5), (7, .int x7)]) hx hb dX0_costOfWay_69 hl (by decide) rfl (fun ls hl => ?_)
            refine lv_iload hx hb dX0_costOfWay_71 (lv_at hl 8 rfl) ?_
            refine lv_iload_n hx hb dX0_costOfWay_73 rfl (lv_at hl 5 rfl) ?_
            refine cs_p (runS (As := [.int x5, .int p1]) (rest := []) ⟨hx, hb, hml, hown, hts⟩ (m_X0_nextPlace l D kA x5 p1 ) q_391 q_392 q_4 q_393 hd_X0_nextPlace ⟨rfl, rfl⟩ ⟨Nat.le_of_ble_eq_true rfl, Nat.le_of_ble_eq_true rfl⟩ hK (ws := []) (hP.sub [] rfl) (hD.sub [] (by decide) rfl) rfl hl.1 rfl (Nat.le_of_ble_eq_true rfl) dX0_costOfWay_74 ⟨Nat.zero_le _, Nat.zero_le _⟩) ?_
            refine lv_istore (lv' := [(5, .int (nW x5 p1)), (6, .int (x6 + (tlF (G 2) 0 ((G 5) - x7) (R 1)))), (9, .int 0), (8, .int (tW x5 p1)), (0, .ref h0), (1, .int p0), (2, .int p1), (3, .int p2), (4, .ref h9), (7, .int x7)]) hx hb dX0_costOfWay_77 hl (by decide) rfl (fun ls hl => ?_)
            refine lv_iinc (v := x7 + 1) (lv' := [(7, .int (x7 + 1)), (5, .int (nW x5 p1)), (6, .int (x6 + (tlF (G 2) 0 ((G 5) - x7) (R 1)))), (9, .int 0), (8, .int (tW x5 p1)), (0, .ref h0), (1, .int p0), (2, .int p1), (3, .int p2), (4, .ref h9)]) hx hb dX0_costOfWay_79 hl (k := 9) rfl (by first | rfl | exact congrArg (_ + ·) (by decide)) (by decide) rfl (fun ls hl => ?_)
            refine lv_goto (tgt := 12) hx hb dX0_costOfWay_82 (by decide) ?_
            exact ih12 (j + 1) (nW x5 p1) (x6 + (tlF (G 2) 0 ((G 5) - x7) (R 1))) (x7 + 1) (by omega) (by rw [e7]; exact nI_1 j) (by rw [← hres]; simp only [coL, gwr, c_2, c_3, c_4, ↓reduceIte]) ls (lv_sub hl [5, 6, 7, 8, 9, 1, 2, 0] rfl)
  exact loop_12 24 0 (G 1) 0 0 (by omega) (nI_0.symm) (rfl) ls (lv_sub hl [3, 4, 5, 6, 7, 2, 1, 0] rfl)

theorem hd_X0_property : yX0_property.cls ≠ "java/lang/invoke/MethodHandle" ∧ yX0_property.cls ≠ "java/lang/invoke/VarHandle" ∧ (parseMethodDescriptor yX0_property.desc).map (fun d => d.parameters.length) = some 1 := by decide +kernel
set_option maxRecDepth 100000 in
set_option maxHeartbeats 4000000 in
theorem m_X0_property (l : Launch) (D : va_G) (kA : Nat → Nat) (h0 : Nat) (hw : Nat) (G : Nat → Int32) (p0 : Int32) : Met l yX0_property (Cond.code yX0_property cX0_property 2 (some .int) :: AW) ({ frames := 2, cells := 0, slots := 0, locals := 44 } : Room) (Pz [.ref h0, .int p0] D (TY kA) [(h0, gC hw G), (hw, wC kA G)]) (pQ (some (.int (propG G p0)))) 0 0 (fun _ => False) := by
  refine MetZ (by decide +kernel) (Nat.le_of_ble_eq_true rfl) ?_
  intro p e s m below meth c ls hx hb hrt hts hown hml hlk hnm hP hK hD hS hl
  have hl : lv_has ls 2 [(0, .ref h0), (1, .int p0)] := hl
  refine lv_iload_n hx hb dX0_property_0 rfl (lv_at hl 1 rfl) ?_
  by_cases c_1 : p0 = 0
  · skip
    refine lv_tableIn (off := 59) (tgt := 60) hx hb dX0_property_1 (by rw [c_1]; decide) (by rw [c_1]; decide) (by rw [c_1]; decide +kernel) (by decide) ?_
    refine lv_aload_n hx hb dX0_property_60 rfl (lv_at hl 0 rfl) ?_
    refine va_get (ci := 0) (v := .int (G 0)) (C := RX0) (T := TX0) (N := 12) hx hb hts inX0 hown hK hP 0 rfl rfl 1 (by decide) (hts _ q_69) (fun _ h9 => h9) rfl dX0_property_61 ?_
    exact end_pi hx hb hrt hlk (by rw [propG, if_pos c_1]) dX0_property_64
  by_cases c_2 : p0 = 1
  · skip
    refine lv_tableIn (off := 64) (tgt := 65) hx hb dX0_property_1 (by rw [c_2]; decide) (by rw [c_2]; decide) (by rw [c_2]; decide +kernel) (by decide) ?_
    refine lv_aload_n hx hb dX0_property_65 rfl (lv_at hl 0 rfl) ?_
    refine va_get (ci := 0) (v := .int (G 1)) (C := RX0) (T := TX0) (N := 12) hx hb hts inX0 hown hK hP 0 rfl rfl 2 (by decide) (hts _ q_71) (fun _ h9 => h9) rfl dX0_property_66 ?_
    exact end_pi hx hb hrt hlk (by rw [propG, if_neg c_1, if_pos c_2]) dX0_property_69
  by_cases c_3 : p0 = 2
  · skip
    refine lv_tableIn (off := 69) (tgt := 70) hx hb dX0_property_1 (by rw [c_3]; decide) (by rw [c_3]; decide) (by rw [c_3]; decide +kernel) (by decide) ?_
    refine lv_aload_n hx hb dX0_property_70 rfl (lv_at hl 0 rfl) ?_
    refine va_get (ci := 0) (v := .int (G 2)) (C := RX0) (T := TX0) (N := 12) hx hb hts inX0 hown hK hP 0 rfl rfl 3 (by decide) (hts _ q_74) (fun _ h9 => h9) rfl dX0_property_71 ?_
    exact end_pi hx hb hrt hlk (by rw [propG, if_neg c_1, if_neg c_2, if_pos c_3]) dX0_property_74
  by_cases c_4 : p0 = 3
  · skip
    refine lv_tableIn (off := 74) (tgt := 75) hx hb dX0_property_1 (by rw [c_4]; decide) (by rw [c_4]; decide) (by rw [c_4]; decide +kernel) (by decide) ?_
    refine lv_aload_n hx hb dX0_property_75 rfl (lv_at hl 0 rfl) ?_
    refine va_get (ci := 0) (v := .int (G 3)) (C := RX0) (T := TX0) (N := 12) hx hb hts inX0 hown hK hP 0 rfl rfl 4 (by decide) (hts _ q_76) (fun _ h9 => h9) rfl dX0_property_76 ?_
    exact end_pi hx hb hrt hlk (by rw [propG, if_neg c_1, if_neg c_2, if_neg c_3, if_pos c_4]) dX0_property_79
  by_cases c_5 : p0 = 4
  · skip
    refine lv_tableIn (off := 79) (tgt := 80) hx hb dX0_property_1 (by rw [c_5]; decide) (by rw [c_5]; decide) (by rw [c_5]; decide +kernel) (by decide) ?_
    refine lv_aload_n hx hb dX0_property_80 rfl (lv_at hl 0 rfl) ?_
    refine va_get (ci := 0) (v := .int (G 4)) (C := RX0) (T := TX0) (N := 12) hx hb hts inX0 hown hK hP 0 rfl rfl 5 (by decide) (hts _ q_77) (fun _ h9 => h9) rfl dX0_property_81 ?_
    exact end_pi hx hb hrt hlk (by rw [propG, if_neg c_1, if_neg c_2, if_neg c_3, if_neg c_4, if_pos c_5]) dX0_property_84
  by_cases c_6 : p0 = 5
  · skip
    refine lv_tableIn (off := 84) (tgt := 85) hx hb dX0_property_1 (by rw [c_6]; decide) (by rw [c_6]; decide) (by rw [c_6]; decide +kernel) (by decide) ?_
    refine lv_aload_n hx hb dX0_property_85 rfl (lv_at hl 0 rfl) ?_
    refine va_get (ci := 0) (v := .int (G 5)) (C := RX0) (T := TX0) (N := 12) hx hb hts inX0 hown hK hP 0 rfl rfl 6 (by decide) (hts _ q_78) (fun _ h9 => h9) rfl dX0_property_86 ?_
    exact end_pi hx hb hrt hlk (by rw [propG, if_neg c_1, if_neg c_2, if_neg c_3, if_neg c_4, if_neg c_5, if_pos c_6]) dX0_property_89
  by_cases c_7 : p0 = 6
  · skip
    refine lv_tableIn (off := 89) (tgt := 90) hx hb dX0_property_1 (by rw [c_7]; decide) (by rw [c_7]; decide) (by rw [c_7]; decide +kernel) (by decide) ?_
    refine lv_aload_n hx hb dX0_property_90 rfl (lv_at hl 0 rfl) ?_
    refine va_get (ci := 0) (v := .int (G 6)) (C := RX0) (T := TX0) (N := 12) hx hb hts inX0 hown hK hP 0 rfl rfl 7 (by decide) (hts _ q_80) (fun _ h9 => h9) rfl dX0_property_91 ?_
    exact end_pi hx hb hrt hlk (by rw [propG, if_neg c_1, if_neg c_2, if_neg c_3, if_neg c_4, if_neg c_5, if_neg c_6, if_pos c_7]) dX0_property_94
  by_cases c_8 : p0 = 7
  · skip
    refine lv_tableIn (off := 94) (tgt := 95) hx hb dX0_property_1 (by rw [c_8]; decide) (by rw [c_8]; decide) (by rw [c_8]; decide +kernel) (by decide) ?_
    refine lv_aload_n hx hb dX0_property_95 rfl (lv_at hl 0 rfl) ?_
    refine va_get (ci := 0) (v := .int (G 7)) (C := RX0) (T := TX0) (N := 12) hx hb hts inX0 hown hK hP 0 rfl rfl 8 (by decide) (hts _ q_82) (fun _ h9 => h9) rfl dX0_property_96 ?_
    exact end_pi hx hb hrt hlk (by rw [propG, if_neg c_1, if_neg c_2, if_neg c_3, if_neg c_4, if_neg c_5, if_neg c_6, if_neg c_7, if_pos c_8]) dX0_property_99
  by_cases c_9 : p0 = 8
  · skip
    refine lv_tableIn (off := 99) (tgt := 100) hx hb dX0_property_1 (by rw [c_9]; decide) (by rw [c_9]; decide) (by rw [c_9]; decide +kernel) (by decide) ?_
    refine lv_aload_n hx hb dX0_property_100 rfl (lv_at hl 0 rfl) ?_
    refine va_get (ci := 0) (v := .int (G 8)) (C := RX0) (T := TX0) (N := 12) hx hb hts inX0 hown hK hP 0 rfl rfl 9 (by decide) (hts _ q_83) (fun _ h9 => h9) rfl dX0_property_101 ?_
    exact end_pi hx hb hrt hlk (by rw [propG, if_neg c_1, if_neg c_2, if_neg c_3, if_neg c_4, if_neg c_5, if_neg c_6, if_neg c_7, if_neg c_8, if_pos c_9]) dX0_property_104
  by_cases c_10 : p0 = 9
  · skip
    refine lv_tableIn (off := 104) (tgt := 105) hx hb dX0_property_1 (by rw [c_10]; decide) (by rw [c_10]; decide) (by rw [c_10]; decide +kernel) (by decide) ?_
    refine lv_aload_n hx hb dX0_property_105 rfl (lv_at hl 0 rfl) ?_
    refine va_get (ci := 0) (v := .int (G 0)) (C := RX0) (T := TX0) (N := 12) hx hb hts inX0 hown hK hP 0 rfl rfl 1 (by decide) (hts _ q_69) (fun _ h9 => h9) rfl dX0_property_106 ?_
    refine lv_aload_n hx hb dX0_property_109 rfl (lv_at hl 0 rfl) ?_
    refine va_get (ci := 0) (v := .int (G 1)) (C := RX0) (T := TX0) (N := 12) hx hb hts inX0 hown hK hP 0 rfl rfl 2 (by decide) (hts _ q_71) (fun _ h9 => h9) rfl dX0_property_110 ?_
    refine cs_p (runS (As := [.int (G 0), .int (G 1)]) (rest := []) ⟨hx, hb, hml, hown, hts⟩ (m_X0_distance l D kA (G 0) (G 1) ) q_534 q_535 q_4 q_536 hd_X0_distance ⟨rfl, rfl⟩ ⟨Nat.le_of_ble_eq_true rfl, Nat.le_of_ble_eq_true rfl⟩ hK (ws := []) (hP.sub [] rfl) (hD.sub [] (by decide) rfl) rfl hl.1 rfl (Nat.le_of_ble_eq_true rfl) dX0_property_113 ⟨Nat.zero_le _, Nat.zero_le _⟩) ?_
    exact end_pi hx hb hrt hlk (by rw [propG, if_neg c_1, if_neg c_2, if_neg c_3, if_neg c_4, if_neg c_5, if_neg c_6, if_neg c_7, if_neg c_8, if_neg c_9, if_pos c_10]) dX0_property_116
  by_cases c_11 : p0 = 10
  · skip
    refine lv_tableIn (off := 116) (tgt := 117) hx hb dX0_property_1 (by rw [c_11]; decide) (by rw [c_11]; decide) (by rw [c_11]; decide +kernel) (by decide) ?_
    refine lv_aload_n hx hb dX0_property_117 rfl (lv_at hl 0 rfl) ?_
    refine va_get (ci := 0) (v := .int (G 9)) (C := RX0) (T := TX0) (N := 12) hx hb hts inX0 hown hK hP 0 rfl rfl 10 (by decide) (hts _ q_84) (fun _ h9 => h9) rfl dX0_property_118 ?_
    exact end_pi hx hb hrt hlk (by rw [propG, if_neg c_1, if_neg c_2, if_neg c_3, if_neg c_4, if_neg c_5, if_neg c_6, if_neg c_7, if_neg c_8, if_neg c_9, if_neg c_10, if_pos c_11]) dX0_property_121
  refine lv_tableOut (tgt := 122) hx hb dX0_property_1 (sw_out 0 10 (by intro k h1 h2; rcases (show k = 0 ∨ k = 1 ∨ k = 2 ∨ k = 3 ∨ k = 4 ∨ k = 5 ∨ k = 6 ∨ k = 7 ∨ k = 8 ∨ k = 9 ∨ k = 10 by omega) with rfl | rfl | rfl | rfl | rfl | rfl | rfl | rfl | rfl | rfl | rfl <;> first | exact lv_neT c_1 (by decide) | exact lv_neT c_2 (by decide) | exact lv_neT c_3 (by decide) | exact lv_neT c_4 (by decide) | exact lv_neT c_5 (by decide) | exact lv_neT c_6 (by decide) | exact lv_neT c_7 (by decide) | exact lv_neT c_8 (by decide) | exact lv_neT c_9 (by decide) | exact lv_neT c_10 (by decide) | exact lv_neT c_11 (by decide))) (by decide) ?_
  refine lv_aload_n hx hb dX0_property_122 rfl (lv_at hl 0 rfl) ?_
  refine va_get (ci := 0) (v := .int (G 10)) (C := RX0) (T := TX0) (N := 12) hx hb hts inX0 hown hK hP 0 rfl rfl 11 (by decide) (hts _ q_85) (fun _ h9 => h9) rfl dX0_property_123 ?_
  exact end_pi hx hb hrt hlk (by rw [propG, if_neg c_1, if_neg c_2, if_neg c_3, if_neg c_4, if_neg c_5, if_neg c_6, if_neg c_7, if_neg c_8, if_neg c_9, if_neg c_10, if_neg c_11]) dX0_property_126

theorem hd_X0_copyFrom : yX0_copyFrom.cls ≠ "java/lang/invoke/MethodHandle" ∧ yX0_copyFrom.cls ≠ "java/lang/invoke/VarHandle" ∧ (parseMethodDescriptor yX0_copyFrom.desc).map (fun d => d.parameters.length) = some 1 := by decide +kernel
set_option maxRecDepth 100000 in
set_option maxHeartbeats 4000000 in
theorem m_X0_copyFrom (l : Launch) (D : va_G) (kA : Nat → Nat) (h0 : Nat) (hw : Nat) (G : Nat → Int32) (h1 : Nat) (hx1 : Nat) (G1 : Nat → Int32) : Met l yX0_copyFrom (Cond.code yX0_copyFrom cX0_copyFrom 2 none :: AW) ({ frames := 1, cells := 0, slots := 0, locals := 60 } : Room) (Pz [.ref h0, .ref h1] D (TY kA) [(h0, gC hw G), (hw, wC kA G), (h1, gC hx1 G1), (hx1, wC kA G1)]) (fQ none D [(h0, gC hw G), (hw, wC kA G), (h1, gC hx1 G1), (hx1, wC kA G1)] [(h0, gC hw G1), (hw, wC kA G1), (h1, gC hx1 G1), (hx1, wC kA G1)]) 0 0 (Aw [(h0, gC hw G), (hw, wC kA G), (h1, gC hx1 G1), (hx1, wC kA G1)]) := by
  refine MetZ (by decide +kernel) (Nat.le_of_ble_eq_true rfl) ?_
  intro p e s m below meth c ls hx hb hrt hts hown hml hlk hnm hP hK hD hS hl
  have hl : lv_has ls 2 [(0, .ref h0), (1, .ref h1)] := hl
  refine lv_aload_n hx hb dX0_copyFrom_0 rfl (lv_at hl 1 rfl) ?_
  refine va_get (ci := 0) (v := .ref hx1) (C := RX0) (T := TX0) (N := 12) hx hb hts inX0 hown hK hP 2 rfl rfl 0 (by decide) (hts _ q_68) (fun _ h9 => h9) rfl dX0_copyFrom_1 ?_
  refine lv_iconst (v := 0) hx hb dX0_copyFrom_4 (by decide) ?_
  refine lv_aload_n hx hb dX0_copyFrom_5 rfl (lv_at hl 0 rfl) ?_
  refine va_get (ci := 0) (v := .ref hw) (C := RX0) (T := TX0) (N := 12) hx hb hts inX0 hown hK hP 0 rfl rfl 0 (by decide) (hts _ q_68) (fun _ h9 => h9) rfl dX0_copyFrom_6 ?_
  refine lv_iconst (v := 0) hx hb dX0_copyFrom_9 (by decide) ?_
  refine lv_aload_n hx hb dX0_copyFrom_10 rfl (lv_at hl 1 rfl) ?_
  refine va_get (ci := 0) (v := .ref hx1) (C := RX0) (T := TX0) (N := 12) hx hb hts inX0 hown hK hP 2 rfl rfl 0 (by decide) (hts _ q_68) (fun _ h9 => h9) rfl dX0_copyFrom_11 ?_
  refine va_alen (v := 24) hx hb hK hP 3 0 rfl rfl rfl dX0_copyFrom_14 ?_
  refine lv_aload_n hx hb dX0_copyFrom_15 rfl (lv_at hl 0 rfl) ?_
  refine va_get (ci := 0) (v := .ref hw) (C := RX0) (T := TX0) (N := 12) hx hb hts inX0 hown hK hP 0 rfl rfl 0 (by decide) (hts _ q_68) (fun _ h9 => h9) rfl dX0_copyFrom_16 ?_
  refine va_alen (v := 24) hx hb hK hP 1 0 rfl rfl rfl dX0_copyFrom_19 ?_
  refine va_mmin hx hb (hml.trans hl.1.symm) hown (hts _ q_375) (hts _ q_356) (hts _ q_12) (hts _ q_357) (Nat.le_of_ble_eq_true rfl) (Nat.le_of_ble_eq_true rfl) (Nat.zero_le _) (Nat.zero_le _) dX0_copyFrom_20 ?_
  rw [show (if (24 : Int32) < 24 then (24 : Int32) else 24) = 24 from by decide]
  refine va_copyi (f := fun t => G1 (t + 11)) (g := fun t => G (t + 11)) hx hb (hml.trans hl.1.symm) hown (hts _ q_376) (hts _ q_378) (hts _ q_377) (hts _ q_13) hK hP hD hS 3 1 0 0 rfl rfl rfl rfl rfl (by decide) (by decide) (by decide) (by decide) (by decide) (fun _ _ => rfl) (Nat.le_of_ble_eq_true rfl) (Nat.le_of_ble_eq_true rfl) dX0_copyFrom_23 (fun H locs hP hD hS => ?_)
  have hP : va_P D vwCl [(h0, gC hw G), (hw, .inl (kA 0, 24, .inl (va_cpy (fun t => G1 (t + 11)) (fun t => G (t + 11)) (0 : Int32).toNatClampNeg (0 : Int32).toNatClampNeg (24 : Int32).toNatClampNeg))), (h1, gC hx1 G1), (hx1, wC kA G1)] H := hP
  have hD : va_D (Aw [(h0, gC hw G), (hw, wC kA G), (h1, gC hx1 G1), (hx1, wC kA G1)]) [(h0, gC hw G), (hw, .inl (kA 0, 24, .inl (va_cpy (fun t => G1 (t + 11)) (fun t => G (t + 11)) (0 : Int32).toNatClampNeg (0 : Int32).toNatClampNeg (24 : Int32).toNatClampNeg))), (h1, gC hx1 G1), (hx1, wC kA G1)] := hD
  refine lv_aload_n hx hb dX0_copyFrom_26 rfl (lv_at hl 0 rfl) ?_
  refine lv_aload_n hx hb dX0_copyFrom_27 rfl (lv_at hl 1 rfl) ?_
  refine va_get (ci := 0) (v := .int (G1 0)) (C := RX0) (T := TX0) (N := 12) hx hb hts inX0 hown hK hP 2 rfl rfl 1 (by decide) (hts _ q_69) (fun _ h9 => h9) rfl dX0_copyFrom_28 ?_
  refine va_put (ci := 0) (v := .int (G1 0)) (ty := tyX0 1) (C := RX0) (T := TX0) (N := 12) hx hb hts inX0 tyX0 tyX0_ok nmX0 hown hK hP hD hS 0 rfl rfl 1 (by decide) (hts _ q_69) (fun _ h9 => h9) rfl (tyX0_ok 1 (by decide)) rfl rfl (Nat.le_of_ble_eq_true rfl) dX0_copyFrom_31 (fun H locs hP hD hS => ?_)
  have hP : va_P D vwCl [(h0, .inr (0, [.ref hw, .int (G1 0), .int (G 1), .int (G 2), .int (G 3), .int (G 4), .int (G 5), .int (G 6), .int (G 7), .int (G 8), .int (G 9), .int (G 10)])), (hw, .inl (kA 0, 24, .inl (va_cpy (fun t => G1 (t + 11)) (fun t => G (t + 11)) (0 : Int32).toNatClampNeg (0 : Int32).toNatClampNeg (24 : Int32).toNatClampNeg))), (h1, gC hx1 G1), (hx1, wC kA G1)] H := hP
  have hD : va_D (Aw [(h0, gC hw G), (hw, wC kA G), (h1, gC hx1 G1), (hx1, wC kA G1)]) [(h0, .inr (0, [.ref hw, .int (G1 0), .int (G 1), .int (G 2), .int (G 3), .int (G 4), .int (G 5), .int (G 6), .int (G 7), .int (G 8), .int (G 9), .int (G 10)])), (hw, .inl (kA 0, 24, .inl (va_cpy (fun t => G1 (t + 11)) (fun t => G (t + 11)) (0 : Int32).toNatClampNeg (0 : Int32).toNatClampNeg (24 : Int32).toNatClampNeg))), (h1, gC hx1 G1), (hx1, wC kA G1)] := hD
  refine lv_aload_n hx hb dX0_copyFrom_34 rfl (lv_at hl 0 rfl) ?_
  refine lv_aload_n hx hb dX0_copyFrom_35 rfl (lv_at hl 1 rfl) ?_
  refine va_get (ci := 0) (v := .int (G1 1)) (C := RX0) (T := TX0) (N := 12) hx hb hts inX0 hown hK hP 2 rfl rfl 2 (by decide) (hts _ q_71) (fun _ h9 => h9) rfl dX0_copyFrom_36 ?_
  refine va_put (ci := 0) (v := .int (G1 1)) (ty := tyX0 2) (C := RX0) (T := TX0) (N := 12) hx hb hts inX0 tyX0 tyX0_ok nmX0 hown hK hP hD hS 0 rfl rfl 2 (by decide) (hts _ q_71) (fun _ h9 => h9) rfl (tyX0_ok 2 (by decide)) rfl rfl (Nat.le_of_ble_eq_true rfl) dX0_copyFrom_39 (fun H locs hP hD hS => ?_)
  have hP : va_P D vwCl [(h0, .inr (0, [.ref hw, .int (G1 0), .int (G1 1), .int (G 2), .int (G 3), .int (G 4), .int (G 5), .int (G 6), .int (G 7), .int (G 8), .int (G 9), .int (G 10)])), (hw, .inl (kA 0, 24, .inl (va_cpy (fun t => G1 (t + 11)) (fun t => G (t + 11)) (0 : Int32).toNatClampNeg (0 : Int32).toNatClampNeg (24 : Int32).toNatClampNeg))), (h1, gC hx1 G1), (hx1, wC kA G1)] H := hP
  have hD : va_D (Aw [(h0, gC hw G), (hw, wC kA G), (h1, gC hx1 G1), (hx1, wC kA G1)]) [(h0, .inr (0, [.ref hw, .int (G1 0), .int (G1 1), .int (G 2), .int (G 3), .int (G 4), .int (G 5), .int (G 6), .int (G 7), .int (G 8), .int (G 9), .int (G 10)])), (hw, .inl (kA 0, 24, .inl (va_cpy (fun t => G1 (t + 11)) (fun t => G (t + 11)) (0 : Int32).toNatClampNeg (0 : Int32).toNatClampNeg (24 : Int32).toNatClampNeg))), (h1, gC hx1 G1), (hx1, wC kA G1)] := hD
  refine lv_aload_n hx hb dX0_copyFrom_42 rfl (lv_at hl 0 rfl) ?_
  refine lv_aload_n hx hb dX0_copyFrom_43 rfl (lv_at hl 1 rfl) ?_
  refine va_get (ci := 0) (v := .int (G1 2)) (C := RX0) (T := TX0) (N := 12) hx hb hts inX0 hown hK hP 2 rfl rfl 3 (by decide) (hts _ q_74) (fun _ h9 => h9) rfl dX0_copyFrom_44 ?_
  refine va_put (ci := 0) (v := .int (G1 2)) (ty := tyX0 3) (C := RX0) (T := TX0) (N := 12) hx hb hts inX0 tyX0 tyX0_ok nmX0 hown hK hP hD hS 0 rfl rfl 3 (by decide) (hts _ q_74) (fun _ h9 => h9) rfl (tyX0_ok 3 (by decide)) rfl rfl (Nat.le_of_ble_eq_true rfl) dX0_copyFrom_47 (fun H locs hP hD hS => ?_)
  have hP : va_P D vwCl [(h0, .inr (0, [.ref hw, .int (G1 0), .int (G1 1), .int (G1 2), .int (G 3), .int (G 4), .int (G 5), .int (G 6), .int (G 7), .int (G 8), .int (G 9), .int (G 10)])), (hw, .inl (kA 0, 24, .inl (va_cpy (fun t => G1 (t + 11)) (fun t => G (t + 11)) (0 : Int32).toNatClampNeg (0 : Int32).toNatClampNeg (24 : Int32).toNatClampNeg))), (h1, gC hx1 G1), (hx1, wC kA G1)] H := hP
  have hD : va_D (Aw [(h0, gC hw G), (hw, wC kA G), (h1, gC hx1 G1), (hx1, wC kA G1)]) [(h0, .inr (0, [.ref hw, .int (G1 0), .int (G1 1), .int (G1 2), .int (G 3), .int (G 4), .int (G 5), .int (G 6), .int (G 7), .int (G 8), .int (G 9), .int (G 10)])), (hw, .inl (kA 0, 24, .inl (va_cpy (fun t => G1 (t + 11)) (fun t => G (t + 11)) (0 : Int32).toNatClampNeg (0 : Int32).toNatClampNeg (24 : Int32).toNatClampNeg))), (h1, gC hx1 G1), (hx1, wC kA G1)] := hD
  refine lv_aload_n hx hb dX0_copyFrom_50 rfl (lv_at hl 0 rfl) ?_
  refine lv_aload_n hx hb dX0_copyFrom_51 rfl (lv_at hl 1 rfl) ?_
  refine va_get (ci := 0) (v := .int (G1 3)) (C := RX0) (T := TX0) (N := 12) hx hb hts inX0 hown hK hP 2 rfl rfl 4 (by decide) (hts _ q_76) (fun _ h9 => h9) rfl dX0_copyFrom_52 ?_
  refine va_put (ci := 0) (v := .int (G1 3)) (ty := tyX0 4) (C := RX0) (T := TX0) (N := 12) hx hb hts inX0 tyX0 tyX0_ok nmX0 hown hK hP hD hS 0 rfl rfl 4 (by decide) (hts _ q_76) (fun _ h9 => h9) rfl (tyX0_ok 4 (by decide)) rfl rfl (Nat.le_of_ble_eq_true rfl) dX0_copyFrom_55 (fun H locs hP hD hS => ?_)
  have hP : va_P D vwCl [(h0, .inr (0, [.ref hw, .int (G1 0), .int (G1 1), .int (G1 2), .int (G1 3), .int (G 4), .int (G 5), .int (G 6), .int (G 7), .int (G 8), .int (G 9), .int (G 10)])), (hw, .inl (kA 0, 24, .inl (va_cpy (fun t => G1 (t + 11)) (fun t => G (t + 11)) (0 : Int32).toNatClampNeg (0 : Int32).toNatClampNeg (24 : Int32).toNatClampNeg))), (h1, gC hx1 G1), (hx1, wC kA G1)] H := hP
  have hD : va_D (Aw [(h0, gC hw G), (hw, wC kA G), (h1, gC hx1 G1), (hx1, wC kA G1)]) [(h0, .inr (0, [.ref hw, .int (G1 0), .int (G1 1), .int (G1 2), .int (G1 3), .int (G 4), .int (G 5), .int (G 6), .int (G 7), .int (G 8), .int (G 9), .int (G 10)])), (hw, .inl (kA 0, 24, .inl (va_cpy (fun t => G1 (t + 11)) (fun t => G (t + 11)) (0 : Int32).toNatClampNeg (0 : Int32).toNatClampNeg (24 : Int32).toNatClampNeg))), (h1, gC hx1 G1), (hx1, wC kA G1)] := hD
  refine lv_aload_n hx hb dX0_copyFrom_58 rfl (lv_at hl 0 rfl) ?_
  refine lv_aload_n hx hb dX0_copyFrom_59 rfl (lv_at hl 1 rfl) ?_
  refine va_get (ci := 0) (v := .int (G1 4)) (C := RX0) (T := TX0) (N := 12) hx hb hts inX0 hown hK hP 2 rfl rfl 5 (by decide) (hts _ q_77) (fun _ h9 => h9) rfl dX0_copyFrom_60 ?_
  refine va_put (ci := 0) (v := .int (G1 4)) (ty := tyX0 5) (C := RX0) (T := TX0) (N := 12) hx hb hts inX0 tyX0 tyX0_ok nmX0 hown hK hP hD hS 0 rfl rfl 5 (by decide) (hts _ q_77) (fun _ h9 => h9) rfl (tyX0_ok 5 (by decide)) rfl rfl (Nat.le_of_ble_eq_true rfl) dX0_copyFrom_63 (fun H locs hP hD hS => ?_)
  have hP : va_P D vwCl [(h0, .inr (0, [.ref hw, .int (G1 0), .int (G1 1), .int (G1 2), .int (G1 3), .int (G1 4), .int (G 5), .int (G 6), .int (G 7), .int (G 8), .int (G 9), .int (G 10)])), (hw, .inl (kA 0, 24, .inl (va_cpy (fun t => G1 (t + 11)) (fun t => G (t + 11)) (0 : Int32).toNatClampNeg (0 : Int32).toNatClampNeg (24 : Int32).toNatClampNeg))), (h1, gC hx1 G1), (hx1, wC kA G1)] H := hP
  have hD : va_D (Aw [(h0, gC hw G), (hw, wC kA G), (h1, gC hx1 G1), (hx1, wC kA G1)]) [(h0, .inr (0, [.ref hw, .int (G1 0), .int (G1 1), .int (G1 2), .int (G1 3), .int (G1 4), .int (G 5), .int (G 6), .int (G 7), .int (G 8), .int (G 9), .int (G 10)])), (hw, .inl (kA 0, 24, .inl (va_cpy (fun t => G1 (t + 11)) (fun t => G (t + 11)) (0 : Int32).toNatClampNeg (0 : Int32).toNatClampNeg (24 : Int32).toNatClampNeg))), (h1, gC hx1 G1), (hx1, wC kA G1)] := hD
  refine lv_aload_n hx hb dX0_copyFrom_66 rfl (lv_at hl 0 rfl) ?_
  refine lv_aload_n hx hb dX0_copyFrom_67 rfl (lv_at hl 1 rfl) ?_
  refine va_get (ci := 0) (v := .int (G1 5)) (C := RX0) (T := TX0) (N := 12) hx hb hts inX0 hown hK hP 2 rfl rfl 6 (by decide) (hts _ q_78) (fun _ h9 => h9) rfl dX0_copyFrom_68 ?_
  refine va_put (ci := 0) (v := .int (G1 5)) (ty := tyX0 6) (C := RX0) (T := TX0) (N := 12) hx hb hts inX0 tyX0 tyX0_ok nmX0 hown hK hP hD hS 0 rfl rfl 6 (by decide) (hts _ q_78) (fun _ h9 => h9) rfl (tyX0_ok 6 (by decide)) rfl rfl (Nat.le_of_ble_eq_true rfl) dX0_copyFrom_71 (fun H locs hP hD hS => ?_)
  have hP : va_P D vwCl [(h0, .inr (0, [.ref hw, .int (G1 0), .int (G1 1), .int (G1 2), .int (G1 3), .int (G1 4), .int (G1 5), .int (G 6), .int (G 7), .int (G 8), .int (G 9), .int (G 10)])), (hw, .inl (kA 0, 24, .inl (va_cpy (fun t => G1 (t + 11)) (fun t => G (t + 11)) (0 : Int32).toNatClampNeg (0 : Int32).toNatClampNeg (24 : Int32).toNatClampNeg))), (h1, gC hx1 G1), (hx1, wC kA G1)] H := hP
  have hD : va_D (Aw [(h0, gC hw G), (hw, wC kA G), (h1, gC hx1 G1), (hx1, wC kA G1)]) [(h0, .inr (0, [.ref hw, .int (G1 0), .int (G1 1), .int (G1 2), .int (G1 3), .int (G1 4), .int (G1 5), .int (G 6), .int (G 7), .int (G 8), .int (G 9), .int (G 10)])), (hw, .inl (kA 0, 24, .inl (va_cpy (fun t => G1 (t + 11)) (fun t => G (t + 11)) (0 : Int32).toNatClampNeg (0 : Int32).toNatClampNeg (24 : Int32).toNatClampNeg))), (h1, gC hx1 G1), (hx1, wC kA G1)] := hD
  refine lv_aload_n hx hb dX0_copyFrom_74 rfl (lv_at hl 0 rfl) ?_
  refine lv_aload_n hx hb dX0_copyFrom_75 rfl (lv_at hl 1 rfl) ?_
  refine va_get (ci := 0) (v := .int (G1 6)) (C := RX0) (T := TX0) (N := 12) hx hb hts inX0 hown hK hP 2 rfl rfl 7 (by decide) (hts _ q_80) (fun _ h9 => h9) rfl dX0_copyFrom_76 ?_
  refine va_put (ci := 0) (v := .int (G1 6)) (ty := tyX0 7) (C := RX0) (T := TX0) (N := 12) hx hb hts inX0 tyX0 tyX0_ok nmX0 hown hK hP hD hS 0 rfl rfl 7 (by decide) (hts _ q_80) (fun _ h9 => h9) rfl (tyX0_ok 7 (by decide)) rfl rfl (Nat.le_of_ble_eq_true rfl) dX0_copyFrom_79 (fun H locs hP hD hS => ?_)
  have hP : va_P D vwCl [(h0, .inr (0, [.ref hw, .int (G1 0), .int (G1 1), .int (G1 2), .int (G1 3), .int (G1 4), .int (G1 5), .int (G1 6), .int (G 7), .int (G 8), .int (G 9), .int (G 10)])), (hw, .inl (kA 0, 24, .inl (va_cpy (fun t => G1 (t + 11)) (fun t => G (t + 11)) (0 : Int32).toNatClampNeg (0 : Int32).toNatClampNeg (24 : Int32).toNatClampNeg))), (h1, gC hx1 G1), (hx1, wC kA G1)] H := hP
  have hD : va_D (Aw [(h0, gC hw G), (hw, wC kA G), (h1, gC hx1 G1), (hx1, wC kA G1)]) [(h0, .inr (0, [.ref hw, .int (G1 0), .int (G1 1), .int (G1 2), .int (G1 3), .int (G1 4), .int (G1 5), .int (G1 6), .int (G 7), .int (G 8), .int (G 9), .int (G 10)])), (hw, .inl (kA 0, 24, .inl (va_cpy (fun t => G1 (t + 11)) (fun t => G (t + 11)) (0 : Int32).toNatClampNeg (0 : Int32).toNatClampNeg (24 : Int32).toNatClampNeg))), (h1, gC hx1 G1), (hx1, wC kA G1)] := hD
  refine lv_aload_n hx hb dX0_copyFrom_82 rfl (lv_at hl 0 rfl) ?_
  refine lv_aload_n hx hb dX0_copyFrom_83 rfl (lv_at hl 1 rfl) ?_
  refine va_get (ci := 0) (v := .int (G1 7)) (C := RX0) (T := TX0) (N := 12) hx hb hts inX0 hown hK hP 2 rfl rfl 8 (by decide) (hts _ q_82) (fun _ h9 => h9) rfl dX0_copyFrom_84 ?_
  refine va_put (ci := 0) (v := .int (G1 7)) (ty := tyX0 8) (C := RX0) (T := TX0) (N := 12) hx hb hts inX0 tyX0 tyX0_ok nmX0 hown hK hP hD hS 0 rfl rfl 8 (by decide) (hts _ q_82) (fun _ h9 => h9) rfl (tyX0_ok 8 (by decide)) rfl rfl (Nat.le_of_ble_eq_true rfl) dX0_copyFrom_87 (fun H locs hP hD hS => ?_)
  have hP : va_P D vwCl [(h0, .inr (0, [.ref hw, .int (G1 0), .int (G1 1), .int (G1 2), .int (G1 3), .int (G1 4), .int (G1 5), .int (G1 6), .int (G1 7), .int (G 8), .int (G 9), .int (G 10)])), (hw, .inl (kA 0, 24, .inl (va_cpy (fun t => G1 (t + 11)) (fun t => G (t + 11)) (0 : Int32).toNatClampNeg (0 : Int32).toNatClampNeg (24 : Int32).toNatClampNeg))), (h1, gC hx1 G1), (hx1, wC kA G1)] H := hP
  have hD : va_D (Aw [(h0, gC hw G), (hw, wC kA G), (h1, gC hx1 G1), (hx1, wC kA G1)]) [(h0, .inr (0, [.ref hw, .int (G1 0), .int (G1 1), .int (G1 2), .int (G1 3), .int (G1 4), .int (G1 5), .int (G1 6), .int (G1 7), .int (G 8), .int (G 9), .int (G 10)])), (hw, .inl (kA 0, 24, .inl (va_cpy (fun t => G1 (t + 11)) (fun t => G (t + 11)) (0 : Int32).toNatClampNeg (0 : Int32).toNatClampNeg (24 : Int32).toNatClampNeg))), (h1, gC hx1 G1), (hx1, wC kA G1)] := hD
  refine lv_aload_n hx hb dX0_copyFrom_90 rfl (lv_at hl 0 rfl) ?_
  refine lv_aload_n hx hb dX0_copyFrom_91 rfl (lv_at hl 1 rfl) ?_
  refine va_get (ci := 0) (v := .int (G1 8)) (C := RX0) (T := TX0) (N := 12) hx hb hts inX0 hown hK hP 2 rfl rfl 9 (by decide) (hts _ q_83) (fun _ h9 => h9) rfl dX0_copyFrom_92 ?_
  refine va_put (ci := 0) (v := .int (G1 8)) (ty := tyX0 9) (C := RX0) (T := TX0) (N := 12) hx hb hts inX0 tyX0 tyX0_ok nmX0 hown hK hP hD hS 0 rfl rfl 9 (by decide) (hts _ q_83) (fun _ h9 => h9) rfl (tyX0_ok 9 (by decide)) rfl rfl (Nat.le_of_ble_eq_true rfl) dX0_copyFrom_95 (fun H locs hP hD hS => ?_)
  have hP : va_P D vwCl [(h0, .inr (0, [.ref hw, .int (G1 0), .int (G1 1), .int (G1 2), .int (G1 3), .int (G1 4), .int (G1 5), .int (G1 6), .int (G1 7), .int (G1 8), .int (G 9), .int (G 10)])), (hw, .inl (kA 0, 24, .inl (va_cpy (fun t => G1 (t + 11)) (fun t => G (t + 11)) (0 : Int32).toNatClampNeg (0 : Int32).toNatClampNeg (24 : Int32).toNatClampNeg))), (h1, gC hx1 G1), (hx1, wC kA G1)] H := hP
  have hD : va_D (Aw [(h0, gC hw G), (hw, wC kA G), (h1, gC hx1 G1), (hx1, wC kA G1)]) [(h0, .inr (0, [.ref hw, .int (G1 0), .int (G1 1), .int (G1 2), .int (G1 3), .int (G1 4), .int (G1 5), .int (G1 6), .int (G1 7), .int (G1 8), .int (G 9), .int (G 10)])), (hw, .inl (kA 0, 24, .inl (va_cpy (fun t => G1 (t + 11)) (fun t => G (t + 11)) (0 : Int32).toNatClampNeg (0 : Int32).toNatClampNeg (24 : Int32).toNatClampNeg))), (h1, gC hx1 G1), (hx1, wC kA G1)] := hD
  refine lv_aload_n hx hb dX0_copyFrom_98 rfl (lv_at hl 0 rfl) ?_
  refine lv_aload_n hx hb dX0_copyFrom_99 rfl (lv_at hl 1 rfl) ?_
  refine va_get (ci := 0) (v := .int (G1 9)) (C := RX0) (T := TX0) (N := 12) hx hb hts inX0 hown hK hP 2 rfl rfl 10 (by decide) (hts _ q_84) (fun _ h9 => h9) rfl dX0_copyFrom_100 ?_
  refine va_put (ci := 0) (v := .int (G1 9)) (ty := tyX0 10) (C := RX0) (T := TX0) (N := 12) hx hb hts inX0 tyX0 tyX0_ok nmX0 hown hK hP hD hS 0 rfl rfl 10 (by decide) (hts _ q_84) (fun _ h9 => h9) rfl (tyX0_ok 10 (by decide)) rfl rfl (Nat.le_of_ble_eq_true rfl) dX0_copyFrom_103 (fun H locs hP hD hS => ?_)
  have hP : va_P D vwCl [(h0, .inr (0, [.ref hw, .int (G1 0), .int (G1 1), .int (G1 2), .int (G1 3), .int (G1 4), .int (G1 5), .int (G1 6), .int (G1 7), .int (G1 8), .int (G1 9), .int (G 10)])), (hw, .inl (kA 0, 24, .inl (va_cpy (fun t => G1 (t + 11)) (fun t => G (t + 11)) (0 : Int32).toNatClampNeg (0 : Int32).toNatClampNeg (24 : Int32).toNatClampNeg))), (h1, gC hx1 G1), (hx1, wC kA G1)] H := hP
  have hD : va_D (Aw [(h0, gC hw G), (hw, wC kA G), (h1, gC hx1 G1), (hx1, wC kA G1)]) [(h0, .inr (0, [.ref hw, .int (G1 0), .int (G1 1), .int (G1 2), .int (G1 3), .int (G1 4), .int (G1 5), .int (G1 6), .int (G1 7), .int (G1 8), .int (G1 9), .int (G 10)])), (hw, .inl (kA 0, 24, .inl (va_cpy (fun t => G1 (t + 11)) (fun t => G (t + 11)) (0 : Int32).toNatClampNeg (0 : Int32).toNatClampNeg (24 : Int32).toNatClampNeg))), (h1, gC hx1 G1), (hx1, wC kA G1)] := hD
  refine lv_aload_n hx hb dX0_copyFrom_106 rfl (lv_at hl 0 rfl) ?_
  refine lv_aload_n hx hb dX0_copyFrom_107 rfl (lv_at hl 1 rfl) ?_
  refine va_get (ci := 0) (v := .int (G1 10)) (C := RX0) (T := TX0) (N := 12) hx hb hts inX0 hown hK hP 2 rfl rfl 11 (by decide) (hts _ q_85) (fun _ h9 => h9) rfl dX0_copyFrom_108 ?_
  refine va_put (ci := 0) (v := .int (G1 10)) (ty := tyX0 11) (C := RX0) (T := TX0) (N := 12) hx hb hts inX0 tyX0 tyX0_ok nmX0 hown hK hP hD hS 0 rfl rfl 11 (by decide) (hts _ q_85) (fun _ h9 => h9) rfl (tyX0_ok 11 (by decide)) rfl rfl (Nat.le_of_ble_eq_true rfl) dX0_copyFrom_111 (fun H locs hP hD hS => ?_)
  have hP : va_P D vwCl [(h0, .inr (0, [.ref hw, .int (G1 0), .int (G1 1), .int (G1 2), .int (G1 3), .int (G1 4), .int (G1 5), .int (G1 6), .int (G1 7), .int (G1 8), .int (G1 9), .int (G1 10)])), (hw, .inl (kA 0, 24, .inl (va_cpy (fun t => G1 (t + 11)) (fun t => G (t + 11)) (0 : Int32).toNatClampNeg (0 : Int32).toNatClampNeg (24 : Int32).toNatClampNeg))), (h1, gC hx1 G1), (hx1, wC kA G1)] H := hP
  have hD : va_D (Aw [(h0, gC hw G), (hw, wC kA G), (h1, gC hx1 G1), (hx1, wC kA G1)]) [(h0, .inr (0, [.ref hw, .int (G1 0), .int (G1 1), .int (G1 2), .int (G1 3), .int (G1 4), .int (G1 5), .int (G1 6), .int (G1 7), .int (G1 8), .int (G1 9), .int (G1 10)])), (hw, .inl (kA 0, 24, .inl (va_cpy (fun t => G1 (t + 11)) (fun t => G (t + 11)) (0 : Int32).toNatClampNeg (0 : Int32).toNatClampNeg (24 : Int32).toNatClampNeg))), (h1, gC hx1 G1), (hx1, wC kA G1)] := hD
  have hP : va_P D vwCl [(h0, .inr (0, [.ref hw, .int (G1 0), .int (G1 1), .int (G1 2), .int (G1 3), .int (G1 4), .int (G1 5), .int (G1 6), .int (G1 7), .int (G1 8), .int (G1 9), .int (G1 10)])), (hw, .inl (kA 0, 24, .inl (va_cpy (fun t => G1 (t + 11)) (fun t => G (t + 11)) (0 : Int32).toNatClampNeg (0 : Int32).toNatClampNeg (24 : Int32).toNatClampNeg))), (h1, gC hx1 G1), (hx1, wC kA G1)] _ := hP.sub [0, 1, 2, 3] rfl
  exact end_fv hx hb hrt hlk hP hS (by intro h; exact h.ints 1 (fun t => G1 (t + 11)) rfl (fun j hj => (pk_cpy_in (sp := 0) (dp := 0) (n := 24) (Nat.zero_le _) (by omega)).trans (by rw [Nat.zero_add, Nat.sub_zero]))) dX0_copyFrom_114

