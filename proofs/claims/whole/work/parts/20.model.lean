def wiF (p0 p1 p2 : Int32) : Bool := if p0 < p1 then false else if p2 < p0 then false else true
theorem hd_X6_within : yX6_within.cls ≠ "java/lang/invoke/MethodHandle" ∧ yX6_within.cls ≠ "java/lang/invoke/VarHandle" ∧ (parseMethodDescriptor yX6_within.desc).map (fun d => d.parameters.length) = some 3 := by decide +kernel
set_option maxRecDepth 100000 in
set_option maxHeartbeats 4000000 in
theorem m_X6_within (l : Launch) (D : va_G) (kA : Nat → Nat) (p0 : Int32) (p1 : Int32) (p2 : Int32) : Met l yX6_within (Cond.code yX6_within cX6_within 3 (some .boolean) :: AW) ({ frames := 0, cells := 0, slots := 0, locals := 0 } : Room) (Pz [.int p0, .int p1, .int p2] D (TY kA) []) (pQ (some (.int (bI (wiF p0 p1 p2))))) 0 0 (fun _ => False) := by
  refine MetZ (by decide +kernel) (Nat.le_of_ble_eq_true rfl) ?_
  intro p e s m below meth c ls hx hb hrt hts hown hml hlk hnm hP hK hD hS hl
  have hl : lv_has ls 3 [(0, .int p0), (1, .int p1), (2, .int p2)] := hl
  refine lv_iload_n hx hb dX6_within_0 rfl (lv_at hl 0 rfl) ?_
  refine lv_iload_n hx hb dX6_within_1 rfl (lv_at hl 1 rfl) ?_
  refine lv_icmp_lt (tgt := 14) hx hb dX6_within_2 (by decide) (fun c_1 => ?_) (fun c_1 => ?_)
  · skip
    refine lv_iconst (v := 0) hx hb dX6_within_14 (by decide) ?_
    exact end_pz hx hb hrt hlk (by decide) (by first | rfl | (simp only [wiF, c_1, ↓reduceIte, bI]; done) | (simp only [wiF, c_1, ↓reduceIte, bI]; rfl) | (simp [wiF, c_1, bI]; done)) dX6_within_15
  · skip
    refine lv_iload_n hx hb dX6_within_5 rfl (lv_at hl 0 rfl) ?_
    refine lv_iload_n hx hb dX6_within_6 rfl (lv_at hl 2 rfl) ?_
    refine lv_icmp_gt (tgt := 14) hx hb dX6_within_7 (by decide) (fun c_2 => ?_) (fun c_2 => ?_)
    · skip
      refine lv_iconst (v := 0) hx hb dX6_within_14 (by decide) ?_
      exact end_pz hx hb hrt hlk (by decide) (by first | rfl | (simp only [wiF, c_1, c_2, ↓reduceIte, bI]; done) | (simp only [wiF, c_1, c_2, ↓reduceIte, bI]; rfl) | (simp [wiF, c_1, c_2, bI]; done)) dX6_within_15
    · skip
      refine lv_iconst (v := 1) hx hb dX6_within_10 (by decide) ?_
      refine lv_goto (tgt := 15) hx hb dX6_within_11 (by decide) ?_
      exact end_pz hx hb hrt hlk (by decide) (by first | rfl | (simp only [wiF, c_1, c_2, ↓reduceIte, bI]; done) | (simp only [wiF, c_1, c_2, ↓reduceIte, bI]; rfl) | (simp [wiF, c_1, c_2, bI]; done)) dX6_within_15

theorem hd_X6_isAxis : yX6_isAxis.cls ≠ "java/lang/invoke/MethodHandle" ∧ yX6_isAxis.cls ≠ "java/lang/invoke/VarHandle" ∧ (parseMethodDescriptor yX6_isAxis.desc).map (fun d => d.parameters.length) = some 1 := by decide +kernel
set_option maxRecDepth 100000 in
set_option maxHeartbeats 4000000 in
theorem m_X6_isAxis (l : Launch) (D : va_G) (kA : Nat → Nat) (p0 : Int32) : Met l yX6_isAxis (Cond.code yX6_isAxis cX6_isAxis 1 (some .boolean) :: AW) ({ frames := 1, cells := 0, slots := 0, locals := 22 } : Room) (Pz [.int p0] D (TY kA) []) (pQ (some (.int (bI (wiF p0 0 3))))) 0 0 (fun _ => False) := by
  refine MetZ (by decide +kernel) (Nat.le_of_ble_eq_true rfl) ?_
  intro p e s m below meth c ls hx hb hrt hts hown hml hlk hnm hP hK hD hS hl
  have hl : lv_has ls 1 [(0, .int p0)] := hl
  refine lv_iload_n hx hb dX6_isAxis_0 rfl (lv_at hl 0 rfl) ?_
  refine lv_iconst (v := 0) hx hb dX6_isAxis_1 (by decide) ?_
  refine lv_iconst (v := 3) hx hb dX6_isAxis_2 (by decide) ?_
  refine cs_p (runS (As := [.int p0, .int 0, .int 3]) (rest := []) ⟨hx, hb, hml, hown, hts⟩ (m_X6_within l D kA p0 0 3 ) q_818 q_819 q_7 q_820 hd_X6_within ⟨rfl, rfl⟩ ⟨Nat.le_of_ble_eq_true rfl, Nat.le_of_ble_eq_true rfl⟩ hK (ws := []) (hP.sub [] rfl) (hD.sub [] (by decide) rfl) rfl hl.1 rfl (Nat.le_of_ble_eq_true rfl) dX6_isAxis_3 ⟨Nat.zero_le _, Nat.zero_le _⟩) ?_
  exact end_pz hx hb hrt hlk (nz_bI _) (by first | rfl | (simp only [↓reduceIte, bI]; done) | (simp only [↓reduceIte, bI]; rfl) | (simp [bI]; done)) dX6_isAxis_6

theorem hd_X6_isPlace : yX6_isPlace.cls ≠ "java/lang/invoke/MethodHandle" ∧ yX6_isPlace.cls ≠ "java/lang/invoke/VarHandle" ∧ (parseMethodDescriptor yX6_isPlace.desc).map (fun d => d.parameters.length) = some 1 := by decide +kernel
set_option maxRecDepth 100000 in
set_option maxHeartbeats 4000000 in
theorem m_X6_isPlace (l : Launch) (D : va_G) (kA : Nat → Nat) (p0 : Int32) : Met l yX6_isPlace (Cond.code yX6_isPlace cX6_isPlace 1 (some .boolean) :: AW) ({ frames := 1, cells := 0, slots := 0, locals := 22 } : Room) (Pz [.int p0] D (TY kA) []) (pQ (some (.int (bI (wiF p0 0 23))))) 0 0 (fun _ => False) := by
  refine MetZ (by decide +kernel) (Nat.le_of_ble_eq_true rfl) ?_
  intro p e s m below meth c ls hx hb hrt hts hown hml hlk hnm hP hK hD hS hl
  have hl : lv_has ls 1 [(0, .int p0)] := hl
  refine lv_iload_n hx hb dX6_isPlace_0 rfl (lv_at hl 0 rfl) ?_
  refine lv_iconst (v := 0) hx hb dX6_isPlace_1 (by decide) ?_
  refine lv_bipush (v := 23) hx hb dX6_isPlace_2 (by decide) ?_
  refine cs_p (runS (As := [.int p0, .int 0, .int 23]) (rest := []) ⟨hx, hb, hml, hown, hts⟩ (m_X6_within l D kA p0 0 23 ) q_818 q_819 q_7 q_820 hd_X6_within ⟨rfl, rfl⟩ ⟨Nat.le_of_ble_eq_true rfl, Nat.le_of_ble_eq_true rfl⟩ hK (ws := []) (hP.sub [] rfl) (hD.sub [] (by decide) rfl) rfl hl.1 rfl (Nat.le_of_ble_eq_true rfl) dX6_isPlace_4 ⟨Nat.zero_le _, Nat.zero_le _⟩) ?_
  exact end_pz hx hb hrt hlk (nz_bI _) (by first | rfl | (simp only [↓reduceIte, bI]; done) | (simp only [↓reduceIte, bI]; rfl) | (simp [bI]; done)) dX6_isPlace_7

theorem hd_X6_isSetting : yX6_isSetting.cls ≠ "java/lang/invoke/MethodHandle" ∧ yX6_isSetting.cls ≠ "java/lang/invoke/VarHandle" ∧ (parseMethodDescriptor yX6_isSetting.desc).map (fun d => d.parameters.length) = some 1 := by decide +kernel
set_option maxRecDepth 100000 in
set_option maxHeartbeats 4000000 in
theorem m_X6_isSetting (l : Launch) (D : va_G) (kA : Nat → Nat) (p0 : Int32) : Met l yX6_isSetting (Cond.code yX6_isSetting cX6_isSetting 1 (some .boolean) :: AW) ({ frames := 1, cells := 0, slots := 0, locals := 22 } : Room) (Pz [.int p0] D (TY kA) []) (pQ (some (.int (bI (wiF p0 0 5))))) 0 0 (fun _ => False) := by
  refine MetZ (by decide +kernel) (Nat.le_of_ble_eq_true rfl) ?_
  intro p e s m below meth c ls hx hb hrt hts hown hml hlk hnm hP hK hD hS hl
  have hl : lv_has ls 1 [(0, .int p0)] := hl
  refine lv_iload_n hx hb dX6_isSetting_0 rfl (lv_at hl 0 rfl) ?_
  refine lv_iconst (v := 0) hx hb dX6_isSetting_1 (by decide) ?_
  refine lv_iconst (v := 5) hx hb dX6_isSetting_2 (by decide) ?_
  refine cs_p (runS (As := [.int p0, .int 0, .int 5]) (rest := []) ⟨hx, hb, hml, hown, hts⟩ (m_X6_within l D kA p0 0 5 ) q_818 q_819 q_7 q_820 hd_X6_within ⟨rfl, rfl⟩ ⟨Nat.le_of_ble_eq_true rfl, Nat.le_of_ble_eq_true rfl⟩ hK (ws := []) (hP.sub [] rfl) (hD.sub [] (by decide) rfl) rfl hl.1 rfl (Nat.le_of_ble_eq_true rfl) dX6_isSetting_3 ⟨Nat.zero_le _, Nat.zero_le _⟩) ?_
  exact end_pz hx hb hrt hlk (nz_bI _) (by first | rfl | (simp only [↓reduceIte, bI]; done) | (simp only [↓reduceIte, bI]; rfl) | (simp [bI]; done)) dX6_isSetting_6

theorem hd_X6_thrown : yX6_thrown.cls ≠ "java/lang/invoke/MethodHandle" ∧ yX6_thrown.cls ≠ "java/lang/invoke/VarHandle" ∧ (parseMethodDescriptor yX6_thrown.desc).map (fun d => d.parameters.length) = some 0 := by decide +kernel
set_option maxRecDepth 100000 in
set_option maxHeartbeats 4000000 in
theorem m_X6_thrown (l : Launch) (D : va_G) (kA : Nat → Nat) (m0 : Nat) (m1 : Nat) (m2 : Nat) (m3 : Nat) (m4 : Nat) (m5 : Nat) (z : Nat → Int32) (h : Nat → Int32) (tx : Nat → Int32) (pt : Nat → Int32) (kp : Nat → Int32) (st : Int32) (len : Int32) (th : Int32) (wo : Int32) (rd : Int32) (nu : Int32) (du : Int32) (hs : Int64) : Met l yX6_thrown (Cond.code yX6_thrown cX6_thrown 1 (some .int) :: AW) ({ frames := 0, cells := 0, slots := 0, locals := 0 } : Room) (Pz [.ref m0] D (TY kA) [(m0, .inr (6, [.ref m1, .int st, .ref m2, .int len, .ref m3, .int th, .int wo, .ref m4, .int rd, .int nu, .int du, .ref m5, .long hs])), (m1, .inl (kA 0, 148, .inl z)), (m2, .inl (kA 0, 888, .inl h)), (m3, .inl (kA 0, 60, .inl tx)), (m4, .inl (kA 0, 72, .inl pt)), (m5, .inl (kA 0, 148, .inl kp))]) (pQ (some (.int th))) 0 0 (fun _ => False) := by
  refine MetZ (by decide +kernel) (Nat.le_of_ble_eq_true rfl) ?_
  intro p e s m below meth c ls hx hb hrt hts hown hml hlk hnm hP hK hD hS hl
  have hl : lv_has ls 1 [(0, .ref m0)] := hl
  refine lv_aload_n hx hb dX6_thrown_0 rfl (lv_at hl 0 rfl) ?_
  refine va_get (ci := 6) (v := .int th) (C := RX6) (T := TX6) (N := 13) hx hb hts inX6 hown hK hP 0 rfl rfl 5 (by decide) (hts _ q_775) (fun _ h9 => h9) rfl dX6_thrown_1 ?_
  exact end_pi hx hb hrt hlk (by first | rfl | (simp only [↓reduceIte, bI]; done) | (simp only [↓reduceIte, bI]; rfl) | (simp [bI]; done)) dX6_thrown_4

theorem hd_X6_of : yX6_of.cls ≠ "java/lang/invoke/MethodHandle" ∧ yX6_of.cls ≠ "java/lang/invoke/VarHandle" ∧ (parseMethodDescriptor yX6_of.desc).map (fun d => d.parameters.length) = some 2 := by decide +kernel
set_option maxRecDepth 100000 in
set_option maxHeartbeats 4000000 in
theorem m_X6_of (l : Launch) (D : va_G) (kA : Nat → Nat) (m0 : Nat) (m1 : Nat) (m2 : Nat) (m3 : Nat) (m4 : Nat) (m5 : Nat) (z : Nat → Int32) (h : Nat → Int32) (tx : Nat → Int32) (pt : Nat → Int32) (kp : Nat → Int32) (st : Int32) (len : Int32) (th : Int32) (wo : Int32) (rd : Int32) (nu : Int32) (du : Int32) (hs : Int64) (a : Nat) (w : Nat) (p1 : Int32) (hp1 : p1 = nI w) (hw : w < 35) (ha : a < 4) : Met l yX6_of (Cond.code yX6_of cX6_of 3 (some .int) :: AW) ({ frames := 0, cells := 0, slots := 0, locals := 0 } : Room) (Pz [.ref m0, .int (nI a), .int p1] D (TY kA) [(m0, .inr (6, [.ref m1, .int st, .ref m2, .int len, .ref m3, .int th, .int wo, .ref m4, .int rd, .int nu, .int du, .ref m5, .long hs])), (m1, .inl (kA 0, 148, .inl z)), (m2, .inl (kA 0, 888, .inl h)), (m3, .inl (kA 0, 60, .inl tx)), (m4, .inl (kA 0, 72, .inl pt)), (m5, .inl (kA 0, 148, .inl kp))]) (pQ (some (.int (sl z a w)))) 0 0 (fun _ => False) := by
  refine MetZ (by decide +kernel) (Nat.le_of_ble_eq_true rfl) ?_
  intro p e s m below meth c ls hx hb hrt hts hown hml hlk hnm hP hK hD hS hl
  have hl : lv_has ls 3 [(0, .ref m0), (1, .int (nI a)), (2, .int p1)] := hl
  refine lv_aload_n hx hb dX6_of_0 rfl (lv_at hl 0 rfl) ?_
  refine va_get (ci := 6) (v := .ref m1) (C := RX6) (T := TX6) (N := 13) hx hb hts inX6 hown hK hP 0 rfl rfl 0 (by decide) (hts _ q_770) (fun _ h9 => h9) rfl dX6_of_1 ?_
  refine lv_bipush (v := 8) hx hb dX6_of_4 (by decide) ?_
  refine lv_bipush (v := 35) hx hb dX6_of_6 (by decide) ?_
  refine lv_iload_n hx hb dX6_of_8 rfl (lv_at hl 1 rfl) ?_
  refine lv_imul hx hb dX6_of_9 ?_
  refine lv_iadd hx hb dX6_of_10 ?_
  refine lv_iload_n hx hb dX6_of_11 rfl (lv_at hl 2 rfl) ?_
  refine lv_iadd hx hb dX6_of_12 ?_
  refine va_iald (f := z) hx hb hK hP 1 0 rfl rfl (in_nI (ixp hp1) (by omega) (by decide)) dX6_of_13 ?_
  exact end_pi hx hb hrt hlk (ofm hp1 hw ha) dX6_of_14

set_option maxRecDepth 100000 in
set_option maxHeartbeats 4000000 in
theorem m_X6_of_w (l : Launch) (D : va_G) (kA : Nat → Nat) (m0 : Nat) (m1 : Nat) (m2 : Nat) (m3 : Nat) (m4 : Nat) (m5 : Nat) (z : Nat → Int32) (h : Nat → Int32) (tx : Nat → Int32) (pt : Nat → Int32) (kp : Nat → Int32) (st : Int32) (len : Int32) (th : Int32) (wo : Int32) (rd : Int32) (nu : Int32) (du : Int32) (hs : Int64) (a : Nat) (t : Int32) (k : Nat) (ht : t = nI k) (hk : k < 24) (ha : a < 4) : Met l yX6_of (Cond.code yX6_of cX6_of 3 (some .int) :: AW) ({ frames := 0, cells := 0, slots := 0, locals := 0 } : Room) (Pz [.ref m0, .int (nI a), .int (11 + t)] D (TY kA) [(m0, .inr (6, [.ref m1, .int st, .ref m2, .int len, .ref m3, .int th, .int wo, .ref m4, .int rd, .int nu, .int du, .ref m5, .long hs])), (m1, .inl (kA 0, 148, .inl z)), (m2, .inl (kA 0, 888, .inl h)), (m3, .inl (kA 0, 60, .inl tx)), (m4, .inl (kA 0, 72, .inl pt)), (m5, .inl (kA 0, 148, .inl kp))]) (pQ (some (.int (gwr (sl z a) t)))) 0 0 (fun _ => False) := by
  refine MetZ (by decide +kernel) (Nat.le_of_ble_eq_true rfl) ?_
  intro p e s m below meth c ls hx hb hrt hts hown hml hlk hnm hP hK hD hS hl
  have hl : lv_has ls 3 [(0, .ref m0), (1, .int (nI a)), (2, .int (11 + t))] := hl
  refine lv_aload_n hx hb dX6_of_0 rfl (lv_at hl 0 rfl) ?_
  refine va_get (ci := 6) (v := .ref m1) (C := RX6) (T := TX6) (N := 13) hx hb hts inX6 hown hK hP 0 rfl rfl 0 (by decide) (hts _ q_770) (fun _ h9 => h9) rfl dX6_of_1 ?_
  refine lv_bipush (v := 8) hx hb dX6_of_4 (by decide) ?_
  refine lv_bipush (v := 35) hx hb dX6_of_6 (by decide) ?_
  refine lv_iload_n hx hb dX6_of_8 rfl (lv_at hl 1 rfl) ?_
  refine lv_imul hx hb dX6_of_9 ?_
  refine lv_iadd hx hb dX6_of_10 ?_
  refine lv_iload_n hx hb dX6_of_11 rfl (lv_at hl 2 rfl) ?_
  refine lv_iadd hx hb dX6_of_12 ?_
  refine va_iald (f := z) hx hb hK hP 1 0 rfl rfl (in_nI (ixw ht) (by omega) (by decide)) dX6_of_13 ?_
  exact end_pi hx hb hrt hlk (ofw ht hk ha) dX6_of_14

theorem hd_X6_put : yX6_put.cls ≠ "java/lang/invoke/MethodHandle" ∧ yX6_put.cls ≠ "java/lang/invoke/VarHandle" ∧ (parseMethodDescriptor yX6_put.desc).map (fun d => d.parameters.length) = some 3 := by decide +kernel
set_option maxRecDepth 100000 in
set_option maxHeartbeats 4000000 in
theorem m_X6_put (l : Launch) (D : va_G) (kA : Nat → Nat) (m0 : Nat) (m1 : Nat) (m2 : Nat) (m3 : Nat) (m4 : Nat) (m5 : Nat) (z : Nat → Int32) (h : Nat → Int32) (tx : Nat → Int32) (pt : Nat → Int32) (kp : Nat → Int32) (st : Int32) (len : Int32) (th : Int32) (wo : Int32) (rd : Int32) (nu : Int32) (du : Int32) (hs : Int64) (a : Nat) (w : Nat) (p1 : Int32) (p2 : Int32) (hp1 : p1 = nI w) (hw : w < 35) (ha : a < 4) : Met l yX6_put (Cond.code yX6_put cX6_put 4 none :: AW) ({ frames := 0, cells := 0, slots := 0, locals := 0 } : Room) (Pz [.ref m0, .int (nI a), .int p1, .int p2] D (TY kA) [(m0, .inr (6, [.ref m1, .int st, .ref m2, .int len, .ref m3, .int th, .int wo, .ref m4, .int rd, .int nu, .int du, .ref m5, .long hs])), (m1, .inl (kA 0, 148, .inl z)), (m2, .inl (kA 0, 888, .inl h)), (m3, .inl (kA 0, 60, .inl tx)), (m4, .inl (kA 0, 72, .inl pt)), (m5, .inl (kA 0, 148, .inl kp))]) (fQ none D [(m0, .inr (6, [.ref m1, .int st, .ref m2, .int len, .ref m3, .int th, .int wo, .ref m4, .int rd, .int nu, .int du, .ref m5, .long hs])), (m1, .inl (kA 0, 148, .inl z)), (m2, .inl (kA 0, 888, .inl h)), (m3, .inl (kA 0, 60, .inl tx)), (m4, .inl (kA 0, 72, .inl pt)), (m5, .inl (kA 0, 148, .inl kp))] [(m0, .inr (6, [.ref m1, .int st, .ref m2, .int len, .ref m3, .int th, .int wo, .ref m4, .int rd, .int nu, .int du, .ref m5, .long hs])), (m1, .inl (kA 0, 148, .inl (puZ z a w p2))), (m2, .inl (kA 0, 888, .inl h)), (m3, .inl (kA 0, 60, .inl tx)), (m4, .inl (kA 0, 72, .inl pt)), (m5, .inl (kA 0, 148, .inl kp))]) 0 0 (Aw [(m0, .inr (6, [.ref m1, .int st, .ref m2, .int len, .ref m3, .int th, .int wo, .ref m4, .int rd, .int nu, .int du, .ref m5, .long hs])), (m1, .inl (kA 0, 148, .inl z)), (m2, .inl (kA 0, 888, .inl h)), (m3, .inl (kA 0, 60, .inl tx)), (m4, .inl (kA 0, 72, .inl pt)), (m5, .inl (kA 0, 148, .inl kp))]) := by
  refine MetZ (by decide +kernel) (Nat.le_of_ble_eq_true rfl) ?_
  intro p e s m below meth c ls hx hb hrt hts hown hml hlk hnm hP hK hD hS hl
  have hl : lv_has ls 4 [(0, .ref m0), (1, .int (nI a)), (2, .int p1), (3, .int p2)] := hl
  refine lv_aload_n hx hb dX6_put_0 rfl (lv_at hl 0 rfl) ?_
  refine va_get (ci := 6) (v := .ref m1) (C := RX6) (T := TX6) (N := 13) hx hb hts inX6 hown hK hP 0 rfl rfl 0 (by decide) (hts _ q_770) (fun _ h9 => h9) rfl dX6_put_1 ?_
  refine lv_bipush (v := 8) hx hb dX6_put_4 (by decide) ?_
  refine lv_bipush (v := 35) hx hb dX6_put_6 (by decide) ?_
  refine lv_iload_n hx hb dX6_put_8 rfl (lv_at hl 1 rfl) ?_
  refine lv_imul hx hb dX6_put_9 ?_
  refine lv_iadd hx hb dX6_put_10 ?_
  refine lv_iload_n hx hb dX6_put_11 rfl (lv_at hl 2 rfl) ?_
  refine lv_iadd hx hb dX6_put_12 ?_
  refine lv_iload_n hx hb dX6_put_13 rfl (lv_at hl 3 rfl) ?_
  refine va_iast (f := z) hx hb hK hP hD hS 1 0 rfl rfl (in_nI (ixp hp1) (by omega) (by decide)) dX6_put_14 (fun H locs hP hD hS => ?_)
  have hP : va_P D vwCl [(m0, .inr (6, [.ref m1, .int st, .ref m2, .int len, .ref m3, .int th, .int wo, .ref m4, .int rd, .int nu, .int du, .ref m5, .long hs])), (m1, .inl (kA 0, 148, .inl (upd z ((8 + (35 * (nI a))) + p1).toNatClampNeg p2))), (m2, .inl (kA 0, 888, .inl h)), (m3, .inl (kA 0, 60, .inl tx)), (m4, .inl (kA 0, 72, .inl pt)), (m5, .inl (kA 0, 148, .inl kp))] H := hP
  have hD : va_D (Aw [(m0, .inr (6, [.ref m1, .int st, .ref m2, .int len, .ref m3, .int th, .int wo, .ref m4, .int rd, .int nu, .int du, .ref m5, .long hs])), (m1, .inl (kA 0, 148, .inl z)), (m2, .inl (kA 0, 888, .inl h)), (m3, .inl (kA 0, 60, .inl tx)), (m4, .inl (kA 0, 72, .inl pt)), (m5, .inl (kA 0, 148, .inl kp))]) [(m0, .inr (6, [.ref m1, .int st, .ref m2, .int len, .ref m3, .int th, .int wo, .ref m4, .int rd, .int nu, .int du, .ref m5, .long hs])), (m1, .inl (kA 0, 148, .inl (upd z ((8 + (35 * (nI a))) + p1).toNatClampNeg p2))), (m2, .inl (kA 0, 888, .inl h)), (m3, .inl (kA 0, 60, .inl tx)), (m4, .inl (kA 0, 72, .inl pt)), (m5, .inl (kA 0, 148, .inl kp))] := hD
  have hP : va_P D vwCl [(m0, .inr (6, [.ref m1, .int st, .ref m2, .int len, .ref m3, .int th, .int wo, .ref m4, .int rd, .int nu, .int du, .ref m5, .long hs])), (m1, .inl (kA 0, 148, .inl (upd z ((8 + (35 * (nI a))) + p1).toNatClampNeg p2))), (m2, .inl (kA 0, 888, .inl h)), (m3, .inl (kA 0, 60, .inl tx)), (m4, .inl (kA 0, 72, .inl pt)), (m5, .inl (kA 0, 148, .inl kp))] _ := hP.sub [0, 1, 2, 3, 4, 5] rfl
  exact end_fv hx hb hrt hlk hP hS (fun h => by rw [← pum hp1 hw ha]; exact h) dX6_put_15

set_option maxRecDepth 100000 in
set_option maxHeartbeats 4000000 in
theorem m_X6_put_w (l : Launch) (D : va_G) (kA : Nat → Nat) (m0 : Nat) (m1 : Nat) (m2 : Nat) (m3 : Nat) (m4 : Nat) (m5 : Nat) (z : Nat → Int32) (h : Nat → Int32) (tx : Nat → Int32) (pt : Nat → Int32) (kp : Nat → Int32) (st : Int32) (len : Int32) (th : Int32) (wo : Int32) (rd : Int32) (nu : Int32) (du : Int32) (hs : Int64) (a : Nat) (t : Int32) (k : Nat) (p2 : Int32) (ht : t = nI k) (hk : k < 24) (ha : a < 4) : Met l yX6_put (Cond.code yX6_put cX6_put 4 none :: AW) ({ frames := 0, cells := 0, slots := 0, locals := 0 } : Room) (Pz [.ref m0, .int (nI a), .int (11 + t), .int p2] D (TY kA) [(m0, .inr (6, [.ref m1, .int st, .ref m2, .int len, .ref m3, .int th, .int wo, .ref m4, .int rd, .int nu, .int du, .ref m5, .long hs])), (m1, .inl (kA 0, 148, .inl z)), (m2, .inl (kA 0, 888, .inl h)), (m3, .inl (kA 0, 60, .inl tx)), (m4, .inl (kA 0, 72, .inl pt)), (m5, .inl (kA 0, 148, .inl kp))]) (fQ none D [(m0, .inr (6, [.ref m1, .int st, .ref m2, .int len, .ref m3, .int th, .int wo, .ref m4, .int rd, .int nu, .int du, .ref m5, .long hs])), (m1, .inl (kA 0, 148, .inl z)), (m2, .inl (kA 0, 888, .inl h)), (m3, .inl (kA 0, 60, .inl tx)), (m4, .inl (kA 0, 72, .inl pt)), (m5, .inl (kA 0, 148, .inl kp))] [(m0, .inr (6, [.ref m1, .int st, .ref m2, .int len, .ref m3, .int th, .int wo, .ref m4, .int rd, .int nu, .int du, .ref m5, .long hs])), (m1, .inl (kA 0, 148, .inl (puZ z a (k + 11) p2))), (m2, .inl (kA 0, 888, .inl h)), (m3, .inl (kA 0, 60, .inl tx)), (m4, .inl (kA 0, 72, .inl pt)), (m5, .inl (kA 0, 148, .inl kp))]) 0 0 (Aw [(m0, .inr (6, [.ref m1, .int st, .ref m2, .int len, .ref m3, .int th, .int wo, .ref m4, .int rd, .int nu, .int du, .ref m5, .long hs])), (m1, .inl (kA 0, 148, .inl z)), (m2, .inl (kA 0, 888, .inl h)), (m3, .inl (kA 0, 60, .inl tx)), (m4, .inl (kA 0, 72, .inl pt)), (m5, .inl (kA 0, 148, .inl kp))]) := by
  refine MetZ (by decide +kernel) (Nat.le_of_ble_eq_true rfl) ?_
  intro p e s m below meth c ls hx hb hrt hts hown hml hlk hnm hP hK hD hS hl
  have hl : lv_has ls 4 [(0, .ref m0), (1, .int (nI a)), (2, .int (11 + t)), (3, .int p2)] := hl
  refine lv_aload_n hx hb dX6_put_0 rfl (lv_at hl 0 rfl) ?_
  refine va_get (ci := 6) (v := .ref m1) (C := RX6) (T := TX6) (N := 13) hx hb hts inX6 hown hK hP 0 rfl rfl 0 (by decide) (hts _ q_770) (fun _ h9 => h9) rfl dX6_put_1 ?_
  refine lv_bipush (v := 8) hx hb dX6_put_4 (by decide) ?_
  refine lv_bipush (v := 35) hx hb dX6_put_6 (by decide) ?_
  refine lv_iload_n hx hb dX6_put_8 rfl (lv_at hl 1 rfl) ?_
  refine lv_imul hx hb dX6_put_9 ?_
  refine lv_iadd hx hb dX6_put_10 ?_
  refine lv_iload_n hx hb dX6_put_11 rfl (lv_at hl 2 rfl) ?_
  refine lv_iadd hx hb dX6_put_12 ?_
  refine lv_iload_n hx hb dX6_put_13 rfl (lv_at hl 3 rfl) ?_
  refine va_iast (f := z) hx hb hK hP hD hS 1 0 rfl rfl (in_nI (ixw ht) (by omega) (by decide)) dX6_put_14 (fun H locs hP hD hS => ?_)
  have hP : va_P D vwCl [(m0, .inr (6, [.ref m1, .int st, .ref m2, .int len, .ref m3, .int th, .int wo, .ref m4, .int rd, .int nu, .int du, .ref m5, .long hs])), (m1, .inl (kA 0, 148, .inl (upd z ((8 + (35 * (nI a))) + (11 + t)).toNatClampNeg p2))), (m2, .inl (kA 0, 888, .inl h)), (m3, .inl (kA 0, 60, .inl tx)), (m4, .inl (kA 0, 72, .inl pt)), (m5, .inl (kA 0, 148, .inl kp))] H := hP
  have hD : va_D (Aw [(m0, .inr (6, [.ref m1, .int st, .ref m2, .int len, .ref m3, .int th, .int wo, .ref m4, .int rd, .int nu, .int du, .ref m5, .long hs])), (m1, .inl (kA 0, 148, .inl z)), (m2, .inl (kA 0, 888, .inl h)), (m3, .inl (kA 0, 60, .inl tx)), (m4, .inl (kA 0, 72, .inl pt)), (m5, .inl (kA 0, 148, .inl kp))]) [(m0, .inr (6, [.ref m1, .int st, .ref m2, .int len, .ref m3, .int th, .int wo, .ref m4, .int rd, .int nu, .int du, .ref m5, .long hs])), (m1, .inl (kA 0, 148, .inl (upd z ((8 + (35 * (nI a))) + (11 + t)).toNatClampNeg p2))), (m2, .inl (kA 0, 888, .inl h)), (m3, .inl (kA 0, 60, .inl tx)), (m4, .inl (kA 0, 72, .inl pt)), (m5, .inl (kA 0, 148, .inl kp))] := hD
  have hP : va_P D vwCl [(m0, .inr (6, [.ref m1, .int st, .ref m2, .int len, .ref m3, .int th, .int wo, .ref m4, .int rd, .int nu, .int du, .ref m5, .long hs])), (m1, .inl (kA 0, 148, .inl (upd z ((8 + (35 * (nI a))) + (11 + t)).toNatClampNeg p2))), (m2, .inl (kA 0, 888, .inl h)), (m3, .inl (kA 0, 60, .inl tx)), (m4, .inl (kA 0, 72, .inl pt)), (m5, .inl (kA 0, 148, .inl kp))] _ := hP.sub [0, 1, 2, 3, 4, 5] rfl
  exact end_fv hx hb hrt hlk hP hS (fun h => by rw [← puw ht hk ha]; exact h) dX6_put_15

theorem hd_X6_add : yX6_add.cls ≠ "java/lang/invoke/MethodHandle" ∧ yX6_add.cls ≠ "java/lang/invoke/VarHandle" ∧ (parseMethodDescriptor yX6_add.desc).map (fun d => d.parameters.length) = some 3 := by decide +kernel
set_option maxRecDepth 100000 in
set_option maxHeartbeats 4000000 in
theorem m_X6_add (l : Launch) (D : va_G) (kA : Nat → Nat) (m0 : Nat) (m1 : Nat) (m2 : Nat) (m3 : Nat) (m4 : Nat) (m5 : Nat) (z : Nat → Int32) (h : Nat → Int32) (tx : Nat → Int32) (pt : Nat → Int32) (kp : Nat → Int32) (st : Int32) (len : Int32) (th : Int32) (wo : Int32) (rd : Int32) (nu : Int32) (du : Int32) (hs : Int64) (a : Nat) (w : Nat) (p1 : Int32) (p2 : Int32) (hp1 : p1 = nI w) (hw : w < 35) (ha : a < 4) : Met l yX6_add (Cond.code yX6_add cX6_add 4 none :: AW) ({ frames := 0, cells := 0, slots := 0, locals := 0 } : Room) (Pz [.ref m0, .int (nI a), .int p1, .int p2] D (TY kA) [(m0, .inr (6, [.ref m1, .int st, .ref m2, .int len, .ref m3, .int th, .int wo, .ref m4, .int rd, .int nu, .int du, .ref m5, .long hs])), (m1, .inl (kA 0, 148, .inl z)), (m2, .inl (kA 0, 888, .inl h)), (m3, .inl (kA 0, 60, .inl tx)), (m4, .inl (kA 0, 72, .inl pt)), (m5, .inl (kA 0, 148, .inl kp))]) (fQ none D [(m0, .inr (6, [.ref m1, .int st, .ref m2, .int len, .ref m3, .int th, .int wo, .ref m4, .int rd, .int nu, .int du, .ref m5, .long hs])), (m1, .inl (kA 0, 148, .inl z)), (m2, .inl (kA 0, 888, .inl h)), (m3, .inl (kA 0, 60, .inl tx)), (m4, .inl (kA 0, 72, .inl pt)), (m5, .inl (kA 0, 148, .inl kp))] [(m0, .inr (6, [.ref m1, .int st, .ref m2, .int len, .ref m3, .int th, .int wo, .ref m4, .int rd, .int nu, .int du, .ref m5, .long hs])), (m1, .inl (kA 0, 148, .inl (puZ z a w (sl z a w + p2)))), (m2, .inl (kA 0, 888, .inl h)), (m3, .inl (kA 0, 60, .inl tx)), (m4, .inl (kA 0, 72, .inl pt)), (m5, .inl (kA 0, 148, .inl kp))]) 0 0 (Aw [(m0, .inr (6, [.ref m1, .int st, .ref m2, .int len, .ref m3, .int th, .int wo, .ref m4, .int rd, .int nu, .int du, .ref m5, .long hs])), (m1, .inl (kA 0, 148, .inl z)), (m2, .inl (kA 0, 888, .inl h)), (m3, .inl (kA 0, 60, .inl tx)), (m4, .inl (kA 0, 72, .inl pt)), (m5, .inl (kA 0, 148, .inl kp))]) := by
  refine MetZ (by decide +kernel) (Nat.le_of_ble_eq_true rfl) ?_
  intro p e s m below meth c ls hx hb hrt hts hown hml hlk hnm hP hK hD hS hl
  have hl : lv_has ls 4 [(0, .ref m0), (1, .int (nI a)), (2, .int p1), (3, .int p2)] := hl
  refine lv_aload_n hx hb dX6_add_0 rfl (lv_at hl 0 rfl) ?_
  refine va_get (ci := 6) (v := .ref m1) (C := RX6) (T := TX6) (N := 13) hx hb hts inX6 hown hK hP 0 rfl rfl 0 (by decide) (hts _ q_770) (fun _ h9 => h9) rfl dX6_add_1 ?_
  refine lv_bipush (v := 8) hx hb dX6_add_4 (by decide) ?_
  refine lv_bipush (v := 35) hx hb dX6_add_6 (by decide) ?_
  refine lv_iload_n hx hb dX6_add_8 rfl (lv_at hl 1 rfl) ?_
  refine lv_imul hx hb dX6_add_9 ?_
  refine lv_iadd hx hb dX6_add_10 ?_
  refine lv_iload_n hx hb dX6_add_11 rfl (lv_at hl 2 rfl) ?_
  refine lv_iadd hx hb dX6_add_12 ?_
  refine lv_dup2_11 hx hb dX6_add_13 rfl rfl ?_
  refine va_iald (f := z) hx hb hK hP 1 0 rfl rfl (in_nI (ixp hp1) (by omega) (by decide)) dX6_add_14 ?_
  refine lv_iload_n hx hb dX6_add_15 rfl (lv_at hl 3 rfl) ?_
  refine lv_iadd hx hb dX6_add_16 ?_
  refine va_iast (f := z) hx hb hK hP hD hS 1 0 rfl rfl (in_nI (ixp hp1) (by omega) (by decide)) dX6_add_17 (fun H locs hP hD hS => ?_)
  have hP : va_P D vwCl [(m0, .inr (6, [.ref m1, .int st, .ref m2, .int len, .ref m3, .int th, .int wo, .ref m4, .int rd, .int nu, .int du, .ref m5, .long hs])), (m1, .inl (kA 0, 148, .inl (upd z ((8 + (35 * (nI a))) + p1).toNatClampNeg ((z ((8 + (35 * (nI a))) + p1).toNatClampNeg) + p2)))), (m2, .inl (kA 0, 888, .inl h)), (m3, .inl (kA 0, 60, .inl tx)), (m4, .inl (kA 0, 72, .inl pt)), (m5, .inl (kA 0, 148, .inl kp))] H := hP
  have hD : va_D (Aw [(m0, .inr (6, [.ref m1, .int st, .ref m2, .int len, .ref m3, .int th, .int wo, .ref m4, .int rd, .int nu, .int du, .ref m5, .long hs])), (m1, .inl (kA 0, 148, .inl z)), (m2, .inl (kA 0, 888, .inl h)), (m3, .inl (kA 0, 60, .inl tx)), (m4, .inl (kA 0, 72, .inl pt)), (m5, .inl (kA 0, 148, .inl kp))]) [(m0, .inr (6, [.ref m1, .int st, .ref m2, .int len, .ref m3, .int th, .int wo, .ref m4, .int rd, .int nu, .int du, .ref m5, .long hs])), (m1, .inl (kA 0, 148, .inl (upd z ((8 + (35 * (nI a))) + p1).toNatClampNeg ((z ((8 + (35 * (nI a))) + p1).toNatClampNeg) + p2)))), (m2, .inl (kA 0, 888, .inl h)), (m3, .inl (kA 0, 60, .inl tx)), (m4, .inl (kA 0, 72, .inl pt)), (m5, .inl (kA 0, 148, .inl kp))] := hD
  have hP : va_P D vwCl [(m0, .inr (6, [.ref m1, .int st, .ref m2, .int len, .ref m3, .int th, .int wo, .ref m4, .int rd, .int nu, .int du, .ref m5, .long hs])), (m1, .inl (kA 0, 148, .inl (upd z ((8 + (35 * (nI a))) + p1).toNatClampNeg ((z ((8 + (35 * (nI a))) + p1).toNatClampNeg) + p2)))), (m2, .inl (kA 0, 888, .inl h)), (m3, .inl (kA 0, 60, .inl tx)), (m4, .inl (kA 0, 72, .inl pt)), (m5, .inl (kA 0, 148, .inl kp))] _ := hP.sub [0, 1, 2, 3, 4, 5] rfl
  exact end_fv hx hb hrt hlk hP hS (fun h => by rw [← pum hp1 hw ha, ← ofm hp1 hw ha]; exact h) dX6_add_18

theorem hd_X6_toothFrom : yX6_toothFrom.cls ≠ "java/lang/invoke/MethodHandle" ∧ yX6_toothFrom.cls ≠ "java/lang/invoke/VarHandle" ∧ (parseMethodDescriptor yX6_toothFrom.desc).map (fun d => d.parameters.length) = some 2 := by decide +kernel
set_option maxRecDepth 100000 in
set_option maxHeartbeats 4000000 in
theorem m_X6_toothFrom (l : Launch) (D : va_G) (kA : Nat → Nat) (p0 : Int32) (q : Nat) (up : Bool) (hp : p0 = nI q) (hq : q < 24) : Met l yX6_toothFrom (Cond.code yX6_toothFrom cX6_toothFrom 2 (some .int) :: AW) ({ frames := 0, cells := 0, slots := 0, locals := 0 } : Room) (Pz [.int p0, .int (bI up)] D (TY kA) []) (pQ (some (.int (tW p0 (wI up))))) 0 0 (fun _ => False) := by
  refine MetZ (by decide +kernel) (Nat.le_of_ble_eq_true rfl) ?_
  intro p e s m below meth c ls hx hb hrt hts hown hml hlk hnm hP hK hD hS hl
  have hl : lv_has ls 2 [(0, .int p0), (1, .int (bI up))] := hl
  refine lv_iload_n hx hb dX6_toothFrom_0 rfl (lv_at hl 1 rfl) ?_
  refine lv_if_eq (tgt := 8) hx hb dX6_toothFrom_1 (by decide) (fun c_1 => ?_) (fun c_1 => ?_)
  · skip
    replace c_1 := bI_0.mp c_1
    refine lv_iload_n hx hb dX6_toothFrom_8 rfl (lv_at hl 0 rfl) ?_
    refine lv_bipush (v := 24) hx hb dX6_toothFrom_9 (by decide) ?_
    refine lv_iadd hx hb dX6_toothFrom_11 ?_
    refine lv_iconst (v := 1) hx hb dX6_toothFrom_12 (by decide) ?_
    refine lv_isub hx hb dX6_toothFrom_13 ?_
    refine lv_bipush (v := 24) hx hb dX6_toothFrom_14 (by decide) ?_
    refine lv_irem hx hb dX6_toothFrom_16 (by decide) ?_
    exact end_pi hx hb hrt hlk (by rw [c_1]; exact tm_f hp hq) dX6_toothFrom_17
  · skip
    replace c_1 := bI_n0 c_1
    refine lv_iload_n hx hb dX6_toothFrom_4 rfl (lv_at hl 0 rfl) ?_
    refine lv_goto (tgt := 17) hx hb dX6_toothFrom_5 (by decide) ?_
    exact end_pi hx hb hrt hlk (by rw [c_1]; exact rfl) dX6_toothFrom_17

theorem hd_X6_next : yX6_next.cls ≠ "java/lang/invoke/MethodHandle" ∧ yX6_next.cls ≠ "java/lang/invoke/VarHandle" ∧ (parseMethodDescriptor yX6_next.desc).map (fun d => d.parameters.length) = some 2 := by decide +kernel
set_option maxRecDepth 100000 in
set_option maxHeartbeats 4000000 in
theorem m_X6_next (l : Launch) (D : va_G) (kA : Nat → Nat) (p0 : Int32) (q : Nat) (up : Bool) (hp : p0 = nI q) (hq : q < 24) : Met l yX6_next (Cond.code yX6_next cX6_next 2 (some .int) :: AW) ({ frames := 0, cells := 0, slots := 0, locals := 0 } : Room) (Pz [.int p0, .int (bI up)] D (TY kA) []) (pQ (some (.int (nW p0 (wI up))))) 0 0 (fun _ => False) := by
  refine MetZ (by decide +kernel) (Nat.le_of_ble_eq_true rfl) ?_
  intro p e s m below meth c ls hx hb hrt hts hown hml hlk hnm hP hK hD hS hl
  have hl : lv_has ls 2 [(0, .int p0), (1, .int (bI up))] := hl
  refine lv_iload_n hx hb dX6_next_0 rfl (lv_at hl 0 rfl) ?_
  refine lv_iload_n hx hb dX6_next_1 rfl (lv_at hl 1 rfl) ?_
  refine lv_if_eq (tgt := 9) hx hb dX6_next_2 (by decide) (fun c_1 => ?_) (fun c_1 => ?_)
  · skip
    replace c_1 := bI_0.mp c_1
    refine lv_bipush (v := 23) hx hb dX6_next_9 (by decide) ?_
    refine lv_iadd hx hb dX6_next_11 ?_
    refine lv_bipush (v := 24) hx hb dX6_next_12 (by decide) ?_
    refine lv_irem hx hb dX6_next_14 (by decide) ?_
    exact end_pi hx hb hrt hlk (by rw [c_1]; exact nm_f hp hq) dX6_next_15
  · skip
    replace c_1 := bI_n0 c_1
    refine lv_iconst (v := 1) hx hb dX6_next_5 (by decide) ?_
    refine lv_goto (tgt := 11) hx hb dX6_next_6 (by decide) ?_
    refine lv_iadd hx hb dX6_next_11 ?_
    refine lv_bipush (v := 24) hx hb dX6_next_12 (by decide) ?_
    refine lv_irem hx hb dX6_next_14 (by decide) ?_
    exact end_pi hx hb hrt hlk (by rw [c_1]; exact nm_t hp hq) dX6_next_15

theorem hd_X6_tollBy : yX6_tollBy.cls ≠ "java/lang/invoke/MethodHandle" ∧ yX6_tollBy.cls ≠ "java/lang/invoke/VarHandle" ∧ (parseMethodDescriptor yX6_tollBy.desc).map (fun d => d.parameters.length) = some 3 := by decide +kernel
set_option maxRecDepth 100000 in
set_option maxHeartbeats 4000000 in
theorem m_X6_tollBy (l : Launch) (D : va_G) (kA : Nat → Nat) (m0 : Nat) (m1 : Nat) (m2 : Nat) (m3 : Nat) (m4 : Nat) (m5 : Nat) (z : Nat → Int32) (h : Nat → Int32) (tx : Nat → Int32) (pt : Nat → Int32) (kp : Nat → Int32) (st : Int32) (len : Int32) (th : Int32) (wo : Int32) (rd : Int32) (nu : Int32) (du : Int32) (hs : Int64) (a : Nat) (p1 : Int32) (p2 : Int32) (hI : Inv z) (ha : a < 4) : Met l yX6_tollBy (Cond.code yX6_tollBy cX6_tollBy 5 (some .int) :: AW) ({ frames := 1, cells := 0, slots := 0, locals := 22 } : Room) (Pz [.ref m0, .int (nI a), .int p1, .int p2] D (TY kA) [(m0, .inr (6, [.ref m1, .int st, .ref m2, .int len, .ref m3, .int th, .int wo, .ref m4, .int rd, .int nu, .int du, .ref m5, .long hs])), (m1, .inl (kA 0, 148, .inl z)), (m2, .inl (kA 0, 888, .inl h)), (m3, .inl (kA 0, 60, .inl tx)), (m4, .inl (kA 0, 72, .inl pt)), (m5, .inl (kA 0, 148, .inl kp))]) (pQ (some (.int (tlF (sl z a 2) p1 p2 (z 1))))) 0 0 (fun _ => False) := by
  refine MetZ (by decide +kernel) (Nat.le_of_ble_eq_true rfl) ?_
  intro p e s m below meth c ls hx hb hrt hts hown hml hlk hnm hP hK hD hS hl
  have hl : lv_has ls 5 [(0, .ref m0), (1, .int (nI a)), (2, .int p1), (3, .int p2)] := hl
  refine lv_iconst (v := 1) hx hb dX6_tollBy_0 (by decide) ?_
  refine lv_aload_n hx hb dX6_tollBy_1 rfl (lv_at hl 0 rfl) ?_
  refine lv_iload_n hx hb dX6_tollBy_2 rfl (lv_at hl 1 rfl) ?_
  refine lv_iconst (v := 2) hx hb dX6_tollBy_3 (by decide) ?_
  refine cs_p (runV (As := [.int (nI a), .int 2]) (rest := [.int 1]) ⟨hx, hb, hml, hown, hts⟩ (m_X6_of l D kA m0 m1 m2 m3 m4 m5 z h tx pt kp st len th wo rd nu du hs a 2 2 (rfl) (by omega) (ha)) q_833 q_835 qp_23 q_7 q_836 hd_X6_of ⟨rfl, rfl⟩ ⟨Nat.le_of_ble_eq_true rfl, Nat.le_of_ble_eq_true rfl⟩ hK (ws := [(m0, .inr (6, [.ref m1, .int st, .ref m2, .int len, .ref m3, .int th, .int wo, .ref m4, .int rd, .int nu, .int du, .ref m5, .long hs])), (m1, .inl (kA 0, 148, .inl z)), (m2, .inl (kA 0, 888, .inl h)), (m3, .inl (kA 0, 60, .inl tx)), (m4, .inl (kA 0, 72, .inl pt)), (m5, .inl (kA 0, 148, .inl kp))]) (hP.sub [0, 1, 2, 3, 4, 5] rfl) (hD.sub [0, 1, 2, 3, 4, 5] (by decide) rfl) 0 (ci := 6) (C := RX6) (T := TX6) (N := 13) rfl rfl rfl hl.1 rfl (Nat.le_of_ble_eq_true rfl) dX6_tollBy_4 ⟨Nat.zero_le _, Nat.zero_le _⟩) ?_
  refine lv_iadd hx hb dX6_tollBy_7 ?_
  refine lv_iload_n hx hb dX6_tollBy_8 rfl (lv_at hl 2 rfl) ?_
  refine lv_aload_n hx hb dX6_tollBy_9 rfl (lv_at hl 0 rfl) ?_
  refine va_get (ci := 6) (v := .ref m1) (C := RX6) (T := TX6) (N := 13) hx hb hts inX6 hown hK hP 0 rfl rfl 0 (by decide) (hts _ q_770) (fun _ h9 => h9) rfl dX6_tollBy_10 ?_
  refine lv_iconst (v := 1) hx hb dX6_tollBy_13 (by decide) ?_
  refine va_iald (f := z) hx hb hK hP 1 0 rfl rfl (in_nI (j := 1) rfl (by omega) (by decide)) dX6_tollBy_14 ?_
  refine W_top (v' := .int (z 1)) rfl ?_
  refine lv_idiv hx hb dX6_tollBy_15 (hI.pn) ?_
  refine lv_iadd hx hb dX6_tollBy_16 ?_
  refine lv_istore (lv' := [(4, .int ((1 + (sl z a 2)) + (p1 / (z 1)))), (0, .ref m0), (1, .int (nI a)), (2, .int p1), (3, .int p2)]) hx hb dX6_tollBy_17 hl (by decide) rfl (fun ls hl => ?_)
  refine lv_iload_n hx hb dX6_tollBy_19 rfl (lv_at hl 4 rfl) ?_
  refine lv_if_le (tgt := 32) hx hb dX6_tollBy_20 (by decide) (fun c_1 => ?_) (fun c_1 => ?_)
  · skip
    replace c_1 := ge_n c_1
    refine lv_iload hx hb dX6_tollBy_32 (lv_at hl 0 rfl) ?_
    exact end_pi hx hb hrt hlk (by rw [tl_pos hI.pt, if_neg c_1]) dX6_tollBy_34
  · skip
    replace c_1 := nge_l c_1
    refine lv_iload hx hb dX6_tollBy_23 (lv_at hl 0 rfl) ?_
    refine lv_iconst (v := 1) hx hb dX6_tollBy_25 (by decide) ?_
    refine lv_iadd hx hb dX6_tollBy_26 ?_
    refine lv_iconst (v := 2) hx hb dX6_tollBy_27 (by decide) ?_
    refine lv_idiv hx hb dX6_tollBy_28 (by decide) ?_
    refine lv_goto (tgt := 34) hx hb dX6_tollBy_29 (by decide) ?_
    exact end_pi hx hb hrt hlk (by rw [tl_pos hI.pt, if_pos c_1]) dX6_tollBy_34

theorem hd_X6_nextTooth : yX6_nextTooth.cls ≠ "java/lang/invoke/MethodHandle" ∧ yX6_nextTooth.cls ≠ "java/lang/invoke/VarHandle" ∧ (parseMethodDescriptor yX6_nextTooth.desc).map (fun d => d.parameters.length) = some 2 := by decide +kernel
set_option maxRecDepth 100000 in
set_option maxHeartbeats 4000000 in
theorem m_X6_nextTooth (l : Launch) (D : va_G) (kA : Nat → Nat) (m0 : Nat) (m1 : Nat) (m2 : Nat) (m3 : Nat) (m4 : Nat) (m5 : Nat) (z : Nat → Int32) (h : Nat → Int32) (tx : Nat → Int32) (pt : Nat → Int32) (kp : Nat → Int32) (st : Int32) (len : Int32) (th : Int32) (wo : Int32) (rd : Int32) (nu : Int32) (du : Int32) (hs : Int64) (a : Nat) (up : Bool) (hI : Inv z) (ha : a < 4) : Met l yX6_nextTooth (Cond.code yX6_nextTooth cX6_nextTooth 3 (some .int) :: AW) ({ frames := 1, cells := 0, slots := 0, locals := 22 } : Room) (Pz [.ref m0, .int (nI a), .int (bI up)] D (TY kA) [(m0, .inr (6, [.ref m1, .int st, .ref m2, .int len, .ref m3, .int th, .int wo, .ref m4, .int rd, .int nu, .int du, .ref m5, .long hs])), (m1, .inl (kA 0, 148, .inl z)), (m2, .inl (kA 0, 888, .inl h)), (m3, .inl (kA 0, 60, .inl tx)), (m4, .inl (kA 0, 72, .inl pt)), (m5, .inl (kA 0, 148, .inl kp))]) (pQ (some (.int (tW (sl z a 0) (wI up))))) 0 0 (fun _ => False) := by
  refine MetZ (by decide +kernel) (Nat.le_of_ble_eq_true rfl) ?_
  intro p e s m below meth c ls hx hb hrt hts hown hml hlk hnm hP hK hD hS hl
  have hl : lv_has ls 3 [(0, .ref m0), (1, .int (nI a)), (2, .int (bI up))] := hl
  refine lv_aload_n hx hb dX6_nextTooth_0 rfl (lv_at hl 0 rfl) ?_
  refine lv_iload_n hx hb dX6_nextTooth_1 rfl (lv_at hl 1 rfl) ?_
  refine lv_iconst (v := 0) hx hb dX6_nextTooth_2 (by decide) ?_
  refine cs_p (runV (As := [.int (nI a), .int 0]) (rest := []) ⟨hx, hb, hml, hown, hts⟩ (m_X6_of l D kA m0 m1 m2 m3 m4 m5 z h tx pt kp st len th wo rd nu du hs a 0 0 (rfl) (by omega) (ha)) q_833 q_835 qp_23 q_7 q_836 hd_X6_of ⟨rfl, rfl⟩ ⟨Nat.le_of_ble_eq_true rfl, Nat.le_of_ble_eq_true rfl⟩ hK (ws := [(m0, .inr (6, [.ref m1, .int st, .ref m2, .int len, .ref m3, .int th, .int wo, .ref m4, .int rd, .int nu, .int du, .ref m5, .long hs])), (m1, .inl (kA 0, 148, .inl z)), (m2, .inl (kA 0, 888, .inl h)), (m3, .inl (kA 0, 60, .inl tx)), (m4, .inl (kA 0, 72, .inl pt)), (m5, .inl (kA 0, 148, .inl kp))]) (hP.sub [0, 1, 2, 3, 4, 5] rfl) (hD.sub [0, 1, 2, 3, 4, 5] (by decide) rfl) 0 (ci := 6) (C := RX6) (T := TX6) (N := 13) rfl rfl rfl hl.1 rfl (Nat.le_of_ble_eq_true rfl) dX6_nextTooth_3 ⟨Nat.zero_le _, Nat.zero_le _⟩) ?_
  refine lv_iload_n hx hb dX6_nextTooth_6 rfl (lv_at hl 2 rfl) ?_
  refine cs_p (runS (As := [.int (sl z a 0), .int (bI up)]) (rest := []) ⟨hx, hb, hml, hown, hts⟩ (m_X6_toothFrom l D kA (sl z a 0) ((sl z a 0).toNatClampNeg) up ((hI.p0 ha).1) ((hI.p0 ha).2)) q_867 q_868 q_7 q_869 hd_X6_toothFrom ⟨rfl, rfl⟩ ⟨Nat.le_of_ble_eq_true rfl, Nat.le_of_ble_eq_true rfl⟩ hK (ws := []) (hP.sub [] rfl) (hD.sub [] (by decide) rfl) rfl hl.1 rfl (Nat.le_of_ble_eq_true rfl) dX6_nextTooth_7 ⟨Nat.zero_le _, Nat.zero_le _⟩) ?_
  exact end_pi hx hb hrt hlk (by first | rfl | (simp only [↓reduceIte, bI]; done) | (simp only [↓reduceIte, bI]; rfl) | (simp [bI]; done)) dX6_nextTooth_10

theorem hd_X6_tollNow : yX6_tollNow.cls ≠ "java/lang/invoke/MethodHandle" ∧ yX6_tollNow.cls ≠ "java/lang/invoke/VarHandle" ∧ (parseMethodDescriptor yX6_tollNow.desc).map (fun d => d.parameters.length) = some 2 := by decide +kernel
set_option maxRecDepth 100000 in
set_option maxHeartbeats 4000000 in
theorem m_X6_tollNow (l : Launch) (D : va_G) (kA : Nat → Nat) (m0 : Nat) (m1 : Nat) (m2 : Nat) (m3 : Nat) (m4 : Nat) (m5 : Nat) (z : Nat → Int32) (h : Nat → Int32) (tx : Nat → Int32) (pt : Nat → Int32) (kp : Nat → Int32) (st : Int32) (len : Int32) (th : Int32) (wo : Int32) (rd : Int32) (nu : Int32) (du : Int32) (hs : Int64) (a : Nat) (up : Bool) (hI : Inv z) (ha : a < 4) : Met l yX6_tollNow (Cond.code yX6_tollNow cX6_tollNow 3 (some .int) :: AW) ({ frames := 2, cells := 0, slots := 0, locals := 46 } : Room) (Pz [.ref m0, .int (nI a), .int (bI up)] D (TY kA) [(m0, .inr (6, [.ref m1, .int st, .ref m2, .int len, .ref m3, .int th, .int wo, .ref m4, .int rd, .int nu, .int du, .ref m5, .long hs])), (m1, .inl (kA 0, 148, .inl z)), (m2, .inl (kA 0, 888, .inl h)), (m3, .inl (kA 0, 60, .inl tx)), (m4, .inl (kA 0, 72, .inl pt)), (m5, .inl (kA 0, 148, .inl kp))]) (pQ (some (.int (tollG (sl z a) z (wI up))))) 0 0 (fun _ => False) := by
  refine MetZ (by decide +kernel) (Nat.le_of_ble_eq_true rfl) ?_
  intro p e s m below meth c ls hx hb hrt hts hown hml hlk hnm hP hK hD hS hl
  have hl : lv_has ls 3 [(0, .ref m0), (1, .int (nI a)), (2, .int (bI up))] := hl
  refine lv_aload_n hx hb dX6_tollNow_0 rfl (lv_at hl 0 rfl) ?_
  refine lv_iload_n hx hb dX6_tollNow_1 rfl (lv_at hl 1 rfl) ?_
  refine lv_aload_n hx hb dX6_tollNow_2 rfl (lv_at hl 0 rfl) ?_
  refine lv_iload_n hx hb dX6_tollNow_3 rfl (lv_at hl 1 rfl) ?_
  refine lv_bipush (v := 11) hx hb dX6_tollNow_4 (by decide) ?_
  refine lv_aload_n hx hb dX6_tollNow_6 rfl (lv_at hl 0 rfl) ?_
  refine lv_iload_n hx hb dX6_tollNow_7 rfl (lv_at hl 1 rfl) ?_
  refine lv_iload_n hx hb dX6_tollNow_8 rfl (lv_at hl 2 rfl) ?_
  refine cs_p (runV (As := [.int (nI a), .int (bI up)]) (rest := [.int 11, .int (nI a), .ref m0, .int (nI a), .ref m0]) ⟨hx, hb, hml, hown, hts⟩ (m_X6_nextTooth l D kA m0 m1 m2 m3 m4 m5 z h tx pt kp st len th wo rd nu du hs a up (hI) (ha)) q_863 q_865 qp_27 q_7 q_866 hd_X6_nextTooth ⟨rfl, rfl⟩ ⟨Nat.le_of_ble_eq_true rfl, Nat.le_of_ble_eq_true rfl⟩ hK (ws := [(m0, .inr (6, [.ref m1, .int st, .ref m2, .int len, .ref m3, .int th, .int wo, .ref m4, .int rd, .int nu, .int du, .ref m5, .long hs])), (m1, .inl (kA 0, 148, .inl z)), (m2, .inl (kA 0, 888, .inl h)), (m3, .inl (kA 0, 60, .inl tx)), (m4, .inl (kA 0, 72, .inl pt)), (m5, .inl (kA 0, 148, .inl kp))]) (hP.sub [0, 1, 2, 3, 4, 5] rfl) (hD.sub [0, 1, 2, 3, 4, 5] (by decide) rfl) 0 (ci := 6) (C := RX6) (T := TX6) (N := 13) rfl rfl rfl hl.1 rfl (Nat.le_of_ble_eq_true rfl) dX6_tollNow_9 ⟨Nat.zero_le _, Nat.zero_le _⟩) ?_
  refine lv_iadd hx hb dX6_tollNow_12 ?_
  refine cs_p (runV (As := [.int (nI a), .int (11 + (tW (sl z a 0) (wI up)))]) (rest := [.int (nI a), .ref m0]) ⟨hx, hb, hml, hown, hts⟩ (m_X6_of_w l D kA m0 m1 m2 m3 m4 m5 z h tx pt kp st len th wo rd nu du hs a (tW (sl z a 0) (wI up)) ((tW (sl z a 0) (wI up)).toNatClampNeg) ((hI.tw ha up).1) ((hI.tw ha up).2) (ha)) q_833 q_835 qp_23 q_7 q_836 hd_X6_of ⟨rfl, rfl⟩ ⟨Nat.le_of_ble_eq_true rfl, Nat.le_of_ble_eq_true rfl⟩ hK (ws := [(m0, .inr (6, [.ref m1, .int st, .ref m2, .int len, .ref m3, .int th, .int wo, .ref m4, .int rd, .int nu, .int du, .ref m5, .long hs])), (m1, .inl (kA 0, 148, .inl z)), (m2, .inl (kA 0, 888, .inl h)), (m3, .inl (kA 0, 60, .inl tx)), (m4, .inl (kA 0, 72, .inl pt)), (m5, .inl (kA 0, 148, .inl kp))]) (hP.sub [0, 1, 2, 3, 4, 5] rfl) (hD.sub [0, 1, 2, 3, 4, 5] (by decide) rfl) 0 (ci := 6) (C := RX6) (T := TX6) (N := 13) rfl rfl rfl hl.1 rfl (Nat.le_of_ble_eq_true rfl) dX6_tollNow_13 ⟨Nat.zero_le _, Nat.zero_le _⟩) ?_
  refine lv_aload_n hx hb dX6_tollNow_16 rfl (lv_at hl 0 rfl) ?_
  refine lv_iload_n hx hb dX6_tollNow_17 rfl (lv_at hl 1 rfl) ?_
  refine lv_iconst (v := 5) hx hb dX6_tollNow_18 (by decide) ?_
  refine cs_p (runV (As := [.int (nI a), .int 5]) (rest := [.int (gwr (sl z a) (tW (sl z a 0) (wI up))), .int (nI a), .ref m0]) ⟨hx, hb, hml, hown, hts⟩ (m_X6_of l D kA m0 m1 m2 m3 m4 m5 z h tx pt kp st len th wo rd nu du hs a 5 5 (rfl) (by omega) (ha)) q_833 q_835 qp_23 q_7 q_836 hd_X6_of ⟨rfl, rfl⟩ ⟨Nat.le_of_ble_eq_true rfl, Nat.le_of_ble_eq_true rfl⟩ hK (ws := [(m0, .inr (6, [.ref m1, .int st, .ref m2, .int len, .ref m3, .int th, .int wo, .ref m4, .int rd, .int nu, .int du, .ref m5, .long hs])), (m1, .inl (kA 0, 148, .inl z)), (m2, .inl (kA 0, 888, .inl h)), (m3, .inl (kA 0, 60, .inl tx)), (m4, .inl (kA 0, 72, .inl pt)), (m5, .inl (kA 0, 148, .inl kp))]) (hP.sub [0, 1, 2, 3, 4, 5] rfl) (hD.sub [0, 1, 2, 3, 4, 5] (by decide) rfl) 0 (ci := 6) (C := RX6) (T := TX6) (N := 13) rfl rfl rfl hl.1 rfl (Nat.le_of_ble_eq_true rfl) dX6_tollNow_19 ⟨Nat.zero_le _, Nat.zero_le _⟩) ?_
  refine cs_p (runV (As := [.int (nI a), .int (gwr (sl z a) (tW (sl z a 0) (wI up))), .int (sl z a 5)]) (rest := []) ⟨hx, hb, hml, hown, hts⟩ (m_X6_tollBy l D kA m0 m1 m2 m3 m4 m5 z h tx pt kp st len th wo rd nu du hs a (gwr (sl z a) (tW (sl z a 0) (wI up))) (sl z a 5) (hI) (ha)) q_870 q_872 qp_28 q_7 q_873 hd_X6_tollBy ⟨rfl, rfl⟩ ⟨Nat.le_of_ble_eq_true rfl, Nat.le_of_ble_eq_true rfl⟩ hK (ws := [(m0, .inr (6, [.ref m1, .int st, .ref m2, .int len, .ref m3, .int th, .int wo, .ref m4, .int rd, .int nu, .int du, .ref m5, .long hs])), (m1, .inl (kA 0, 148, .inl z)), (m2, .inl (kA 0, 888, .inl h)), (m3, .inl (kA 0, 60, .inl tx)), (m4, .inl (kA 0, 72, .inl pt)), (m5, .inl (kA 0, 148, .inl kp))]) (hP.sub [0, 1, 2, 3, 4, 5] rfl) (hD.sub [0, 1, 2, 3, 4, 5] (by decide) rfl) 0 (ci := 6) (C := RX6) (T := TX6) (N := 13) rfl rfl rfl hl.1 rfl (Nat.le_of_ble_eq_true rfl) dX6_tollNow_22 ⟨Nat.zero_le _, Nat.zero_le _⟩) ?_
  exact end_pi hx hb hrt hlk (by first | rfl | (simp only [↓reduceIte, bI]; done) | (simp only [↓reduceIte, bI]; rfl) | (simp [bI]; done)) dX6_tollNow_25

theorem hd_X6_slipNow : yX6_slipNow.cls ≠ "java/lang/invoke/MethodHandle" ∧ yX6_slipNow.cls ≠ "java/lang/invoke/VarHandle" ∧ (parseMethodDescriptor yX6_slipNow.desc).map (fun d => d.parameters.length) = some 2 := by decide +kernel
set_option maxRecDepth 100000 in
set_option maxHeartbeats 4000000 in
theorem m_X6_slipNow (l : Launch) (D : va_G) (kA : Nat → Nat) (m0 : Nat) (m1 : Nat) (m2 : Nat) (m3 : Nat) (m4 : Nat) (m5 : Nat) (z : Nat → Int32) (h : Nat → Int32) (tx : Nat → Int32) (pt : Nat → Int32) (kp : Nat → Int32) (st : Int32) (len : Int32) (th : Int32) (wo : Int32) (rd : Int32) (nu : Int32) (du : Int32) (hs : Int64) (a : Nat) (up : Bool) (hI : Inv z) (ha : a < 4) : Met l yX6_slipNow (Cond.code yX6_slipNow cX6_slipNow 4 (some .int) :: AW) ({ frames := 2, cells := 0, slots := 0, locals := 44 } : Room) (Pz [.ref m0, .int (nI a), .int (bI up)] D (TY kA) [(m0, .inr (6, [.ref m1, .int st, .ref m2, .int len, .ref m3, .int th, .int wo, .ref m4, .int rd, .int nu, .int du, .ref m5, .long hs])), (m1, .inl (kA 0, 148, .inl z)), (m2, .inl (kA 0, 888, .inl h)), (m3, .inl (kA 0, 60, .inl tx)), (m4, .inl (kA 0, 72, .inl pt)), (m5, .inl (kA 0, 148, .inl kp))]) (pQ (some (.int (tsF z a (wI up))))) 0 0 (fun _ => False) := by
  refine MetZ (by decide +kernel) (Nat.le_of_ble_eq_true rfl) ?_
  intro p e s m below meth c ls hx hb hrt hts hown hml hlk hnm hP hK hD hS hl
  have hl : lv_has ls 4 [(0, .ref m0), (1, .int (nI a)), (2, .int (bI up))] := hl
  refine lv_aload_n hx hb dX6_slipNow_0 rfl (lv_at hl 0 rfl) ?_
  refine lv_iload_n hx hb dX6_slipNow_1 rfl (lv_at hl 1 rfl) ?_
  refine lv_iconst (v := 3) hx hb dX6_slipNow_2 (by decide) ?_
  refine cs_p (runV (As := [.int (nI a), .int 3]) (rest := []) ⟨hx, hb, hml, hown, hts⟩ (m_X6_of l D kA m0 m1 m2 m3 m4 m5 z h tx pt kp st len th wo rd nu du hs a 3 3 (rfl) (by omega) (ha)) q_833 q_835 qp_23 q_7 q_836 hd_X6_of ⟨rfl, rfl⟩ ⟨Nat.le_of_ble_eq_true rfl, Nat.le_of_ble_eq_true rfl⟩ hK (ws := [(m0, .inr (6, [.ref m1, .int st, .ref m2, .int len, .ref m3, .int th, .int wo, .ref m4, .int rd, .int nu, .int du, .ref m5, .long hs])), (m1, .inl (kA 0, 148, .inl z)), (m2, .inl (kA 0, 888, .inl h)), (m3, .inl (kA 0, 60, .inl tx)), (m4, .inl (kA 0, 72, .inl pt)), (m5, .inl (kA 0, 148, .inl kp))]) (hP.sub [0, 1, 2, 3, 4, 5] rfl) (hD.sub [0, 1, 2, 3, 4, 5] (by decide) rfl) 0 (ci := 6) (C := RX6) (T := TX6) (N := 13) rfl rfl rfl hl.1 rfl (Nat.le_of_ble_eq_true rfl) dX6_slipNow_3 ⟨Nat.zero_le _, Nat.zero_le _⟩) ?_
  refine lv_iload_n hx hb dX6_slipNow_6 rfl (lv_at hl 2 rfl) ?_
  have jn_7_0 : ∀ v : Int32, v = (if up = true then (-1) else 1) → W p l e ({ frames := 2, cells := 0, slots := 0, locals := 44 } : Room) s m [.ref m0, .int (nI a), .int (bI up)].toArray below meth c s.heap [] 0 0 (MQ below (pQ (some (.int (tsF z a (wI up))))) [.ref m0, .int (nI a), .int (bI up)].toArray s 0 0 (fun _ => False)) (F0 m 15 ls (.int v :: [.int (sl z a 3)])) := by
    intro v ev
    subst ev
    refine lv_icmp_ne (tgt := 22) hx hb dX6_slipNow_15 (by decide) (fun c_2 => ?_) (fun c_2 => ?_)
    · skip
      refine lv_iconst (v := 0) hx hb dX6_slipNow_22 (by decide) ?_
      refine lv_istore_n (lv' := [(3, .int 0), (0, .ref m0), (1, .int (nI a)), (2, .int (bI up))]) hx hb dX6_slipNow_23 rfl hl (by decide) rfl (fun ls hl => ?_)
      refine lv_iload_n hx hb dX6_slipNow_24 rfl (lv_at hl 0 rfl) ?_
      refine lv_if_ne (tgt := 32) hx hb dX6_slipNow_25 (by decide) (fun c_3 => ?_) (fun c_3 => ?_)
      · exact absurd c_3 (by decide)
      · skip
        refine lv_iconst (v := 0) hx hb dX6_slipNow_28 (by decide) ?_
        refine lv_goto (tgt := 60) hx hb dX6_slipNow_29 (by decide) ?_
        exact end_pi hx hb hrt hlk (by rw [tsF, turn_w, if_neg (fun h => c_2 (of_decide_eq_true h))]) dX6_slipNow_60
    · skip
      refine lv_iconst (v := 1) hx hb dX6_slipNow_18 (by decide) ?_
      refine lv_goto (tgt := 23) hx hb dX6_slipNow_19 (by decide) ?_
      refine lv_istore_n (lv' := [(3, .int 1), (0, .ref m0), (1, .int (nI a)), (2, .int (bI up))]) hx hb dX6_slipNow_23 rfl hl (by decide) rfl (fun ls hl => ?_)
      refine lv_iload_n hx hb dX6_slipNow_24 rfl (lv_at hl 0 rfl) ?_
      refine lv_if_ne (tgt := 32) hx hb dX6_slipNow_25 (by decide) (fun c_4 => ?_) (fun c_4 => ?_)
      · skip
        refine lv_aload_n hx hb dX6_slipNow_32 rfl (lv_at hl 1 rfl) ?_
        refine lv_iload_n hx hb dX6_slipNow_33 rfl (lv_at hl 2 rfl) ?_
        refine lv_bipush (v := 11) hx hb dX6_slipNow_34 (by decide) ?_
        refine lv_aload_n hx hb dX6_slipNow_36 rfl (lv_at hl 1 rfl) ?_
        refine lv_iload_n hx hb dX6_slipNow_37 rfl (lv_at hl 2 rfl) ?_
        refine lv_iload_n hx hb dX6_slipNow_38 rfl (lv_at hl 3 rfl) ?_
        refine cs_p (runV (As := [.int (nI a), .int (bI up)]) (rest := [.int 11, .int (nI a), .ref m0]) ⟨hx, hb, hml, hown, hts⟩ (m_X6_nextTooth l D kA m0 m1 m2 m3 m4 m5 z h tx pt kp st len th wo rd nu du hs a up (hI) (ha)) q_863 q_865 qp_27 q_7 q_866 hd_X6_nextTooth ⟨rfl, rfl⟩ ⟨Nat.le_of_ble_eq_true rfl, Nat.le_of_ble_eq_true rfl⟩ hK (ws := [(m0, .inr (6, [.ref m1, .int st, .ref m2, .int len, .ref m3, .int th, .int wo, .ref m4, .int rd, .int nu, .int du, .ref m5, .long hs])), (m1, .inl (kA 0, 148, .inl z)), (m2, .inl (kA 0, 888, .inl h)), (m3, .inl (kA 0, 60, .inl tx)), (m4, .inl (kA 0, 72, .inl pt)), (m5, .inl (kA 0, 148, .inl kp))]) (hP.sub [0, 1, 2, 3, 4, 5] rfl) (hD.sub [0, 1, 2, 3, 4, 5] (by decide) rfl) 0 (ci := 6) (C := RX6) (T := TX6) (N := 13) rfl rfl rfl hl.1 rfl (Nat.le_of_ble_eq_true rfl) dX6_slipNow_39 ⟨Nat.zero_le _, Nat.zero_le _⟩) ?_
        refine lv_iadd hx hb dX6_slipNow_42 ?_
        refine cs_p (runV (As := [.int (nI a), .int (11 + (tW (sl z a 0) (wI up)))]) (rest := []) ⟨hx, hb, hml, hown, hts⟩ (m_X6_of_w l D kA m0 m1 m2 m3 m4 m5 z h tx pt kp st len th wo rd nu du hs a (tW (sl z a 0) (wI up)) ((tW (sl z a 0) (wI up)).toNatClampNeg) ((hI.tw ha up).1) ((hI.tw ha up).2) (ha)) q_833 q_835 qp_23 q_7 q_836 hd_X6_of ⟨rfl, rfl⟩ ⟨Nat.le_of_ble_eq_true rfl, Nat.le_of_ble_eq_true rfl⟩ hK (ws := [(m0, .inr (6, [.ref m1, .int st, .ref m2, .int len, .ref m3, .int th, .int wo, .ref m4, .int rd, .int nu, .int du, .ref m5, .long hs])), (m1, .inl (kA 0, 148, .inl z)), (m2, .inl (kA 0, 888, .inl h)), (m3, .inl (kA 0, 60, .inl tx)), (m4, .inl (kA 0, 72, .inl pt)), (m5, .inl (kA 0, 148, .inl kp))]) (hP.sub [0, 1, 2, 3, 4, 5] rfl) (hD.sub [0, 1, 2, 3, 4, 5] (by decide) rfl) 0 (ci := 6) (C := RX6) (T := TX6) (N := 13) rfl rfl rfl hl.1 rfl (Nat.le_of_ble_eq_true rfl) dX6_slipNow_43 ⟨Nat.zero_le _, Nat.zero_le _⟩) ?_
        refine lv_aload_n hx hb dX6_slipNow_46 rfl (lv_at hl 1 rfl) ?_
        refine va_get (ci := 6) (v := .ref m1) (C := RX6) (T := TX6) (N := 13) hx hb hts inX6 hown hK hP 0 rfl rfl 0 (by decide) (hts _ q_770) (fun _ h9 => h9) rfl dX6_slipNow_47 ?_
        refine lv_iconst (v := 2) hx hb dX6_slipNow_50 (by decide) ?_
        refine va_iald (f := z) hx hb hK hP 1 0 rfl rfl (in_nI (j := 2) rfl (by omega) (by decide)) dX6_slipNow_51 ?_
        refine W_top (v' := .int (z 2)) rfl ?_
        refine lv_icmp_lt (tgt := 59) hx hb dX6_slipNow_52 (by decide) (fun c_5 => ?_) (fun c_5 => ?_)
        · skip
          refine lv_iconst (v := 1) hx hb dX6_slipNow_59 (by decide) ?_
          exact end_pi hx hb hrt hlk (by rw [tsF, turn_w, if_pos (decide_eq_true c_2), if_pos c_5]) dX6_slipNow_60
        · skip
          refine lv_iconst (v := 2) hx hb dX6_slipNow_55 (by decide) ?_
          refine lv_goto (tgt := 60) hx hb dX6_slipNow_56 (by decide) ?_
          exact end_pi hx hb hrt hlk (by rw [tsF, turn_w, if_pos (decide_eq_true c_2), if_neg c_5]) dX6_slipNow_60
      · exact absurd c_4 (by decide)
  refine lv_if_eq (tgt := 14) hx hb dX6_slipNow_7 (by decide) (fun c_6 => ?_) (fun c_6 => ?_)
  · skip
    replace c_6 := bI_0.mp c_6
    refine lv_iconst (v := 1) hx hb dX6_slipNow_14 (by decide) ?_
    exact jn_7_0 _ (by rw [if_neg (by rw [c_6]; decide)])
  · skip
    replace c_6 := bI_n0 c_6
    refine lv_iconst (v := (-1)) hx hb dX6_slipNow_10 (by decide) ?_
    refine lv_goto (tgt := 15) hx hb dX6_slipNow_11 (by decide) ?_
    exact jn_7_0 _ (by rw [if_pos c_6])

theorem hd_X6_canStep : yX6_canStep.cls ≠ "java/lang/invoke/MethodHandle" ∧ yX6_canStep.cls ≠ "java/lang/invoke/VarHandle" ∧ (parseMethodDescriptor yX6_canStep.desc).map (fun d => d.parameters.length) = some 2 := by decide +kernel
set_option maxRecDepth 100000 in
set_option maxHeartbeats 4000000 in
theorem m_X6_canStep (l : Launch) (D : va_G) (kA : Nat → Nat) (m0 : Nat) (m1 : Nat) (m2 : Nat) (m3 : Nat) (m4 : Nat) (m5 : Nat) (z : Nat → Int32) (h : Nat → Int32) (tx : Nat → Int32) (pt : Nat → Int32) (kp : Nat → Int32) (st : Int32) (len : Int32) (th : Int32) (wo : Int32) (rd : Int32) (nu : Int32) (du : Int32) (hs : Int64) (a : Nat) (up : Bool) (hI : Inv z) (ha : a < 4) : Met l yX6_canStep (Cond.code yX6_canStep cX6_canStep 3 (some .boolean) :: AW) ({ frames := 3, cells := 0, slots := 0, locals := 68 } : Room) (Pz [.ref m0, .int (nI a), .int (bI up)] D (TY kA) [(m0, .inr (6, [.ref m1, .int st, .ref m2, .int len, .ref m3, .int th, .int wo, .ref m4, .int rd, .int nu, .int du, .ref m5, .long hs])), (m1, .inl (kA 0, 148, .inl z)), (m2, .inl (kA 0, 888, .inl h)), (m3, .inl (kA 0, 60, .inl tx)), (m4, .inl (kA 0, 72, .inl pt)), (m5, .inl (kA 0, 148, .inl kp))]) (pQ (some (.int (bI (canF z a (wI up)))))) 0 0 (fun _ => False) := by
  refine MetZ (by decide +kernel) (Nat.le_of_ble_eq_true rfl) ?_
  intro p e s m below meth c ls hx hb hrt hts hown hml hlk hnm hP hK hD hS hl
  have hl : lv_has ls 3 [(0, .ref m0), (1, .int (nI a)), (2, .int (bI up))] := hl
  refine lv_aload_n hx hb dX6_canStep_0 rfl (lv_at hl 0 rfl) ?_
  refine va_get (ci := 6) (v := .ref m1) (C := RX6) (T := TX6) (N := 13) hx hb hts inX6 hown hK hP 0 rfl rfl 0 (by decide) (hts _ q_770) (fun _ h9 => h9) rfl dX6_canStep_1 ?_
  refine lv_bipush (v := 6) hx hb dX6_canStep_4 (by decide) ?_
  refine va_iald (f := z) hx hb hK hP 1 0 rfl rfl (in_nI (j := 6) rfl (by omega) (by decide)) dX6_canStep_6 ?_
  refine W_top (v' := .int (z 6)) rfl ?_
  refine lv_aload_n hx hb dX6_canStep_7 rfl (lv_at hl 0 rfl) ?_
  refine lv_iload_n hx hb dX6_canStep_8 rfl (lv_at hl 1 rfl) ?_
  refine lv_iload_n hx hb dX6_canStep_9 rfl (lv_at hl 2 rfl) ?_
  refine cs_p (runV (As := [.int (nI a), .int (bI up)]) (rest := [.int (z 6)]) ⟨hx, hb, hml, hown, hts⟩ (m_X6_tollNow l D kA m0 m1 m2 m3 m4 m5 z h tx pt kp st len th wo rd nu du hs a up (hI) (ha)) q_859 q_861 qp_26 q_7 q_862 hd_X6_tollNow ⟨rfl, rfl⟩ ⟨Nat.le_of_ble_eq_true rfl, Nat.le_of_ble_eq_true rfl⟩ hK (ws := [(m0, .inr (6, [.ref m1, .int st, .ref m2, .int len, .ref m3, .int th, .int wo, .ref m4, .int rd, .int nu, .int du, .ref m5, .long hs])), (m1, .inl (kA 0, 148, .inl z)), (m2, .inl (kA 0, 888, .inl h)), (m3, .inl (kA 0, 60, .inl tx)), (m4, .inl (kA 0, 72, .inl pt)), (m5, .inl (kA 0, 148, .inl kp))]) (hP.sub [0, 1, 2, 3, 4, 5] rfl) (hD.sub [0, 1, 2, 3, 4, 5] (by decide) rfl) 0 (ci := 6) (C := RX6) (T := TX6) (N := 13) rfl rfl rfl hl.1 rfl (Nat.le_of_ble_eq_true rfl) dX6_canStep_10 ⟨Nat.zero_le _, Nat.zero_le _⟩) ?_
  refine lv_icmp_lt (tgt := 20) hx hb dX6_canStep_13 (by decide) (fun c_1 => ?_) (fun c_1 => ?_)
  · skip
    refine lv_iconst (v := 0) hx hb dX6_canStep_20 (by decide) ?_
    exact end_pz hx hb hrt hlk (by decide) (by rw [canF, if_pos c_1]; rfl) dX6_canStep_21
  · skip
    refine lv_iconst (v := 1) hx hb dX6_canStep_16 (by decide) ?_
    refine lv_goto (tgt := 21) hx hb dX6_canStep_17 (by decide) ?_
    exact end_pz hx hb hrt hlk (by decide) (by rw [canF, if_neg c_1]; rfl) dX6_canStep_21
