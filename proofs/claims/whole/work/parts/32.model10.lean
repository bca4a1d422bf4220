theorem or_if {c : Prop} [Decidable c] {x y : Int32} : x ||| (if c then 0 else y) = if c then x else x ||| y := by
  split
  · exact Int32.or_zero
  · rfl
theorem hd_X6_toll : yX6_toll.cls ≠ "java/lang/invoke/MethodHandle" ∧ yX6_toll.cls ≠ "java/lang/invoke/VarHandle" ∧ (parseMethodDescriptor yX6_toll.desc).map (fun d => d.parameters.length) = some 2 := by decide +kernel
set_option maxRecDepth 100000 in
set_option maxHeartbeats 4000000 in
theorem m_X6_toll (l : Launch) (D : va_G) (kA : Nat → Nat) (m0 : Nat) (m1 : Nat) (m2 : Nat) (m3 : Nat) (m4 : Nat) (m5 : Nat) (z : Nat → Int32) (h : Nat → Int32) (tx : Nat → Int32) (pt : Nat → Int32) (kp : Nat → Int32) (st : Int32) (len : Int32) (th : Int32) (wo : Int32) (rd : Int32) (nu : Int32) (du : Int32) (hs : Int64) (p0 : Int32) (up : Bool) (hI : Inv z) : Met l yX6_toll (Cond.code yX6_toll cX6_toll 3 (some .int) :: AW) ({ frames := 3, cells := 0, slots := 0, locals := 68 } : Room) (Pz [.ref m0, .int p0, .int (bI up)] D (TY kA) [(m0, .inr (6, [.ref m1, .int st, .ref m2, .int len, .ref m3, .int th, .int wo, .ref m4, .int rd, .int nu, .int du, .ref m5, .long hs])), (m1, .inl (kA 0, 148, .inl z)), (m2, .inl (kA 0, 888, .inl h)), (m3, .inl (kA 0, 60, .inl tx)), (m4, .inl (kA 0, 72, .inl pt)), (m5, .inl (kA 0, 148, .inl kp))]) (fQ (some (.int (if axT p0 = 0 then tollG (sl z p0.toNatClampNeg) z (wI up) else 0))) D [(m0, .inr (6, [.ref m1, .int st, .ref m2, .int len, .ref m3, .int th, .int wo, .ref m4, .int rd, .int nu, .int du, .ref m5, .long hs])), (m1, .inl (kA 0, 148, .inl z)), (m2, .inl (kA 0, 888, .inl h)), (m3, .inl (kA 0, 60, .inl tx)), (m4, .inl (kA 0, 72, .inl pt)), (m5, .inl (kA 0, 148, .inl kp))] [(m0, .inr (6, [.ref m1, .int st, .ref m2, .int len, .ref m3, .int (axT p0), .int wo, .ref m4, .int rd, .int nu, .int du, .ref m5, .long hs])), (m1, .inl (kA 0, 148, .inl z)), (m2, .inl (kA 0, 888, .inl h)), (m3, .inl (kA 0, 60, .inl tx)), (m4, .inl (kA 0, 72, .inl pt)), (m5, .inl (kA 0, 148, .inl kp))]) 0 0 (Aw [(m0, .inr (6, [.ref m1, .int st, .ref m2, .int len, .ref m3, .int th, .int wo, .ref m4, .int rd, .int nu, .int du, .ref m5, .long hs])), (m1, .inl (kA 0, 148, .inl z)), (m2, .inl (kA 0, 888, .inl h)), (m3, .inl (kA 0, 60, .inl tx)), (m4, .inl (kA 0, 72, .inl pt)), (m5, .inl (kA 0, 148, .inl kp))]) := by
  refine MetZ (by decide +kernel) (Nat.le_of_ble_eq_true rfl) ?_
  intro p e s m below meth c ls hx hb hrt hts hown hml hlk hnm hP hK hD hS hl
  have hl : lv_has ls 3 [(0, .ref m0), (1, .int p0), (2, .int (bI up))] := hl
  refine lv_aload_n hx hb dX6_toll_0 rfl (lv_at hl 0 rfl) ?_
  refine lv_iload_n hx hb dX6_toll_1 rfl (lv_at hl 1 rfl) ?_
  refine cs_p (runS (As := [.int p0]) (rest := [.ref m0]) ⟨hx, hb, hml, hown, hts⟩ (m_X6_isAxis l D kA p0 ) q_830 q_831 q_7 q_832 hd_X6_isAxis ⟨rfl, rfl⟩ ⟨Nat.le_of_ble_eq_true rfl, Nat.le_of_ble_eq_true rfl⟩ hK (ws := []) (hP.sub [] rfl) (hD.sub [] (by decide) rfl) rfl hl.1 rfl (Nat.le_of_ble_eq_true rfl) dX6_toll_2 ⟨Nat.zero_le _, Nat.zero_le _⟩) ?_
  refine lv_if_eq (tgt := 12) hx hb dX6_toll_5 (by decide) (fun c_1 => ?_) (fun c_1 => ?_)
  · skip
    replace c_1 := bI_0.mp c_1
    refine lv_iconst (v := 1) hx hb dX6_toll_12 (by decide) ?_
    refine va_put (ci := 6) (v := .int 1) (ty := tyX6 5) (C := RX6) (T := TX6) (N := 13) hx hb hts inX6 tyX6 tyX6_ok nmX6 hown hK hP hD hS 0 rfl rfl 5 (by decide) (hts _ q_775) (fun _ h9 => h9) rfl (tyX6_ok 5 (by decide)) rfl rfl (Nat.le_of_ble_eq_true rfl) dX6_toll_13 (fun H locs hP hD hS => ?_)
    have hP : va_P D vwCl [(m0, .inr (6, [.ref m1, .int st, .ref m2, .int len, .ref m3, .int 1, .int wo, .ref m4, .int rd, .int nu, .int du, .ref m5, .long hs])), (m1, .inl (kA 0, 148, .inl z)), (m2, .inl (kA 0, 888, .inl h)), (m3, .inl (kA 0, 60, .inl tx)), (m4, .inl (kA 0, 72, .inl pt)), (m5, .inl (kA 0, 148, .inl kp))] H := hP
    have hD : va_D (Aw [(m0, .inr (6, [.ref m1, .int st, .ref m2, .int len, .ref m3, .int th, .int wo, .ref m4, .int rd, .int nu, .int du, .ref m5, .long hs])), (m1, .inl (kA 0, 148, .inl z)), (m2, .inl (kA 0, 888, .inl h)), (m3, .inl (kA 0, 60, .inl tx)), (m4, .inl (kA 0, 72, .inl pt)), (m5, .inl (kA 0, 148, .inl kp))]) [(m0, .inr (6, [.ref m1, .int st, .ref m2, .int len, .ref m3, .int 1, .int wo, .ref m4, .int rd, .int nu, .int du, .ref m5, .long hs])), (m1, .inl (kA 0, 148, .inl z)), (m2, .inl (kA 0, 888, .inl h)), (m3, .inl (kA 0, 60, .inl tx)), (m4, .inl (kA 0, 72, .inl pt)), (m5, .inl (kA 0, 148, .inl kp))] := hD
    refine lv_aload_n hx hb dX6_toll_16 rfl (lv_at hl 0 rfl) ?_
    refine va_get (ci := 6) (v := .int 1) (C := RX6) (T := TX6) (N := 13) hx hb hts inX6 hown hK hP 0 rfl rfl 5 (by decide) (hts _ q_775) (fun _ h9 => h9) rfl dX6_toll_17 ?_
    refine lv_if_le (tgt := 27) hx hb dX6_toll_20 (by decide) (fun c_2 => ?_) (fun c_2 => ?_)
    · exact absurd c_2 (by decide)
    · skip
      replace c_2 := nge_l c_2
      refine lv_iconst (v := 0) hx hb dX6_toll_23 (by decide) ?_
      refine lv_goto (tgt := 33) hx hb dX6_toll_24 (by decide) ?_
      have hP : va_P D vwCl [(m0, .inr (6, [.ref m1, .int st, .ref m2, .int len, .ref m3, .int 1, .int wo, .ref m4, .int rd, .int nu, .int du, .ref m5, .long hs])), (m1, .inl (kA 0, 148, .inl z)), (m2, .inl (kA 0, 888, .inl h)), (m3, .inl (kA 0, 60, .inl tx)), (m4, .inl (kA 0, 72, .inl pt)), (m5, .inl (kA 0, 148, .inl kp))] _ := hP.sub [0, 1, 2, 3, 4, 5] rfl
      exact end_fi hx hb hrt hlk hP hS (by have hT : axT p0 = 1 := (by rw [axT, if_neg (by rw [c_1]; decide)]); rw [hT, if_neg (by decide)]) (fun hq => by have hT : axT p0 = 1 := (by rw [axT, if_neg (by rw [c_1]; decide)]); rw [hT]; exact hq) dX6_toll_33
  · skip
    replace c_1 := bI_n0 c_1
    obtain ⟨a, haa, epa, eca⟩ := wi_ex c_1 (N := 3) rfl
    rw [epa] at hl
    have ha : a < 4 := haa
    refine lv_iconst (v := 0) hx hb dX6_toll_8 (by decide) ?_
    refine lv_goto (tgt := 13) hx hb dX6_toll_9 (by decide) ?_
    refine va_put (ci := 6) (v := .int 0) (ty := tyX6 5) (C := RX6) (T := TX6) (N := 13) hx hb hts inX6 tyX6 tyX6_ok nmX6 hown hK hP hD hS 0 rfl rfl 5 (by decide) (hts _ q_775) (fun _ h9 => h9) rfl (tyX6_ok 5 (by decide)) rfl rfl (Nat.le_of_ble_eq_true rfl) dX6_toll_13 (fun H locs hP hD hS => ?_)
    have hP : va_P D vwCl [(m0, .inr (6, [.ref m1, .int st, .ref m2, .int len, .ref m3, .int 0, .int wo, .ref m4, .int rd, .int nu, .int du, .ref m5, .long hs])), (m1, .inl (kA 0, 148, .inl z)), (m2, .inl (kA 0, 888, .inl h)), (m3, .inl (kA 0, 60, .inl tx)), (m4, .inl (kA 0, 72, .inl pt)), (m5, .inl (kA 0, 148, .inl kp))] H := hP
    have hD : va_D (Aw [(m0, .inr (6, [.ref m1, .int st, .ref m2, .int len, .ref m3, .int th, .int wo, .ref m4, .int rd, .int nu, .int du, .ref m5, .long hs])), (m1, .inl (kA 0, 148, .inl z)), (m2, .inl (kA 0, 888, .inl h)), (m3, .inl (kA 0, 60, .inl tx)), (m4, .inl (kA 0, 72, .inl pt)), (m5, .inl (kA 0, 148, .inl kp))]) [(m0, .inr (6, [.ref m1, .int st, .ref m2, .int len, .ref m3, .int 0, .int wo, .ref m4, .int rd, .int nu, .int du, .ref m5, .long hs])), (m1, .inl (kA 0, 148, .inl z)), (m2, .inl (kA 0, 888, .inl h)), (m3, .inl (kA 0, 60, .inl tx)), (m4, .inl (kA 0, 72, .inl pt)), (m5, .inl (kA 0, 148, .inl kp))] := hD
    refine lv_aload_n hx hb dX6_toll_16 rfl (lv_at hl 0 rfl) ?_
    refine va_get (ci := 6) (v := .int 0) (C := RX6) (T := TX6) (N := 13) hx hb hts inX6 hown hK hP 0 rfl rfl 5 (by decide) (hts _ q_775) (fun _ h9 => h9) rfl dX6_toll_17 ?_
    refine lv_if_le (tgt := 27) hx hb dX6_toll_20 (by decide) (fun c_3 => ?_) (fun c_3 => ?_)
    · skip
      replace c_3 := ge_n c_3
      refine lv_aload_n hx hb dX6_toll_27 rfl (lv_at hl 0 rfl) ?_
      refine lv_iload_n hx hb dX6_toll_28 rfl (lv_at hl 1 rfl) ?_
      refine lv_iload_n hx hb dX6_toll_29 rfl (lv_at hl 2 rfl) ?_
      refine cs_p (runV (As := [.int (nI a), .int (bI up)]) (rest := []) ⟨hx, hb, hml, hown, hts⟩ (m_X6_tollNow l D kA m0 m1 m2 m3 m4 m5 z h tx pt kp st len 0 wo rd nu du hs a up (hI) (ha)) q_859 q_861 qp_26 q_7 q_862 hd_X6_tollNow ⟨rfl, rfl⟩ ⟨Nat.le_of_ble_eq_true rfl, Nat.le_of_ble_eq_true rfl⟩ hK (ws := [(m0, .inr (6, [.ref m1, .int st, .ref m2, .int len, .ref m3, .int 0, .int wo, .ref m4, .int rd, .int nu, .int du, .ref m5, .long hs])), (m1, .inl (kA 0, 148, .inl z)), (m2, .inl (kA 0, 888, .inl h)), (m3, .inl (kA 0, 60, .inl tx)), (m4, .inl (kA 0, 72, .inl pt)), (m5, .inl (kA 0, 148, .inl kp))]) (hP.sub [0, 1, 2, 3, 4, 5] rfl) (hD.sub [0, 1, 2, 3, 4, 5] (by decide) rfl) 0 (ci := 6) (C := RX6) (T := TX6) (N := 13) rfl rfl rfl hl.1 rfl (Nat.le_of_ble_eq_true rfl) dX6_toll_30 ⟨Nat.zero_le _, Nat.zero_le _⟩) ?_
      have hP : va_P D vwCl [(m0, .inr (6, [.ref m1, .int st, .ref m2, .int len, .ref m3, .int 0, .int wo, .ref m4, .int rd, .int nu, .int du, .ref m5, .long hs])), (m1, .inl (kA 0, 148, .inl z)), (m2, .inl (kA 0, 888, .inl h)), (m3, .inl (kA 0, 60, .inl tx)), (m4, .inl (kA 0, 72, .inl pt)), (m5, .inl (kA 0, 148, .inl kp))] _ := hP.sub [0, 1, 2, 3, 4, 5] rfl
      exact end_fi hx hb hrt hlk hP hS (by have hT : axT p0 = 0 := (by rw [axT, if_pos c_1]); rw [hT, if_pos rfl, eca]) (fun hq => by have hT : axT p0 = 0 := (by rw [axT, if_pos c_1]); rw [hT]; exact hq) dX6_toll_33
    · exact absurd c_3 (by decide)

theorem hd_X6_slips : yX6_slips.cls ≠ "java/lang/invoke/MethodHandle" ∧ yX6_slips.cls ≠ "java/lang/invoke/VarHandle" ∧ (parseMethodDescriptor yX6_slips.desc).map (fun d => d.parameters.length) = some 2 := by decide +kernel
set_option maxRecDepth 100000 in
set_option maxHeartbeats 4000000 in
theorem m_X6_slips (l : Launch) (D : va_G) (kA : Nat → Nat) (m0 : Nat) (m1 : Nat) (m2 : Nat) (m3 : Nat) (m4 : Nat) (m5 : Nat) (z : Nat → Int32) (h : Nat → Int32) (tx : Nat → Int32) (pt : Nat → Int32) (kp : Nat → Int32) (st : Int32) (len : Int32) (th : Int32) (wo : Int32) (rd : Int32) (nu : Int32) (du : Int32) (hs : Int64) (p0 : Int32) (up : Bool) (hI : Inv z) : Met l yX6_slips (Cond.code yX6_slips cX6_slips 3 (some .int) :: AW) ({ frames := 3, cells := 0, slots := 0, locals := 67 } : Room) (Pz [.ref m0, .int p0, .int (bI up)] D (TY kA) [(m0, .inr (6, [.ref m1, .int st, .ref m2, .int len, .ref m3, .int th, .int wo, .ref m4, .int rd, .int nu, .int du, .ref m5, .long hs])), (m1, .inl (kA 0, 148, .inl z)), (m2, .inl (kA 0, 888, .inl h)), (m3, .inl (kA 0, 60, .inl tx)), (m4, .inl (kA 0, 72, .inl pt)), (m5, .inl (kA 0, 148, .inl kp))]) (fQ (some (.int (if axT p0 = 0 then tsF z p0.toNatClampNeg (wI up) else 0))) D [(m0, .inr (6, [.ref m1, .int st, .ref m2, .int len, .ref m3, .int th, .int wo, .ref m4, .int rd, .int nu, .int du, .ref m5, .long hs])), (m1, .inl (kA 0, 148, .inl z)), (m2, .inl (kA 0, 888, .inl h)), (m3, .inl (kA 0, 60, .inl tx)), (m4, .inl (kA 0, 72, .inl pt)), (m5, .inl (kA 0, 148, .inl kp))] [(m0, .inr (6, [.ref m1, .int st, .ref m2, .int len, .ref m3, .int (axT p0), .int wo, .ref m4, .int rd, .int nu, .int du, .ref m5, .long hs])), (m1, .inl (kA 0, 148, .inl z)), (m2, .inl (kA 0, 888, .inl h)), (m3, .inl (kA 0, 60, .inl tx)), (m4, .inl (kA 0, 72, .inl pt)), (m5, .inl (kA 0, 148, .inl kp))]) 0 0 (Aw [(m0, .inr (6, [.ref m1, .int st, .ref m2, .int len, .ref m3, .int th, .int wo, .ref m4, .int rd, .int nu, .int du, .ref m5, .long hs])), (m1, .inl (kA 0, 148, .inl z)), (m2, .inl (kA 0, 888, .inl h)), (m3, .inl (kA 0, 60, .inl tx)), (m4, .inl (kA 0, 72, .inl pt)), (m5, .inl (kA 0, 148, .inl kp))]) := by
  refine MetZ (by decide +kernel) (Nat.le_of_ble_eq_true rfl) ?_
  intro p e s m below meth c ls hx hb hrt hts hown hml hlk hnm hP hK hD hS hl
  have hl : lv_has ls 3 [(0, .ref m0), (1, .int p0), (2, .int (bI up))] := hl
  refine lv_aload_n hx hb dX6_slips_0 rfl (lv_at hl 0 rfl) ?_
  refine lv_iload_n hx hb dX6_slips_1 rfl (lv_at hl 1 rfl) ?_
  refine cs_p (runS (As := [.int p0]) (rest := [.ref m0]) ⟨hx, hb, hml, hown, hts⟩ (m_X6_isAxis l D kA p0 ) q_830 q_831 q_7 q_832 hd_X6_isAxis ⟨rfl, rfl⟩ ⟨Nat.le_of_ble_eq_true rfl, Nat.le_of_ble_eq_true rfl⟩ hK (ws := []) (hP.sub [] rfl) (hD.sub [] (by decide) rfl) rfl hl.1 rfl (Nat.le_of_ble_eq_true rfl) dX6_slips_2 ⟨Nat.zero_le _, Nat.zero_le _⟩) ?_
  refine lv_if_eq (tgt := 12) hx hb dX6_slips_5 (by decide) (fun c_1 => ?_) (fun c_1 => ?_)
  · skip
    replace c_1 := bI_0.mp c_1
    refine lv_iconst (v := 1) hx hb dX6_slips_12 (by decide) ?_
    refine va_put (ci := 6) (v := .int 1) (ty := tyX6 5) (C := RX6) (T := TX6) (N := 13) hx hb hts inX6 tyX6 tyX6_ok nmX6 hown hK hP hD hS 0 rfl rfl 5 (by decide) (hts _ q_775) (fun _ h9 => h9) rfl (tyX6_ok 5 (by decide)) rfl rfl (Nat.le_of_ble_eq_true rfl) dX6_slips_13 (fun H locs hP hD hS => ?_)
    have hP : va_P D vwCl [(m0, .inr (6, [.ref m1, .int st, .ref m2, .int len, .ref m3, .int 1, .int wo, .ref m4, .int rd, .int nu, .int du, .ref m5, .long hs])), (m1, .inl (kA 0, 148, .inl z)), (m2, .inl (kA 0, 888, .inl h)), (m3, .inl (kA 0, 60, .inl tx)), (m4, .inl (kA 0, 72, .inl pt)), (m5, .inl (kA 0, 148, .inl kp))] H := hP
    have hD : va_D (Aw [(m0, .inr (6, [.ref m1, .int st, .ref m2, .int len, .ref m3, .int th, .int wo, .ref m4, .int rd, .int nu, .int du, .ref m5, .long hs])), (m1, .inl (kA 0, 148, .inl z)), (m2, .inl (kA 0, 888, .inl h)), (m3, .inl (kA 0, 60, .inl tx)), (m4, .inl (kA 0, 72, .inl pt)), (m5, .inl (kA 0, 148, .inl kp))]) [(m0, .inr (6, [.ref m1, .int st, .ref m2, .int len, .ref m3, .int 1, .int wo, .ref m4, .int rd, .int nu, .int du, .ref m5, .long hs])), (m1, .inl (kA 0, 148, .inl z)), (m2, .inl (kA 0, 888, .inl h)), (m3, .inl (kA 0, 60, .inl tx)), (m4, .inl (kA 0, 72, .inl pt)), (m5, .inl (kA 0, 148, .inl kp))] := hD
    refine lv_aload_n hx hb dX6_slips_16 rfl (lv_at hl 0 rfl) ?_
    refine va_get (ci := 6) (v := .int 1) (C := RX6) (T := TX6) (N := 13) hx hb hts inX6 hown hK hP 0 rfl rfl 5 (by decide) (hts _ q_775) (fun _ h9 => h9) rfl dX6_slips_17 ?_
    refine lv_if_le (tgt := 27) hx hb dX6_slips_20 (by decide) (fun c_2 => ?_) (fun c_2 => ?_)
    · exact absurd c_2 (by decide)
    · skip
      replace c_2 := nge_l c_2
      refine lv_iconst (v := 0) hx hb dX6_slips_23 (by decide) ?_
      refine lv_goto (tgt := 33) hx hb dX6_slips_24 (by decide) ?_
      have hP : va_P D vwCl [(m0, .inr (6, [.ref m1, .int st, .ref m2, .int len, .ref m3, .int 1, .int wo, .ref m4, .int rd, .int nu, .int du, .ref m5, .long hs])), (m1, .inl (kA 0, 148, .inl z)), (m2, .inl (kA 0, 888, .inl h)), (m3, .inl (kA 0, 60, .inl tx)), (m4, .inl (kA 0, 72, .inl pt)), (m5, .inl (kA 0, 148, .inl kp))] _ := hP.sub [0, 1, 2, 3, 4, 5] rfl
      exact end_fi hx hb hrt hlk hP hS (by have hT : axT p0 = 1 := (by rw [axT, if_neg (by rw [c_1]; decide)]); rw [hT, if_neg (by decide)]) (fun hq => by have hT : axT p0 = 1 := (by rw [axT, if_neg (by rw [c_1]; decide)]); rw [hT]; exact hq) dX6_slips_33
  · skip
    replace c_1 := bI_n0 c_1
    obtain ⟨a, haa, epa, eca⟩ := wi_ex c_1 (N := 3) rfl
    rw [epa] at hl
    have ha : a < 4 := haa
    refine lv_iconst (v := 0) hx hb dX6_slips_8 (by decide) ?_
    refine lv_goto (tgt := 13) hx hb dX6_slips_9 (by decide) ?_
    refine va_put (ci := 6) (v := .int 0) (ty := tyX6 5) (C := RX6) (T := TX6) (N := 13) hx hb hts inX6 tyX6 tyX6_ok nmX6 hown hK hP hD hS 0 rfl rfl 5 (by decide) (hts _ q_775) (fun _ h9 => h9) rfl (tyX6_ok 5 (by decide)) rfl rfl (Nat.le_of_ble_eq_true rfl) dX6_slips_13 (fun H locs hP hD hS => ?_)
    have hP : va_P D vwCl [(m0, .inr (6, [.ref m1, .int st, .ref m2, .int len, .ref m3, .int 0, .int wo, .ref m4, .int rd, .int nu, .int du, .ref m5, .long hs])), (m1, .inl (kA 0, 148, .inl z)), (m2, .inl (kA 0, 888, .inl h)), (m3, .inl (kA 0, 60, .inl tx)), (m4, .inl (kA 0, 72, .inl pt)), (m5, .inl (kA 0, 148, .inl kp))] H := hP
    have hD : va_D (Aw [(m0, .inr (6, [.ref m1, .int st, .ref m2, .int len, .ref m3, .int th, .int wo, .ref m4, .int rd, .int nu, .int du, .ref m5, .long hs])), (m1, .inl (kA 0, 148, .inl z)), (m2, .inl (kA 0, 888, .inl h)), (m3, .inl (kA 0, 60, .inl tx)), (m4, .inl (kA 0, 72, .inl pt)), (m5, .inl (kA 0, 148, .inl kp))]) [(m0, .inr (6, [.ref m1, .int st, .ref m2, .int len, .ref m3, .int 0, .int wo, .ref m4, .int rd, .int nu, .int du, .ref m5, .long hs])), (m1, .inl (kA 0, 148, .inl z)), (m2, .inl (kA 0, 888, .inl h)), (m3, .inl (kA 0, 60, .inl tx)), (m4, .inl (kA 0, 72, .inl pt)), (m5, .inl (kA 0, 148, .inl kp))] := hD
    refine lv_aload_n hx hb dX6_slips_16 rfl (lv_at hl 0 rfl) ?_
    refine va_get (ci := 6) (v := .int 0) (C := RX6) (T := TX6) (N := 13) hx hb hts inX6 hown hK hP 0 rfl rfl 5 (by decide) (hts _ q_775) (fun _ h9 => h9) rfl dX6_slips_17 ?_
    refine lv_if_le (tgt := 27) hx hb dX6_slips_20 (by decide) (fun c_3 => ?_) (fun c_3 => ?_)
    · skip
      replace c_3 := ge_n c_3
      refine lv_aload_n hx hb dX6_slips_27 rfl (lv_at hl 0 rfl) ?_
      refine lv_iload_n hx hb dX6_slips_28 rfl (lv_at hl 1 rfl) ?_
      refine lv_iload_n hx hb dX6_slips_29 rfl (lv_at hl 2 rfl) ?_
      refine cs_p (runV (As := [.int (nI a), .int (bI up)]) (rest := []) ⟨hx, hb, hml, hown, hts⟩ (m_X6_slipNow l D kA m0 m1 m2 m3 m4 m5 z h tx pt kp st len 0 wo rd nu du hs a up (hI) (ha)) q_882 q_884 qp_31 q_7 q_885 hd_X6_slipNow ⟨rfl, rfl⟩ ⟨Nat.le_of_ble_eq_true rfl, Nat.le_of_ble_eq_true rfl⟩ hK (ws := [(m0, .inr (6, [.ref m1, .int st, .ref m2, .int len, .ref m3, .int 0, .int wo, .ref m4, .int rd, .int nu, .int du, .ref m5, .long hs])), (m1, .inl (kA 0, 148, .inl z)), (m2, .inl (kA 0, 888, .inl h)), (m3, .inl (kA 0, 60, .inl tx)), (m4, .inl (kA 0, 72, .inl pt)), (m5, .inl (kA 0, 148, .inl kp))]) (hP.sub [0, 1, 2, 3, 4, 5] rfl) (hD.sub [0, 1, 2, 3, 4, 5] (by decide) rfl) 0 (ci := 6) (C := RX6) (T := TX6) (N := 13) rfl rfl rfl hl.1 rfl (Nat.le_of_ble_eq_true rfl) dX6_slips_30 ⟨Nat.zero_le _, Nat.zero_le _⟩) ?_
      have hP : va_P D vwCl [(m0, .inr (6, [.ref m1, .int st, .ref m2, .int len, .ref m3, .int 0, .int wo, .ref m4, .int rd, .int nu, .int du, .ref m5, .long hs])), (m1, .inl (kA 0, 148, .inl z)), (m2, .inl (kA 0, 888, .inl h)), (m3, .inl (kA 0, 60, .inl tx)), (m4, .inl (kA 0, 72, .inl pt)), (m5, .inl (kA 0, 148, .inl kp))] _ := hP.sub [0, 1, 2, 3, 4, 5] rfl
      exact end_fi hx hb hrt hlk hP hS (by have hT : axT p0 = 0 := (by rw [axT, if_pos c_1]); rw [hT, if_pos rfl, eca]) (fun hq => by have hT : axT p0 = 0 := (by rw [axT, if_pos c_1]); rw [hT]; exact hq) dX6_slips_33
    · exact absurd c_3 (by decide)

theorem hd_X6_cost : yX6_cost.cls ≠ "java/lang/invoke/MethodHandle" ∧ yX6_cost.cls ≠ "java/lang/invoke/VarHandle" ∧ (parseMethodDescriptor yX6_cost.desc).map (fun d => d.parameters.length) = some 3 := by decide +kernel
set_option maxRecDepth 100000 in
set_option maxHeartbeats 4000000 in
theorem m_X6_cost (l : Launch) (D : va_G) (kA : Nat → Nat) (m0 : Nat) (m1 : Nat) (m2 : Nat) (m3 : Nat) (m4 : Nat) (m5 : Nat) (z : Nat → Int32) (h : Nat → Int32) (tx : Nat → Int32) (pt : Nat → Int32) (kp : Nat → Int32) (st : Int32) (len : Int32) (th : Int32) (wo : Int32) (rd : Int32) (nu : Int32) (du : Int32) (hs : Int64) (p0 : Int32) (p1 : Int32) (up : Bool) (hI : Inv z) : Met l yX6_cost (Cond.code yX6_cost cX6_cost 4 (some .int) :: AW) ({ frames := 3, cells := 0, slots := 0, locals := 73 } : Room) (Pz [.ref m0, .int p0, .int p1, .int (bI up)] D (TY kA) [(m0, .inr (6, [.ref m1, .int st, .ref m2, .int len, .ref m3, .int th, .int wo, .ref m4, .int rd, .int nu, .int du, .ref m5, .long hs])), (m1, .inl (kA 0, 148, .inl z)), (m2, .inl (kA 0, 888, .inl h)), (m3, .inl (kA 0, 60, .inl tx)), (m4, .inl (kA 0, 72, .inl pt)), (m5, .inl (kA 0, 148, .inl kp))]) (fQ (some (.int (if coT p0 p1 = 0 then costG (sl z p0.toNatClampNeg) z p1 (wI up) wo else 0))) D [(m0, .inr (6, [.ref m1, .int st, .ref m2, .int len, .ref m3, .int th, .int wo, .ref m4, .int rd, .int nu, .int du, .ref m5, .long hs])), (m1, .inl (kA 0, 148, .inl z)), (m2, .inl (kA 0, 888, .inl h)), (m3, .inl (kA 0, 60, .inl tx)), (m4, .inl (kA 0, 72, .inl pt)), (m5, .inl (kA 0, 148, .inl kp))] [(m0, .inr (6, [.ref m1, .int st, .ref m2, .int len, .ref m3, .int (coT p0 p1), .int wo, .ref m4, .int rd, .int nu, .int du, .ref m5, .long hs])), (m1, .inl (kA 0, 148, .inl z)), (m2, .inl (kA 0, 888, .inl h)), (m3, .inl (kA 0, 60, .inl tx)), (m4, .inl (kA 0, 72, .inl pt)), (m5, .inl (kA 0, 148, .inl kp))]) 0 0 (Aw [(m0, .inr (6, [.ref m1, .int st, .ref m2, .int len, .ref m3, .int th, .int wo, .ref m4, .int rd, .int nu, .int du, .ref m5, .long hs])), (m1, .inl (kA 0, 148, .inl z)), (m2, .inl (kA 0, 888, .inl h)), (m3, .inl (kA 0, 60, .inl tx)), (m4, .inl (kA 0, 72, .inl pt)), (m5, .inl (kA 0, 148, .inl kp))]) := by
  refine MetZ (by decide +kernel) (Nat.le_of_ble_eq_true rfl) ?_
  intro p e s m below meth c ls hx hb hrt hts hown hml hlk hnm hP hK hD hS hl
  have hl : lv_has ls 4 [(0, .ref m0), (1, .int p0), (2, .int p1), (3, .int (bI up))] := hl
  refine lv_aload_n hx hb dX6_cost_0 rfl (lv_at hl 0 rfl) ?_
  refine lv_iload_n hx hb dX6_cost_1 rfl (lv_at hl 1 rfl) ?_
  refine cs_p (runS (As := [.int p0]) (rest := [.ref m0]) ⟨hx, hb, hml, hown, hts⟩ (m_X6_isAxis l D kA p0 ) q_830 q_831 q_7 q_832 hd_X6_isAxis ⟨rfl, rfl⟩ ⟨Nat.le_of_ble_eq_true rfl, Nat.le_of_ble_eq_true rfl⟩ hK (ws := []) (hP.sub [] rfl) (hD.sub [] (by decide) rfl) rfl hl.1 rfl (Nat.le_of_ble_eq_true rfl) dX6_cost_2 ⟨Nat.zero_le _, Nat.zero_le _⟩) ?_
  refine lv_if_ne (tgt := 12) hx hb dX6_cost_5 (by decide) (fun c_1 => ?_) (fun c_1 => ?_)
  · skip
    replace c_1 := bI_n0 c_1
    obtain ⟨a, haa, epa, eca⟩ := wi_ex c_1 (N := 3) rfl
    rw [epa] at hl
    have ha : a < 4 := haa
    refine lv_iload_n hx hb dX6_cost_12 rfl (lv_at hl 2 rfl) ?_
    refine cs_p (runS (As := [.int p1]) (rest := [.ref m0]) ⟨hx, hb, hml, hown, hts⟩ (m_X6_isPlace l D kA p1 ) q_897 q_898 q_7 q_899 hd_X6_isPlace ⟨rfl, rfl⟩ ⟨Nat.le_of_ble_eq_true rfl, Nat.le_of_ble_eq_true rfl⟩ hK (ws := []) (hP.sub [] rfl) (hD.sub [] (by decide) rfl) rfl hl.1 rfl (Nat.le_of_ble_eq_true rfl) dX6_cost_13 ⟨Nat.zero_le _, Nat.zero_le _⟩) ?_
    refine lv_if_eq (tgt := 23) hx hb dX6_cost_16 (by decide) (fun c_2 => ?_) (fun c_2 => ?_)
    · skip
      replace c_2 := bI_0.mp c_2
      refine lv_iconst (v := 2) hx hb dX6_cost_23 (by decide) ?_
      refine va_put (ci := 6) (v := .int 2) (ty := tyX6 5) (C := RX6) (T := TX6) (N := 13) hx hb hts inX6 tyX6 tyX6_ok nmX6 hown hK hP hD hS 0 rfl rfl 5 (by decide) (hts _ q_775) (fun _ h9 => h9) rfl (tyX6_ok 5 (by decide)) rfl rfl (Nat.le_of_ble_eq_true rfl) dX6_cost_24 (fun H locs hP hD hS => ?_)
      have hP : va_P D vwCl [(m0, .inr (6, [.ref m1, .int st, .ref m2, .int len, .ref m3, .int 2, .int wo, .ref m4, .int rd, .int nu, .int du, .ref m5, .long hs])), (m1, .inl (kA 0, 148, .inl z)), (m2, .inl (kA 0, 888, .inl h)), (m3, .inl (kA 0, 60, .inl tx)), (m4, .inl (kA 0, 72, .inl pt)), (m5, .inl (kA 0, 148, .inl kp))] H := hP
      have hD : va_D (Aw [(m0, .inr (6, [.ref m1, .int st, .ref m2, .int len, .ref m3, .int th, .int wo, .ref m4, .int rd, .int nu, .int du, .ref m5, .long hs])), (m1, .inl (kA 0, 148, .inl z)), (m2, .inl (kA 0, 888, .inl h)), (m3, .inl (kA 0, 60, .inl tx)), (m4, .inl (kA 0, 72, .inl pt)), (m5, .inl (kA 0, 148, .inl kp))]) [(m0, .inr (6, [.ref m1, .int st, .ref m2, .int len, .ref m3, .int 2, .int wo, .ref m4, .int rd, .int nu, .int du, .ref m5, .long hs])), (m1, .inl (kA 0, 148, .inl z)), (m2, .inl (kA 0, 888, .inl h)), (m3, .inl (kA 0, 60, .inl tx)), (m4, .inl (kA 0, 72, .inl pt)), (m5, .inl (kA 0, 148, .inl kp))] := hD
      refine lv_aload_n hx hb dX6_cost_27 rfl (lv_at hl 0 rfl) ?_
      refine va_get (ci := 6) (v := .int 2) (C := RX6) (T := TX6) (N := 13) hx hb hts inX6 hown hK hP 0 rfl rfl 5 (by decide) (hts _ q_775) (fun _ h9 => h9) rfl dX6_cost_28 ?_
      refine lv_if_le (tgt := 38) hx hb dX6_cost_31 (by decide) (fun c_3 => ?_) (fun c_3 => ?_)
      · exact absurd c_3 (by decide)
      · skip
        replace c_3 := nge_l c_3
        refine lv_iconst (v := 0) hx hb dX6_cost_34 (by decide) ?_
        refine lv_goto (tgt := 45) hx hb dX6_cost_35 (by decide) ?_
        have hP : va_P D vwCl [(m0, .inr (6, [.ref m1, .int st, .ref m2, .int len, .ref m3, .int 2, .int wo, .ref m4, .int rd, .int nu, .int du, .ref m5, .long hs])), (m1, .inl (kA 0, 148, .inl z)), (m2, .inl (kA 0, 888, .inl h)), (m3, .inl (kA 0, 60, .inl tx)), (m4, .inl (kA 0, 72, .inl pt)), (m5, .inl (kA 0, 148, .inl kp))] _ := hP.sub [0, 1, 2, 3, 4, 5] rfl
        exact end_fi hx hb hrt hlk hP hS (by have hT : coT p0 p1 = 2 := (by rw [coT, if_pos c_1, if_neg (by rw [c_2]; decide)]); rw [hT, if_neg (by decide)]) (fun hq => by have hT : coT p0 p1 = 2 := (by rw [coT, if_pos c_1, if_neg (by rw [c_2]; decide)]); rw [hT]; exact hq) dX6_cost_45
    · skip
      replace c_2 := bI_n0 c_2
      obtain ⟨t, hat, ept, ect⟩ := wi_ex c_2 (N := 23) rfl
      rw [ept] at hl
      refine lv_iconst (v := 0) hx hb dX6_cost_19 (by decide) ?_
      refine lv_goto (tgt := 24) hx hb dX6_cost_20 (by decide) ?_
      refine va_put (ci := 6) (v := .int 0) (ty := tyX6 5) (C := RX6) (T := TX6) (N := 13) hx hb hts inX6 tyX6 tyX6_ok nmX6 hown hK hP hD hS 0 rfl rfl 5 (by decide) (hts _ q_775) (fun _ h9 => h9) rfl (tyX6_ok 5 (by decide)) rfl rfl (Nat.le_of_ble_eq_true rfl) dX6_cost_24 (fun H locs hP hD hS => ?_)
      have hP : va_P D vwCl [(m0, .inr (6, [.ref m1, .int st, .ref m2, .int len, .ref m3, .int 0, .int wo, .ref m4, .int rd, .int nu, .int du, .ref m5, .long hs])), (m1, .inl (kA 0, 148, .inl z)), (m2, .inl (kA 0, 888, .inl h)), (m3, .inl (kA 0, 60, .inl tx)), (m4, .inl (kA 0, 72, .inl pt)), (m5, .inl (kA 0, 148, .inl kp))] H := hP
      have hD : va_D (Aw [(m0, .inr (6, [.ref m1, .int st, .ref m2, .int len, .ref m3, .int th, .int wo, .ref m4, .int rd, .int nu, .int du, .ref m5, .long hs])), (m1, .inl (kA 0, 148, .inl z)), (m2, .inl (kA 0, 888, .inl h)), (m3, .inl (kA 0, 60, .inl tx)), (m4, .inl (kA 0, 72, .inl pt)), (m5, .inl (kA 0, 148, .inl kp))]) [(m0, .inr (6, [.ref m1, .int st, .ref m2, .int len, .ref m3, .int 0, .int wo, .ref m4, .int rd, .int nu, .int du, .ref m5, .long hs])), (m1, .inl (kA 0, 148, .inl z)), (m2, .inl (kA 0, 888, .inl h)), (m3, .inl (kA 0, 60, .inl tx)), (m4, .inl (kA 0, 72, .inl pt)), (m5, .inl (kA 0, 148, .inl kp))] := hD
      refine lv_aload_n hx hb dX6_cost_27 rfl (lv_at hl 0 rfl) ?_
      refine va_get (ci := 6) (v := .int 0) (C := RX6) (T := TX6) (N := 13) hx hb hts inX6 hown hK hP 0 rfl rfl 5 (by decide) (hts _ q_775) (fun _ h9 => h9) rfl dX6_cost_28 ?_
      refine lv_if_le (tgt := 38) hx hb dX6_cost_31 (by decide) (fun c_4 => ?_) (fun c_4 => ?_)
      · skip
        replace c_4 := ge_n c_4
        refine lv_aload_n hx hb dX6_cost_38 rfl (lv_at hl 0 rfl) ?_
        refine lv_iload_n hx hb dX6_cost_39 rfl (lv_at hl 1 rfl) ?_
        refine lv_iload_n hx hb dX6_cost_40 rfl (lv_at hl 2 rfl) ?_
        refine lv_iload_n hx hb dX6_cost_41 rfl (lv_at hl 3 rfl) ?_
        refine cs_p (runV (As := [.int (nI a), .int (nI t), .int (bI up)]) (rest := []) ⟨hx, hb, hml, hown, hts⟩ (m_X6_costNow l D kA m0 m1 m2 m3 m4 m5 z h tx pt kp st len 0 wo rd nu du hs a up (nI t) t (hI) (ha) (rfl) (hat)) q_908 q_910 qp_35 q_7 q_911 hd_X6_costNow ⟨rfl, rfl⟩ ⟨Nat.le_of_ble_eq_true rfl, Nat.le_of_ble_eq_true rfl⟩ hK (ws := [(m0, .inr (6, [.ref m1, .int st, .ref m2, .int len, .ref m3, .int 0, .int wo, .ref m4, .int rd, .int nu, .int du, .ref m5, .long hs])), (m1, .inl (kA 0, 148, .inl z)), (m2, .inl (kA 0, 888, .inl h)), (m3, .inl (kA 0, 60, .inl tx)), (m4, .inl (kA 0, 72, .inl pt)), (m5, .inl (kA 0, 148, .inl kp))]) (hP.sub [0, 1, 2, 3, 4, 5] rfl) (hD.sub [0, 1, 2, 3, 4, 5] (by decide) rfl) 0 (ci := 6) (C := RX6) (T := TX6) (N := 13) rfl rfl rfl hl.1 rfl (Nat.le_of_ble_eq_true rfl) dX6_cost_42 ⟨Nat.zero_le _, Nat.zero_le _⟩) ?_
        have hP : va_P D vwCl [(m0, .inr (6, [.ref m1, .int st, .ref m2, .int len, .ref m3, .int 0, .int wo, .ref m4, .int rd, .int nu, .int du, .ref m5, .long hs])), (m1, .inl (kA 0, 148, .inl z)), (m2, .inl (kA 0, 888, .inl h)), (m3, .inl (kA 0, 60, .inl tx)), (m4, .inl (kA 0, 72, .inl pt)), (m5, .inl (kA 0, 148, .inl kp))] _ := hP.sub [0, 1, 2, 3, 4, 5] rfl
        exact end_fi hx hb hrt hlk hP hS (by have hT : coT p0 p1 = 0 := (by rw [coT, if_pos c_1, if_pos c_2]); rw [hT, if_pos rfl, eca, ept]) (fun hq => by have hT : coT p0 p1 = 0 := (by rw [coT, if_pos c_1, if_pos c_2]); rw [hT]; exact hq) dX6_cost_45
      · exact absurd c_4 (by decide)
  · skip
    replace c_1 := bI_0.mp c_1
    refine lv_iconst (v := 1) hx hb dX6_cost_8 (by decide) ?_
    refine lv_goto (tgt := 24) hx hb dX6_cost_9 (by decide) ?_
    refine va_put (ci := 6) (v := .int 1) (ty := tyX6 5) (C := RX6) (T := TX6) (N := 13) hx hb hts inX6 tyX6 tyX6_ok nmX6 hown hK hP hD hS 0 rfl rfl 5 (by decide) (hts _ q_775) (fun _ h9 => h9) rfl (tyX6_ok 5 (by decide)) rfl rfl (Nat.le_of_ble_eq_true rfl) dX6_cost_24 (fun H locs hP hD hS => ?_)
    have hP : va_P D vwCl [(m0, .inr (6, [.ref m1, .int st, .ref m2, .int len, .ref m3, .int 1, .int wo, .ref m4, .int rd, .int nu, .int du, .ref m5, .long hs])), (m1, .inl (kA 0, 148, .inl z)), (m2, .inl (kA 0, 888, .inl h)), (m3, .inl (kA 0, 60, .inl tx)), (m4, .inl (kA 0, 72, .inl pt)), (m5, .inl (kA 0, 148, .inl kp))] H := hP
    have hD : va_D (Aw [(m0, .inr (6, [.ref m1, .int st, .ref m2, .int len, .ref m3, .int th, .int wo, .ref m4, .int rd, .int nu, .int du, .ref m5, .long hs])), (m1, .inl (kA 0, 148, .inl z)), (m2, .inl (kA 0, 888, .inl h)), (m3, .inl (kA 0, 60, .inl tx)), (m4, .inl (kA 0, 72, .inl pt)), (m5, .inl (kA 0, 148, .inl kp))]) [(m0, .inr (6, [.ref m1, .int st, .ref m2, .int len, .ref m3, .int 1, .int wo, .ref m4, .int rd, .int nu, .int du, .ref m5, .long hs])), (m1, .inl (kA 0, 148, .inl z)), (m2, .inl (kA 0, 888, .inl h)), (m3, .inl (kA 0, 60, .inl tx)), (m4, .inl (kA 0, 72, .inl pt)), (m5, .inl (kA 0, 148, .inl kp))] := hD
    refine lv_aload_n hx hb dX6_cost_27 rfl (lv_at hl 0 rfl) ?_
    refine va_get (ci := 6) (v := .int 1) (C := RX6) (T := TX6) (N := 13) hx hb hts inX6 hown hK hP 0 rfl rfl 5 (by decide) (hts _ q_775) (fun _ h9 => h9) rfl dX6_cost_28 ?_
    refine lv_if_le (tgt := 38) hx hb dX6_cost_31 (by decide) (fun c_5 => ?_) (fun c_5 => ?_)
    · exact absurd c_5 (by decide)
    · skip
      replace c_5 := nge_l c_5
      refine lv_iconst (v := 0) hx hb dX6_cost_34 (by decide) ?_
      refine lv_goto (tgt := 45) hx hb dX6_cost_35 (by decide) ?_
      have hP : va_P D vwCl [(m0, .inr (6, [.ref m1, .int st, .ref m2, .int len, .ref m3, .int 1, .int wo, .ref m4, .int rd, .int nu, .int du, .ref m5, .long hs])), (m1, .inl (kA 0, 148, .inl z)), (m2, .inl (kA 0, 888, .inl h)), (m3, .inl (kA 0, 60, .inl tx)), (m4, .inl (kA 0, 72, .inl pt)), (m5, .inl (kA 0, 148, .inl kp))] _ := hP.sub [0, 1, 2, 3, 4, 5] rfl
      exact end_fi hx hb hrt hlk hP hS (by have hT : coT p0 p1 = 1 := (by rw [coT, if_neg (by rw [c_1]; decide)]); rw [hT, if_neg (by decide)]) (fun hq => by have hT : coT p0 p1 = 1 := (by rw [coT, if_neg (by rw [c_1]; decide)]); rw [hT]; exact hq) dX6_cost_45

theorem hd_X6_keep : yX6_keep.cls ≠ "java/lang/invoke/MethodHandle" ∧ yX6_keep.cls ≠ "java/lang/invoke/VarHandle" ∧ (parseMethodDescriptor yX6_keep.desc).map (fun d => d.parameters.length) = some 0 := by decide +kernel
set_option maxRecDepth 100000 in
set_option maxHeartbeats 4000000 in
theorem m_X6_keep (l : Launch) (D : va_G) (kA : Nat → Nat) (m0 : Nat) (m1 : Nat) (m2 : Nat) (m3 : Nat) (m4 : Nat) (m5 : Nat) (z : Nat → Int32) (h : Nat → Int32) (tx : Nat → Int32) (pt : Nat → Int32) (kp : Nat → Int32) (st : Int32) (len : Int32) (th : Int32) (wo : Int32) (rd : Int32) (nu : Int32) (du : Int32) (hs : Int64) : Met l yX6_keep (Cond.code yX6_keep cX6_keep 2 none :: AW) ({ frames := 0, cells := 0, slots := 0, locals := 0 } : Room) (Pz [.ref m0] D (TY kA) [(m0, .inr (6, [.ref m1, .int st, .ref m2, .int len, .ref m3, .int th, .int wo, .ref m4, .int rd, .int nu, .int du, .ref m5, .long hs])), (m1, .inl (kA 0, 148, .inl z)), (m2, .inl (kA 0, 888, .inl h)), (m3, .inl (kA 0, 60, .inl tx)), (m4, .inl (kA 0, 72, .inl pt)), (m5, .inl (kA 0, 148, .inl kp))]) (fQ none D [(m0, .inr (6, [.ref m1, .int st, .ref m2, .int len, .ref m3, .int th, .int wo, .ref m4, .int rd, .int nu, .int du, .ref m5, .long hs])), (m1, .inl (kA 0, 148, .inl z)), (m2, .inl (kA 0, 888, .inl h)), (m3, .inl (kA 0, 60, .inl tx)), (m4, .inl (kA 0, 72, .inl pt)), (m5, .inl (kA 0, 148, .inl kp))] [(m0, .inr (6, [.ref m1, .int st, .ref m2, .int len, .ref m3, .int th, .int wo, .ref m4, .int rd, .int nu, .int du, .ref m5, .long hs])), (m1, .inl (kA 0, 148, .inl z)), (m2, .inl (kA 0, 888, .inl h)), (m3, .inl (kA 0, 60, .inl tx)), (m4, .inl (kA 0, 72, .inl pt)), (m5, .inl (kA 0, 148, .inl z))]) 0 0 (Aw [(m0, .inr (6, [.ref m1, .int st, .ref m2, .int len, .ref m3, .int th, .int wo, .ref m4, .int rd, .int nu, .int du, .ref m5, .long hs])), (m1, .inl (kA 0, 148, .inl z)), (m2, .inl (kA 0, 888, .inl h)), (m3, .inl (kA 0, 60, .inl tx)), (m4, .inl (kA 0, 72, .inl pt)), (m5, .inl (kA 0, 148, .inl kp))]) := by
  refine MetZ (by decide +kernel) (Nat.le_of_ble_eq_true rfl) ?_
  intro p e s m below meth c ls hx hb hrt hts hown hml hlk hnm hP hK hD hS hl
  have hl : lv_has ls 2 [(0, .ref m0)] := hl
  refine lv_iconst (v := 0) hx hb dX6_keep_0 (by decide) ?_
  refine lv_istore_n (lv' := [(1, .int 0), (0, .ref m0)]) hx hb dX6_keep_1 rfl hl (by decide) rfl (fun ls hl => ?_)
  have loop_2 : ∀ (n : Nat) (j : Nat) (yj : Nat → Int32) (x1 : Int32) (hj : j + n = 148) (e1 : x1 = nI j) (hy : yj = keL z kp j), ∀ (H : Heap) (locs : List Loc), va_P D vwCl [(m0, .inr (6, [.ref m1, .int st, .ref m2, .int len, .ref m3, .int th, .int wo, .ref m4, .int rd, .int nu, .int du, .ref m5, .long hs])), (m1, .inl (kA 0, 148, .inl z)), (m2, .inl (kA 0, 888, .inl h)), (m3, .inl (kA 0, 60, .inl tx)), (m4, .inl (kA 0, 72, .inl pt)), (m5, .inl (kA 0, 148, .inl yj))] H → va_D (Aw [(m0, .inr (6, [.ref m1, .int st, .ref m2, .int len, .ref m3, .int th, .int wo, .ref m4, .int rd, .int nu, .int du, .ref m5, .long hs])), (m1, .inl (kA 0, 148, .inl z)), (m2, .inl (kA 0, 888, .inl h)), (m3, .inl (kA 0, 60, .inl tx)), (m4, .inl (kA 0, 72, .inl pt)), (m5, .inl (kA 0, 148, .inl kp))]) [(m0, .inr (6, [.ref m1, .int st, .ref m2, .int len, .ref m3, .int th, .int wo, .ref m4, .int rd, .int nu, .int du, .ref m5, .long hs])), (m1, .inl (kA 0, 148, .inl z)), (m2, .inl (kA 0, 888, .inl h)), (m3, .inl (kA 0, 60, .inl tx)), (m4, .inl (kA 0, 72, .inl pt)), (m5, .inl (kA 0, 148, .inl yj))] → va_S (Aw [(m0, .inr (6, [.ref m1, .int st, .ref m2, .int len, .ref m3, .int th, .int wo, .ref m4, .int rd, .int nu, .int du, .ref m5, .long hs])), (m1, .inl (kA 0, 148, .inl z)), (m2, .inl (kA 0, 888, .inl h)), (m3, .inl (kA 0, 60, .inl tx)), (m4, .inl (kA 0, 72, .inl pt)), (m5, .inl (kA 0, 148, .inl kp))]) s.heap H locs → ∀ ls : Array Slot, lv_has ls 2 [(0, .ref m0), (1, .int x1)] → W p l e ({ frames := 0, cells := 0, slots := 0, locals := 0 } : Room) s m [.ref m0].toArray below meth c H locs 0 0 (MQ below (fQ none D [(m0, .inr (6, [.ref m1, .int st, .ref m2, .int len, .ref m3, .int th, .int wo, .ref m4, .int rd, .int nu, .int du, .ref m5, .long hs])), (m1, .inl (kA 0, 148, .inl z)), (m2, .inl (kA 0, 888, .inl h)), (m3, .inl (kA 0, 60, .inl tx)), (m4, .inl (kA 0, 72, .inl pt)), (m5, .inl (kA 0, 148, .inl kp))] [(m0, .inr (6, [.ref m1, .int st, .ref m2, .int len, .ref m3, .int th, .int wo, .ref m4, .int rd, .int nu, .int du, .ref m5, .long hs])), (m1, .inl (kA 0, 148, .inl z)), (m2, .inl (kA 0, 888, .inl h)), (m3, .inl (kA 0, 60, .inl tx)), (m4, .inl (kA 0, 72, .inl pt)), (m5, .inl (kA 0, 148, .inl z))]) [.ref m0].toArray s 0 0 (Aw [(m0, .inr (6, [.ref m1, .int st, .ref m2, .int len, .ref m3, .int th, .int wo, .ref m4, .int rd, .int nu, .int du, .ref m5, .long hs])), (m1, .inl (kA 0, 148, .inl z)), (m2, .inl (kA 0, 888, .inl h)), (m3, .inl (kA 0, 60, .inl tx)), (m4, .inl (kA 0, 72, .inl pt)), (m5, .inl (kA 0, 148, .inl kp))])) (F0 m 2 ls []) := by
    clear hl
    clear hP hD hS
    intro n
    induction n with
    | zero =>
      intro j yj x1 hj e1 hy H locs hP hD hS ls hl
      refine lv_iload_n hx hb dX6_keep_2 rfl (lv_at hl 1 rfl) ?_
      refine lv_sipush (v := 148) hx hb dX6_keep_3 (by decide) ?_
      refine lv_icmp_ge (tgt := 27) hx hb dX6_keep_6 (by decide) (fun c_1 => ?_) (fun c_1 => ?_)
      · skip
        replace c_1 := ge_n c_1
        have hP : va_P D vwCl [(m0, .inr (6, [.ref m1, .int st, .ref m2, .int len, .ref m3, .int th, .int wo, .ref m4, .int rd, .int nu, .int du, .ref m5, .long hs])), (m1, .inl (kA 0, 148, .inl z)), (m2, .inl (kA 0, 888, .inl h)), (m3, .inl (kA 0, 60, .inl tx)), (m4, .inl (kA 0, 72, .inl pt)), (m5, .inl (kA 0, 148, .inl yj))] _ := hP.sub [0, 1, 2, 3, 4, 5] rfl
        exact end_fv hx hb hrt hlk hP hS (fun hq => hq.ints 5 z rfl (fun i hi => ke_in hy (by omega))) dX6_keep_27
      · exact absurd c_1 (fun q => q (cnt_ge (N := 148) e1 rfl (by omega) (by omega)))
    | succ n ih2 =>
      intro j yj x1 hj e1 hy H locs hP hD hS ls hl
      refine lv_iload_n hx hb dX6_keep_2 rfl (lv_at hl 1 rfl) ?_
      refine lv_sipush (v := 148) hx hb dX6_keep_3 (by decide) ?_
      refine lv_icmp_ge (tgt := 27) hx hb dX6_keep_6 (by decide) (fun c_2 => ?_) (fun c_2 => ?_)
      · exact absurd c_2 (cnt_nge (N := 148) e1 rfl (by omega) (by omega))
      · skip
        replace c_2 := nge_l c_2
        refine lv_aload_n hx hb dX6_keep_9 rfl (lv_at hl 0 rfl) ?_
        refine va_get (ci := 6) (v := .ref m5) (C := RX6) (T := TX6) (N := 13) hx hb hts inX6 hown hK hP 0 rfl rfl 11 (by decide) (hts _ q_781) (fun _ h9 => h9) rfl dX6_keep_10 ?_
        refine lv_iload_n hx hb dX6_keep_13 rfl (lv_at hl 1 rfl) ?_
        refine lv_aload_n hx hb dX6_keep_14 rfl (lv_at hl 0 rfl) ?_
        refine va_get (ci := 6) (v := .ref m1) (C := RX6) (T := TX6) (N := 13) hx hb hts inX6 hown hK hP 0 rfl rfl 0 (by decide) (hts _ q_770) (fun _ h9 => h9) rfl dX6_keep_15 ?_
        refine lv_iload_n hx hb dX6_keep_18 rfl (lv_at hl 1 rfl) ?_
        refine va_iald (f := z) hx hb hK hP 1 0 rfl rfl (in_nI e1 (by omega) (by decide)) dX6_keep_19 ?_
        refine va_iast (f := yj) hx hb hK hP hD hS 5 0 rfl rfl (in_nI e1 (by omega) (by decide)) dX6_keep_20 (fun H locs hP hD hS => ?_)
        have hP : va_P D vwCl [(m0, .inr (6, [.ref m1, .int st, .ref m2, .int len, .ref m3, .int th, .int wo, .ref m4, .int rd, .int nu, .int du, .ref m5, .long hs])), (m1, .inl (kA 0, 148, .inl z)), (m2, .inl (kA 0, 888, .inl h)), (m3, .inl (kA 0, 60, .inl tx)), (m4, .inl (kA 0, 72, .inl pt)), (m5, .inl (kA 0, 148, .inl (upd yj x1.toNatClampNeg (z x1.toNatClampNeg))))] H := hP
        have hD : va_D (Aw [(m0, .inr (6, [.ref m1, .int st, .ref m2, .int len, .ref m3, .int th, .int wo, .ref m4, .int rd, .int nu, .int du, .ref m5, .long hs])), (m1, .inl (kA 0, 148, .inl z)), (m2, .inl (kA 0, 888, .inl h)), (m3, .inl (kA 0, 60, .inl tx)), (m4, .inl (kA 0, 72, .inl pt)), (m5, .inl (kA 0, 148, .inl kp))]) [(m0, .inr (6, [.ref m1, .int st, .ref m2, .int len, .ref m3, .int th, .int wo, .ref m4, .int rd, .int nu, .int du, .ref m5, .long hs])), (m1, .inl (kA 0, 148, .inl z)), (m2, .inl (kA 0, 888, .inl h)), (m3, .inl (kA 0, 60, .inl tx)), (m4, .inl (kA 0, 72, .inl pt)), (m5, .inl (kA 0, 148, .inl (upd yj x1.toNatClampNeg (z x1.toNatClampNeg))))] := hD
        refine lv_iinc (v := x1 + 1) (lv' := [(1, .int (x1 + 1)), (0, .ref m0)]) hx hb dX6_keep_21 hl (k := 1) rfl (by first | rfl | exact congrArg (_ + ·) (by decide)) (by decide) rfl (fun ls hl => ?_)
        refine lv_goto (tgt := 2) hx hb dX6_keep_24 (by decide) ?_
        exact ih2 (j + 1) (upd yj x1.toNatClampNeg (z x1.toNatClampNeg)) (x1 + 1) (by omega) (by rw [e1]; exact nI_1 j) (by rw [clamp_j e1 (by omega)]; exact ke_s hy) _ _ (hP.sub [0, 1, 2, 3, 4, 5] rfl) (hD.sub [0, 1, 2, 3, 4, 5] (by decide) rfl) hS ls (lv_sub hl [1, 0] rfl)
  exact loop_2 148 0 kp 0 (by omega) (nI_0.symm) (ke_0) _ _ (hP.sub [0, 1, 2, 3, 4, 5] rfl) (hD.sub [0, 1, 2, 3, 4, 5] (by decide) rfl) hS ls (lv_sub hl [1, 0] rfl)

theorem hd_X6_layBack : yX6_layBack.cls ≠ "java/lang/invoke/MethodHandle" ∧ yX6_layBack.cls ≠ "java/lang/invoke/VarHandle" ∧ (parseMethodDescriptor yX6_layBack.desc).map (fun d => d.parameters.length) = some 0 := by decide +kernel
set_option maxRecDepth 100000 in
set_option maxHeartbeats 4000000 in
theorem m_X6_layBack (l : Launch) (D : va_G) (kA : Nat → Nat) (m0 : Nat) (m1 : Nat) (m2 : Nat) (m3 : Nat) (m4 : Nat) (m5 : Nat) (z : Nat → Int32) (h : Nat → Int32) (tx : Nat → Int32) (pt : Nat → Int32) (kp : Nat → Int32) (st : Int32) (len : Int32) (th : Int32) (wo : Int32) (rd : Int32) (nu : Int32) (du : Int32) (hs : Int64) : Met l yX6_layBack (Cond.code yX6_layBack cX6_layBack 2 none :: AW) ({ frames := 0, cells := 0, slots := 0, locals := 0 } : Room) (Pz [.ref m0] D (TY kA) [(m0, .inr (6, [.ref m1, .int st, .ref m2, .int len, .ref m3, .int th, .int wo, .ref m4, .int rd, .int nu, .int du, .ref m5, .long hs])), (m1, .inl (kA 0, 148, .inl z)), (m2, .inl (kA 0, 888, .inl h)), (m3, .inl (kA 0, 60, .inl tx)), (m4, .inl (kA 0, 72, .inl pt)), (m5, .inl (kA 0, 148, .inl kp))]) (fQ none D [(m0, .inr (6, [.ref m1, .int st, .ref m2, .int len, .ref m3, .int th, .int wo, .ref m4, .int rd, .int nu, .int du, .ref m5, .long hs])), (m1, .inl (kA 0, 148, .inl z)), (m2, .inl (kA 0, 888, .inl h)), (m3, .inl (kA 0, 60, .inl tx)), (m4, .inl (kA 0, 72, .inl pt)), (m5, .inl (kA 0, 148, .inl kp))] [(m0, .inr (6, [.ref m1, .int st, .ref m2, .int len, .ref m3, .int th, .int wo, .ref m4, .int rd, .int nu, .int du, .ref m5, .long hs])), (m1, .inl (kA 0, 148, .inl kp)), (m2, .inl (kA 0, 888, .inl h)), (m3, .inl (kA 0, 60, .inl tx)), (m4, .inl (kA 0, 72, .inl pt)), (m5, .inl (kA 0, 148, .inl kp))]) 0 0 (Aw [(m0, .inr (6, [.ref m1, .int st, .ref m2, .int len, .ref m3, .int th, .int wo, .ref m4, .int rd, .int nu, .int du, .ref m5, .long hs])), (m1, .inl (kA 0, 148, .inl z)), (m2, .inl (kA 0, 888, .inl h)), (m3, .inl (kA 0, 60, .inl tx)), (m4, .inl (kA 0, 72, .inl pt)), (m5, .inl (kA 0, 148, .inl kp))]) := by
  refine MetZ (by decide +kernel) (Nat.le_of_ble_eq_true rfl) ?_
  intro p e s m below meth c ls hx hb hrt hts hown hml hlk hnm hP hK hD hS hl
  have hl : lv_has ls 2 [(0, .ref m0)] := hl
  refine lv_iconst (v := 0) hx hb dX6_layBack_0 (by decide) ?_
  refine lv_istore_n (lv' := [(1, .int 0), (0, .ref m0)]) hx hb dX6_layBack_1 rfl hl (by decide) rfl (fun ls hl => ?_)
  have loop_2 : ∀ (n : Nat) (j : Nat) (yj : Nat → Int32) (x1 : Int32) (hj : j + n = 148) (e1 : x1 = nI j) (hy : yj = keL kp z j), ∀ (H : Heap) (locs : List Loc), va_P D vwCl [(m0, .inr (6, [.ref m1, .int st, .ref m2, .int len, .ref m3, .int th, .int wo, .ref m4, .int rd, .int nu, .int du, .ref m5, .long hs])), (m1, .inl (kA 0, 148, .inl yj)), (m2, .inl (kA 0, 888, .inl h)), (m3, .inl (kA 0, 60, .inl tx)), (m4, .inl (kA 0, 72, .inl pt)), (m5, .inl (kA 0, 148, .inl kp))] H → va_D (Aw [(m0, .inr (6, [.ref m1, .int st, .ref m2, .int len, .ref m3, .int th, .int wo, .ref m4, .int rd, .int nu, .int du, .ref m5, .long hs])), (m1, .inl (kA 0, 148, .inl z)), (m2, .inl (kA 0, 888, .inl h)), (m3, .inl (kA 0, 60, .inl tx)), (m4, .inl (kA 0, 72, .inl pt)), (m5, .inl (kA 0, 148, .inl kp))]) [(m0, .inr (6, [.ref m1, .int st, .ref m2, .int len, .ref m3, .int th, .int wo, .ref m4, .int rd, .int nu, .int du, .ref m5, .long hs])), (m1, .inl (kA 0, 148, .inl yj)), (m2, .inl (kA 0, 888, .inl h)), (m3, .inl (kA 0, 60, .inl tx)), (m4, .inl (kA 0, 72, .inl pt)), (m5, .inl (kA 0, 148, .inl kp))] → va_S (Aw [(m0, .inr (6, [.ref m1, .int st, .ref m2, .int len, .ref m3, .int th, .int wo, .ref m4, .int rd, .int nu, .int du, .ref m5, .long hs])), (m1, .inl (kA 0, 148, .inl z)), (m2, .inl (kA 0, 888, .inl h)), (m3, .inl (kA 0, 60, .inl tx)), (m4, .inl (kA 0, 72, .inl pt)), (m5, .inl (kA 0, 148, .inl kp))]) s.heap H locs → ∀ ls : Array Slot, lv_has ls 2 [(0, .ref m0), (1, .int x1)] → W p l e ({ frames := 0, cells := 0, slots := 0, locals := 0 } : Room) s m [.ref m0].toArray below meth c H locs 0 0 (MQ below (fQ none D [(m0, .inr (6, [.ref m1, .int st, .ref m2, .int len, .ref m3, .int th, .int wo, .ref m4, .int rd, .int nu, .int du, .ref m5, .long hs])), (m1, .inl (kA 0, 148, .inl z)), (m2, .inl (kA 0, 888, .inl h)), (m3, .inl (kA 0, 60, .inl tx)), (m4, .inl (kA 0, 72, .inl pt)), (m5, .inl (kA 0, 148, .inl kp))] [(m0, .inr (6, [.ref m1, .int st, .ref m2, .int len, .ref m3, .int th, .int wo, .ref m4, .int rd, .int nu, .int du, .ref m5, .long hs])), (m1, .inl (kA 0, 148, .inl kp)), (m2, .inl (kA 0, 888, .inl h)), (m3, .inl (kA 0, 60, .inl tx)), (m4, .inl (kA 0, 72, .inl pt)), (m5, .inl (kA 0, 148, .inl kp))]) [.ref m0].toArray s 0 0 (Aw [(m0, .inr (6, [.ref m1, .int st, .ref m2, .int len, .ref m3, .int th, .int wo, .ref m4, .int rd, .int nu, .int du, .ref m5, .long hs])), (m1, .inl (kA 0, 148, .inl z)), (m2, .inl (kA 0, 888, .inl h)), (m3, .inl (kA 0, 60, .inl tx)), (m4, .inl (kA 0, 72, .inl pt)), (m5, .inl (kA 0, 148, .inl kp))])) (F0 m 2 ls []) := by
    clear hl
    clear hP hD hS
    intro n
    induction n with
    | zero =>
      intro j yj x1 hj e1 hy H locs hP hD hS ls hl
      refine lv_iload_n hx hb dX6_layBack_2 rfl (lv_at hl 1 rfl) ?_
      refine lv_sipush (v := 148) hx hb dX6_layBack_3 (by decide) ?_
      refine lv_icmp_ge (tgt := 27) hx hb dX6_layBack_6 (by decide) (fun c_1 => ?_) (fun c_1 => ?_)
      · skip
        replace c_1 := ge_n c_1
        have hP : va_P D vwCl [(m0, .inr (6, [.ref m1, .int st, .ref m2, .int len, .ref m3, .int th, .int wo, .ref m4, .int rd, .int nu, .int du, .ref m5, .long hs])), (m1, .inl (kA 0, 148, .inl yj)), (m2, .inl (kA 0, 888, .inl h)), (m3, .inl (kA 0, 60, .inl tx)), (m4, .inl (kA 0, 72, .inl pt)), (m5, .inl (kA 0, 148, .inl kp))] _ := hP.sub [0, 1, 2, 3, 4, 5] rfl
        exact end_fv hx hb hrt hlk hP hS (fun hq => hq.ints 1 kp rfl (fun i hi => ke_in hy (by omega))) dX6_layBack_27
      · exact absurd c_1 (fun q => q (cnt_ge (N := 148) e1 rfl (by omega) (by omega)))
    | succ n ih2 =>
      intro j yj x1 hj e1 hy H locs hP hD hS ls hl
      refine lv_iload_n hx hb dX6_layBack_2 rfl (lv_at hl 1 rfl) ?_
      refine lv_sipush (v := 148) hx hb dX6_layBack_3 (by decide) ?_
      refine lv_icmp_ge (tgt := 27) hx hb dX6_layBack_6 (by decide) (fun c_2 => ?_) (fun c_2 => ?_)
      · exact absurd c_2 (cnt_nge (N := 148) e1 rfl (by omega) (by omega))
      · skip
        replace c_2 := nge_l c_2
        refine lv_aload_n hx hb dX6_layBack_9 rfl (lv_at hl 0 rfl) ?_
        refine va_get (ci := 6) (v := .ref m1) (C := RX6) (T := TX6) (N := 13) hx hb hts inX6 hown hK hP 0 rfl rfl 0 (by decide) (hts _ q_770) (fun _ h9 => h9) rfl dX6_layBack_10 ?_
        refine lv_iload_n hx hb dX6_layBack_13 rfl (lv_at hl 1 rfl) ?_
        refine lv_aload_n hx hb dX6_layBack_14 rfl (lv_at hl 0 rfl) ?_
        refine va_get (ci := 6) (v := .ref m5) (C := RX6) (T := TX6) (N := 13) hx hb hts inX6 hown hK hP 0 rfl rfl 11 (by decide) (hts _ q_781) (fun _ h9 => h9) rfl dX6_layBack_15 ?_
        refine lv_iload_n hx hb dX6_layBack_18 rfl (lv_at hl 1 rfl) ?_
        refine va_iald (f := kp) hx hb hK hP 5 0 rfl rfl (in_nI e1 (by omega) (by decide)) dX6_layBack_19 ?_
        refine va_iast (f := yj) hx hb hK hP hD hS 1 0 rfl rfl (in_nI e1 (by omega) (by decide)) dX6_layBack_20 (fun H locs hP hD hS => ?_)
        have hP : va_P D vwCl [(m0, .inr (6, [.ref m1, .int st, .ref m2, .int len, .ref m3, .int th, .int wo, .ref m4, .int rd, .int nu, .int du, .ref m5, .long hs])), (m1, .inl (kA 0, 148, .inl (upd yj x1.toNatClampNeg (kp x1.toNatClampNeg)))), (m2, .inl (kA 0, 888, .inl h)), (m3, .inl (kA 0, 60, .inl tx)), (m4, .inl (kA 0, 72, .inl pt)), (m5, .inl (kA 0, 148, .inl kp))] H := hP
        have hD : va_D (Aw [(m0, .inr (6, [.ref m1, .int st, .ref m2, .int len, .ref m3, .int th, .int wo, .ref m4, .int rd, .int nu, .int du, .ref m5, .long hs])), (m1, .inl (kA 0, 148, .inl z)), (m2, .inl (kA 0, 888, .inl h)), (m3, .inl (kA 0, 60, .inl tx)), (m4, .inl (kA 0, 72, .inl pt)), (m5, .inl (kA 0, 148, .inl kp))]) [(m0, .inr (6, [.ref m1, .int st, .ref m2, .int len, .ref m3, .int th, .int wo, .ref m4, .int rd, .int nu, .int du, .ref m5, .long hs])), (m1, .inl (kA 0, 148, .inl (upd yj x1.toNatClampNeg (kp x1.toNatClampNeg)))), (m2, .inl (kA 0, 888, .inl h)), (m3, .inl (kA 0, 60, .inl tx)), (m4, .inl (kA 0, 72, .inl pt)), (m5, .inl (kA 0, 148, .inl kp))] := hD
        refine lv_iinc (v := x1 + 1) (lv' := [(1, .int (x1 + 1)), (0, .ref m0)]) hx hb dX6_layBack_21 hl (k := 1) rfl (by first | rfl | exact congrArg (_ + ·) (by decide)) (by decide) rfl (fun ls hl => ?_)
        refine lv_goto (tgt := 2) hx hb dX6_layBack_24 (by decide) ?_
        exact ih2 (j + 1) (upd yj x1.toNatClampNeg (kp x1.toNatClampNeg)) (x1 + 1) (by omega) (by rw [e1]; exact nI_1 j) (by rw [clamp_j e1 (by omega)]; exact ke_s hy) _ _ (hP.sub [0, 1, 2, 3, 4, 5] rfl) (hD.sub [0, 1, 2, 3, 4, 5] (by decide) rfl) hS ls (lv_sub hl [1, 0] rfl)
  exact loop_2 148 0 z 0 (by omega) (nI_0.symm) (ke_0) _ _ (hP.sub [0, 1, 2, 3, 4, 5] rfl) (hD.sub [0, 1, 2, 3, 4, 5] (by decide) rfl) hS ls (lv_sub hl [1, 0] rfl)

theorem hd_X6_homedThen : yX6_homedThen.cls ≠ "java/lang/invoke/MethodHandle" ∧ yX6_homedThen.cls ≠ "java/lang/invoke/VarHandle" ∧ (parseMethodDescriptor yX6_homedThen.desc).map (fun d => d.parameters.length) = some 2 := by decide +kernel
set_option maxRecDepth 100000 in
set_option maxHeartbeats 4000000 in
theorem m_X6_homedThen (l : Launch) (D : va_G) (kA : Nat → Nat) (m0 : Nat) (m1 : Nat) (m2 : Nat) (m3 : Nat) (m4 : Nat) (m5 : Nat) (z : Nat → Int32) (h : Nat → Int32) (tx : Nat → Int32) (pt : Nat → Int32) (kp : Nat → Int32) (st : Int32) (len : Int32) (th : Int32) (wo : Int32) (rd : Int32) (nu : Int32) (du : Int32) (hs : Int64) (a : Nat) (p1 : Int32) (hI : Inv z) (ha : a < 4) : Met l yX6_homedThen (Cond.code yX6_homedThen cX6_homedThen 7 (some .int) :: AW) ({ frames := 5, cells := 0, slots := 0, locals := 116 } : Room) (Pz [.ref m0, .int (nI a), .int p1] D (TY kA) [(m0, .inr (6, [.ref m1, .int st, .ref m2, .int len, .ref m3, .int th, .int wo, .ref m4, .int rd, .int nu, .int du, .ref m5, .long hs])), (m1, .inl (kA 0, 148, .inl z)), (m2, .inl (kA 0, 888, .inl h)), (m3, .inl (kA 0, 60, .inl tx)), (m4, .inl (kA 0, 72, .inl pt)), (m5, .inl (kA 0, 148, .inl kp))]) (fQ (some (.int (htF z a p1))) D [(m0, .inr (6, [.ref m1, .int st, .ref m2, .int len, .ref m3, .int th, .int wo, .ref m4, .int rd, .int nu, .int du, .ref m5, .long hs])), (m1, .inl (kA 0, 148, .inl z)), (m2, .inl (kA 0, 888, .inl h)), (m3, .inl (kA 0, 60, .inl tx)), (m4, .inl (kA 0, 72, .inl pt)), (m5, .inl (kA 0, 148, .inl kp))] [(m0, .inr (6, [.ref m1, .int st, .ref m2, .int len, .ref m3, .int th, .int wo, .ref m4, .int rd, .int nu, .int du, .ref m5, .long hs])), (m1, .inl (kA 0, 148, .inl z)), (m2, .inl (kA 0, 888, .inl h)), (m3, .inl (kA 0, 60, .inl tx)), (m4, .inl (kA 0, 72, .inl pt)), (m5, .inl (kA 0, 148, .inl z))]) 0 0 (Aw [(m0, .inr (6, [.ref m1, .int st, .ref m2, .int len, .ref m3, .int th, .int wo, .ref m4, .int rd, .int nu, .int du, .ref m5, .long hs])), (m1, .inl (kA 0, 148, .inl z)), (m2, .inl (kA 0, 888, .inl h)), (m3, .inl (kA 0, 60, .inl tx)), (m4, .inl (kA 0, 72, .inl pt)), (m5, .inl (kA 0, 148, .inl kp))]) := by
  refine MetZ (by decide +kernel) (Nat.le_of_ble_eq_true rfl) ?_
  intro p e s m below meth c ls hx hb hrt hts hown hml hlk hnm hP hK hD hS hl
  have hl : lv_has ls 7 [(0, .ref m0), (1, .int (nI a)), (2, .int p1)] := hl
  refine lv_aload_n hx hb dX6_homedThen_0 rfl (lv_at hl 0 rfl) ?_
  refine cs_fn (runV (As := []) (rest := []) ⟨hx, hb, hml, hown, hts⟩ (m_X6_keep l D kA m0 m1 m2 m3 m4 m5 z h tx pt kp st len th wo rd nu du hs ) q_1051 q_1053 qp_54 q_7 q_1054 hd_X6_keep ⟨rfl, rfl⟩ ⟨Nat.le_of_ble_eq_true rfl, Nat.le_of_ble_eq_true rfl⟩ hK (ws := [(m0, .inr (6, [.ref m1, .int st, .ref m2, .int len, .ref m3, .int th, .int wo, .ref m4, .int rd, .int nu, .int du, .ref m5, .long hs])), (m1, .inl (kA 0, 148, .inl z)), (m2, .inl (kA 0, 888, .inl h)), (m3, .inl (kA 0, 60, .inl tx)), (m4, .inl (kA 0, 72, .inl pt)), (m5, .inl (kA 0, 148, .inl kp))]) (hP.sub [0, 1, 2, 3, 4, 5] rfl) (hD.sub [0, 1, 2, 3, 4, 5] (by decide) rfl) 0 (ci := 6) (C := RX6) (T := TX6) (N := 13) rfl rfl rfl hl.1 rfl (Nat.le_of_ble_eq_true rfl) dX6_homedThen_1 ⟨Nat.zero_le _, Nat.zero_le _⟩) hS (aw_sub hD (isC := [0, 1, 2, 3, 4, 5]) rfl) (fun H locs hP1 hk1 hS => ?_)
  obtain ⟨hP, hD⟩ := jn (wr := []) (w1 := [(m0, .inr (6, [.ref m1, .int st, .ref m2, .int len, .ref m3, .int th, .int wo, .ref m4, .int rd, .int nu, .int du, .ref m5, .long hs])), (m1, .inl (kA 0, 148, .inl z)), (m2, .inl (kA 0, 888, .inl h)), (m3, .inl (kA 0, 60, .inl tx)), (m4, .inl (kA 0, 72, .inl pt)), (m5, .inl (kA 0, 148, .inl z))]) hP hD [0, 1, 2, 3, 4, 5] [] rfl rfl (by decide) hk1 hP1 rfl
  have hP : va_P D vwCl [(m0, .inr (6, [.ref m1, .int st, .ref m2, .int len, .ref m3, .int th, .int wo, .ref m4, .int rd, .int nu, .int du, .ref m5, .long hs])), (m1, .inl (kA 0, 148, .inl z)), (m2, .inl (kA 0, 888, .inl h)), (m3, .inl (kA 0, 60, .inl tx)), (m4, .inl (kA 0, 72, .inl pt)), (m5, .inl (kA 0, 148, .inl z))] H := hP
  have hD : va_D (Aw [(m0, .inr (6, [.ref m1, .int st, .ref m2, .int len, .ref m3, .int th, .int wo, .ref m4, .int rd, .int nu, .int du, .ref m5, .long hs])), (m1, .inl (kA 0, 148, .inl z)), (m2, .inl (kA 0, 888, .inl h)), (m3, .inl (kA 0, 60, .inl tx)), (m4, .inl (kA 0, 72, .inl pt)), (m5, .inl (kA 0, 148, .inl kp))]) [(m0, .inr (6, [.ref m1, .int st, .ref m2, .int len, .ref m3, .int th, .int wo, .ref m4, .int rd, .int nu, .int du, .ref m5, .long hs])), (m1, .inl (kA 0, 148, .inl z)), (m2, .inl (kA 0, 888, .inl h)), (m3, .inl (kA 0, 60, .inl tx)), (m4, .inl (kA 0, 72, .inl pt)), (m5, .inl (kA 0, 148, .inl z))] := hD
  refine lv_aload_n hx hb dX6_homedThen_4 rfl (lv_at hl 0 rfl) ?_
  refine lv_iload_n hx hb dX6_homedThen_5 rfl (lv_at hl 1 rfl) ?_
  refine lv_bipush (v := 6) hx hb dX6_homedThen_6 (by decide) ?_
  refine cs_p (runV (As := [.int (nI a), .int 6]) (rest := []) ⟨hx, hb, hml, hown, hts⟩ (m_X6_of l D kA m0 m1 m2 m3 m4 m5 z h tx pt z st len th wo rd nu du hs a 6 6 (rfl) (by omega) (ha)) q_833 q_835 qp_23 q_7 q_836 hd_X6_of ⟨rfl, rfl⟩ ⟨Nat.le_of_ble_eq_true rfl, Nat.le_of_ble_eq_true rfl⟩ hK (ws := [(m0, .inr (6, [.ref m1, .int st, .ref m2, .int len, .ref m3, .int th, .int wo, .ref m4, .int rd, .int nu, .int du, .ref m5, .long hs])), (m1, .inl (kA 0, 148, .inl z)), (m2, .inl (kA 0, 888, .inl h)), (m3, .inl (kA 0, 60, .inl tx)), (m4, .inl (kA 0, 72, .inl pt)), (m5, .inl (kA 0, 148, .inl z))]) (hP.sub [0, 1, 2, 3, 4, 5] rfl) (hD.sub [0, 1, 2, 3, 4, 5] (by decide) rfl) 0 (ci := 6) (C := RX6) (T := TX6) (N := 13) rfl rfl rfl hl.1 rfl (Nat.le_of_ble_eq_true rfl) dX6_homedThen_8 ⟨Nat.zero_le _, Nat.zero_le _⟩) ?_
  refine lv_istore_n (lv' := [(3, .int (sl z a 6)), (0, .ref m0), (1, .int (nI a)), (2, .int p1)]) hx hb dX6_homedThen_11 rfl hl (by decide) rfl (fun ls hl => ?_)
  refine lv_aload_n hx hb dX6_homedThen_12 rfl (lv_at hl 1 rfl) ?_
  refine lv_iload_n hx hb dX6_homedThen_13 rfl (lv_at hl 2 rfl) ?_
  refine lv_bipush (v := 8) hx hb dX6_homedThen_14 (by decide) ?_
  refine cs_p (runV (As := [.int (nI a), .int 8]) (rest := []) ⟨hx, hb, hml, hown, hts⟩ (m_X6_of l D kA m0 m1 m2 m3 m4 m5 z h tx pt z st len th wo rd nu du hs a 8 8 (rfl) (by omega) (ha)) q_833 q_835 qp_23 q_7 q_836 hd_X6_of ⟨rfl, rfl⟩ ⟨Nat.le_of_ble_eq_true rfl, Nat.le_of_ble_eq_true rfl⟩ hK (ws := [(m0, .inr (6, [.ref m1, .int st, .ref m2, .int len, .ref m3, .int th, .int wo, .ref m4, .int rd, .int nu, .int du, .ref m5, .long hs])), (m1, .inl (kA 0, 148, .inl z)), (m2, .inl (kA 0, 888, .inl h)), (m3, .inl (kA 0, 60, .inl tx)), (m4, .inl (kA 0, 72, .inl pt)), (m5, .inl (kA 0, 148, .inl z))]) (hP.sub [0, 1, 2, 3, 4, 5] rfl) (hD.sub [0, 1, 2, 3, 4, 5] (by decide) rfl) 0 (ci := 6) (C := RX6) (T := TX6) (N := 13) rfl rfl rfl hl.1 rfl (Nat.le_of_ble_eq_true rfl) dX6_homedThen_16 ⟨Nat.zero_le _, Nat.zero_le _⟩) ?_
  refine lv_istore (lv' := [(4, .int (sl z a 8)), (3, .int (sl z a 6)), (0, .ref m0), (1, .int (nI a)), (2, .int p1)]) hx hb dX6_homedThen_19 hl (by decide) rfl (fun ls hl => ?_)
  refine lv_aload_n hx hb dX6_homedThen_21 rfl (lv_at hl 2 rfl) ?_
  refine lv_iload_n hx hb dX6_homedThen_22 rfl (lv_at hl 3 rfl) ?_
  refine cs_fs (runV (As := [.int (nI a)]) (rest := []) ⟨hx, hb, hml, hown, hts⟩ (m_X6_homes l D kA m0 m1 m2 m3 m4 m5 z h tx pt z st len th wo rd nu du hs a (hI) (ha)) q_920 q_922 qp_37 q_7 q_923 hd_X6_homes ⟨rfl, rfl⟩ ⟨Nat.le_of_ble_eq_true rfl, Nat.le_of_ble_eq_true rfl⟩ hK (ws := [(m0, .inr (6, [.ref m1, .int st, .ref m2, .int len, .ref m3, .int th, .int wo, .ref m4, .int rd, .int nu, .int du, .ref m5, .long hs])), (m1, .inl (kA 0, 148, .inl z)), (m2, .inl (kA 0, 888, .inl h)), (m3, .inl (kA 0, 60, .inl tx)), (m4, .inl (kA 0, 72, .inl pt)), (m5, .inl (kA 0, 148, .inl z))]) (hP.sub [0, 1, 2, 3, 4, 5] rfl) (hD.sub [0, 1, 2, 3, 4, 5] (by decide) rfl) 0 (ci := 6) (C := RX6) (T := TX6) (N := 13) rfl rfl rfl hl.1 rfl (Nat.le_of_ble_eq_true rfl) dX6_homedThen_23 ⟨Nat.zero_le _, Nat.zero_le _⟩) hS (aw_sub hD (isC := [0, 1, 2, 3, 4, 5]) rfl) (fun H locs hP1 hk1 hS => ?_)
  obtain ⟨hP, hD⟩ := jn (wr := []) (w1 := [(m0, .inr (6, [.ref m1, .int st, .ref m2, .int len, .ref m3, .int th, .int wo, .ref m4, .int rd, .int nu, .int du, .ref m5, .long hs])), (m1, .inl (kA 0, 148, .inl (hoZ z a))), (m2, .inl (kA 0, 888, .inl h)), (m3, .inl (kA 0, 60, .inl tx)), (m4, .inl (kA 0, 72, .inl pt)), (m5, .inl (kA 0, 148, .inl z))]) hP hD [0, 1, 2, 3, 4, 5] [] rfl rfl (by decide) hk1 hP1 rfl
  have hP : va_P D vwCl [(m0, .inr (6, [.ref m1, .int st, .ref m2, .int len, .ref m3, .int th, .int wo, .ref m4, .int rd, .int nu, .int du, .ref m5, .long hs])), (m1, .inl (kA 0, 148, .inl (hoZ z a))), (m2, .inl (kA 0, 888, .inl h)), (m3, .inl (kA 0, 60, .inl tx)), (m4, .inl (kA 0, 72, .inl pt)), (m5, .inl (kA 0, 148, .inl z))] H := hP
  have hD : va_D (Aw [(m0, .inr (6, [.ref m1, .int st, .ref m2, .int len, .ref m3, .int th, .int wo, .ref m4, .int rd, .int nu, .int du, .ref m5, .long hs])), (m1, .inl (kA 0, 148, .inl z)), (m2, .inl (kA 0, 888, .inl h)), (m3, .inl (kA 0, 60, .inl tx)), (m4, .inl (kA 0, 72, .inl pt)), (m5, .inl (kA 0, 148, .inl kp))]) [(m0, .inr (6, [.ref m1, .int st, .ref m2, .int len, .ref m3, .int th, .int wo, .ref m4, .int rd, .int nu, .int du, .ref m5, .long hs])), (m1, .inl (kA 0, 148, .inl (hoZ z a))), (m2, .inl (kA 0, 888, .inl h)), (m3, .inl (kA 0, 60, .inl tx)), (m4, .inl (kA 0, 72, .inl pt)), (m5, .inl (kA 0, 148, .inl z))] := hD
  refine lv_istore (lv' := [(5, .int (hoR z a)), (4, .int (sl z a 8)), (3, .int (sl z a 6)), (0, .ref m0), (1, .int (nI a)), (2, .int p1)]) hx hb dX6_homedThen_26 hl (by decide) rfl (fun ls hl => ?_)
  refine lv_iload_n hx hb dX6_homedThen_28 rfl (lv_at hl 5 rfl) ?_
  refine lv_if_ne (tgt := 44) hx hb dX6_homedThen_29 (by decide) (fun c_1 => ?_) (fun c_1 => ?_)
  · skip
    refine lv_iload_n hx hb dX6_homedThen_44 rfl (lv_at hl 5 rfl) ?_
    refine lv_iconst (v := 1) hx hb dX6_homedThen_45 (by decide) ?_
    refine lv_icmp_ne (tgt := 62) hx hb dX6_homedThen_46 (by decide) (fun c_2 => ?_) (fun c_2 => ?_)
    · skip
      refine lv_iload hx hb dX6_homedThen_62 (lv_at hl 0 rfl) ?_
      refine lv_iconst (v := (-1)) hx hb dX6_homedThen_64 (by decide) ?_
      refine lv_icmp_ne (tgt := 72) hx hb dX6_homedThen_65 (by decide) (fun c_3 => ?_) (fun c_3 => ?_)
      · skip
        refine lv_iconst (v := 1) hx hb dX6_homedThen_72 (by decide) ?_
        refine lv_istore (lv' := [(6, .int 1), (5, .int (hoR z a)), (4, .int (sl z a 8)), (3, .int (sl z a 6)), (0, .ref m0), (1, .int (nI a)), (2, .int p1)]) hx hb dX6_homedThen_73 hl (by decide) rfl (fun ls hl => ?_)
        refine lv_aload_n hx hb dX6_homedThen_75 rfl (lv_at hl 4 rfl) ?_
        refine cs_fn (runV (As := []) (rest := []) ⟨hx, hb, hml, hown, hts⟩ (m_X6_layBack l D kA m0 m1 m2 m3 m4 m5 (hoZ z a) h tx pt z st len th wo rd nu du hs ) q_1055 q_1057 qp_55 q_7 q_1058 hd_X6_layBack ⟨rfl, rfl⟩ ⟨Nat.le_of_ble_eq_true rfl, Nat.le_of_ble_eq_true rfl⟩ hK (ws := [(m0, .inr (6, [.ref m1, .int st, .ref m2, .int len, .ref m3, .int th, .int wo, .ref m4, .int rd, .int nu, .int du, .ref m5, .long hs])), (m1, .inl (kA 0, 148, .inl (hoZ z a))), (m2, .inl (kA 0, 888, .inl h)), (m3, .inl (kA 0, 60, .inl tx)), (m4, .inl (kA 0, 72, .inl pt)), (m5, .inl (kA 0, 148, .inl z))]) (hP.sub [0, 1, 2, 3, 4, 5] rfl) (hD.sub [0, 1, 2, 3, 4, 5] (by decide) rfl) 0 (ci := 6) (C := RX6) (T := TX6) (N := 13) rfl rfl rfl hl.1 rfl (Nat.le_of_ble_eq_true rfl) dX6_homedThen_76 ⟨Nat.zero_le _, Nat.zero_le _⟩) hS (aw_sub hD (isC := [0, 1, 2, 3, 4, 5]) rfl) (fun H locs hP1 hk1 hS => ?_)
        obtain ⟨hP, hD⟩ := jn (wr := []) (w1 := [(m0, .inr (6, [.ref m1, .int st, .ref m2, .int len, .ref m3, .int th, .int wo, .ref m4, .int rd, .int nu, .int du, .ref m5, .long hs])), (m1, .inl (kA 0, 148, .inl z)), (m2, .inl (kA 0, 888, .inl h)), (m3, .inl (kA 0, 60, .inl tx)), (m4, .inl (kA 0, 72, .inl pt)), (m5, .inl (kA 0, 148, .inl z))]) hP hD [0, 1, 2, 3, 4, 5] [] rfl rfl (by decide) hk1 hP1 rfl
        have hP : va_P D vwCl [(m0, .inr (6, [.ref m1, .int st, .ref m2, .int len, .ref m3, .int th, .int wo, .ref m4, .int rd, .int nu, .int du, .ref m5, .long hs])), (m1, .inl (kA 0, 148, .inl z)), (m2, .inl (kA 0, 888, .inl h)), (m3, .inl (kA 0, 60, .inl tx)), (m4, .inl (kA 0, 72, .inl pt)), (m5, .inl (kA 0, 148, .inl z))] H := hP
        have hD : va_D (Aw [(m0, .inr (6, [.ref m1, .int st, .ref m2, .int len, .ref m3, .int th, .int wo, .ref m4, .int rd, .int nu, .int du, .ref m5, .long hs])), (m1, .inl (kA 0, 148, .inl z)), (m2, .inl (kA 0, 888, .inl h)), (m3, .inl (kA 0, 60, .inl tx)), (m4, .inl (kA 0, 72, .inl pt)), (m5, .inl (kA 0, 148, .inl kp))]) [(m0, .inr (6, [.ref m1, .int st, .ref m2, .int len, .ref m3, .int th, .int wo, .ref m4, .int rd, .int nu, .int du, .ref m5, .long hs])), (m1, .inl (kA 0, 148, .inl z)), (m2, .inl (kA 0, 888, .inl h)), (m3, .inl (kA 0, 60, .inl tx)), (m4, .inl (kA 0, 72, .inl pt)), (m5, .inl (kA 0, 148, .inl z))] := hD
        refine lv_iload hx hb dX6_homedThen_79 (lv_at hl 0 rfl) ?_
        have hP : va_P D vwCl [(m0, .inr (6, [.ref m1, .int st, .ref m2, .int len, .ref m3, .int th, .int wo, .ref m4, .int rd, .int nu, .int du, .ref m5, .long hs])), (m1, .inl (kA 0, 148, .inl z)), (m2, .inl (kA 0, 888, .inl h)), (m3, .inl (kA 0, 60, .inl tx)), (m4, .inl (kA 0, 72, .inl pt)), (m5, .inl (kA 0, 148, .inl z))] _ := hP.sub [0, 1, 2, 3, 4, 5] rfl
        exact end_fi hx hb hrt hlk hP hS (by rw [htF, if_neg c_1, if_neg c_2, if_neg c_3]) (fun h => h) dX6_homedThen_81
      · skip
        refine lv_iconst (v := 0) hx hb dX6_homedThen_68 (by decide) ?_
        refine lv_goto (tgt := 73) hx hb dX6_homedThen_69 (by decide) ?_
        refine lv_istore (lv' := [(6, .int 0), (5, .int (hoR z a)), (4, .int (sl z a 8)), (3, .int (sl z a 6)), (0, .ref m0), (1, .int (nI a)), (2, .int p1)]) hx hb dX6_homedThen_73 hl (by decide) rfl (fun ls hl => ?_)
        refine lv_aload_n hx hb dX6_homedThen_75 rfl (lv_at hl 4 rfl) ?_
        refine cs_fn (runV (As := []) (rest := []) ⟨hx, hb, hml, hown, hts⟩ (m_X6_layBack l D kA m0 m1 m2 m3 m4 m5 (hoZ z a) h tx pt z st len th wo rd nu du hs ) q_1055 q_1057 qp_55 q_7 q_1058 hd_X6_layBack ⟨rfl, rfl⟩ ⟨Nat.le_of_ble_eq_true rfl, Nat.le_of_ble_eq_true rfl⟩ hK (ws := [(m0, .inr (6, [.ref m1, .int st, .ref m2, .int len, .ref m3, .int th, .int wo, .ref m4, .int rd, .int nu, .int du, .ref m5, .long hs])), (m1, .inl (kA 0, 148, .inl (hoZ z a))), (m2, .inl (kA 0, 888, .inl h)), (m3, .inl (kA 0, 60, .inl tx)), (m4, .inl (kA 0, 72, .inl pt)), (m5, .inl (kA 0, 148, .inl z))]) (hP.sub [0, 1, 2, 3, 4, 5] rfl) (hD.sub [0, 1, 2, 3, 4, 5] (by decide) rfl) 0 (ci := 6) (C := RX6) (T := TX6) (N := 13) rfl rfl rfl hl.1 rfl (Nat.le_of_ble_eq_true rfl) dX6_homedThen_76 ⟨Nat.zero_le _, Nat.zero_le _⟩) hS (aw_sub hD (isC := [0, 1, 2, 3, 4, 5]) rfl) (fun H locs hP1 hk1 hS => ?_)
        obtain ⟨hP, hD⟩ := jn (wr := []) (w1 := [(m0, .inr (6, [.ref m1, .int st, .ref m2, .int len, .ref m3, .int th, .int wo, .ref m4, .int rd, .int nu, .int du, .ref m5, .long hs])), (m1, .inl (kA 0, 148, .inl z)), (m2, .inl (kA 0, 888, .inl h)), (m3, .inl (kA 0, 60, .inl tx)), (m4, .inl (kA 0, 72, .inl pt)), (m5, .inl (kA 0, 148, .inl z))]) hP hD [0, 1, 2, 3, 4, 5] [] rfl rfl (by decide) hk1 hP1 rfl
        have hP : va_P D vwCl [(m0, .inr (6, [.ref m1, .int st, .ref m2, .int len, .ref m3, .int th, .int wo, .ref m4, .int rd, .int nu, .int du, .ref m5, .long hs])), (m1, .inl (kA 0, 148, .inl z)), (m2, .inl (kA 0, 888, .inl h)), (m3, .inl (kA 0, 60, .inl tx)), (m4, .inl (kA 0, 72, .inl pt)), (m5, .inl (kA 0, 148, .inl z))] H := hP
        have hD : va_D (Aw [(m0, .inr (6, [.ref m1, .int st, .ref m2, .int len, .ref m3, .int th, .int wo, .ref m4, .int rd, .int nu, .int du, .ref m5, .long hs])), (m1, .inl (kA 0, 148, .inl z)), (m2, .inl (kA 0, 888, .inl h)), (m3, .inl (kA 0, 60, .inl tx)), (m4, .inl (kA 0, 72, .inl pt)), (m5, .inl (kA 0, 148, .inl kp))]) [(m0, .inr (6, [.ref m1, .int st, .ref m2, .int len, .ref m3, .int th, .int wo, .ref m4, .int rd, .int nu, .int du, .ref m5, .long hs])), (m1, .inl (kA 0, 148, .inl z)), (m2, .inl (kA 0, 888, .inl h)), (m3, .inl (kA 0, 60, .inl tx)), (m4, .inl (kA 0, 72, .inl pt)), (m5, .inl (kA 0, 148, .inl z))] := hD
        refine lv_iload hx hb dX6_homedThen_79 (lv_at hl 0 rfl) ?_
        have hP : va_P D vwCl [(m0, .inr (6, [.ref m1, .int st, .ref m2, .int len, .ref m3, .int th, .int wo, .ref m4, .int rd, .int nu, .int du, .ref m5, .long hs])), (m1, .inl (kA 0, 148, .inl z)), (m2, .inl (kA 0, 888, .inl h)), (m3, .inl (kA 0, 60, .inl tx)), (m4, .inl (kA 0, 72, .inl pt)), (m5, .inl (kA 0, 148, .inl z))] _ := hP.sub [0, 1, 2, 3, 4, 5] rfl
        exact end_fi hx hb hrt hlk hP hS (by rw [htF, if_neg c_1, if_neg c_2, if_pos c_3]) (fun h => h) dX6_homedThen_81
    · skip
      refine lv_aload_n hx hb dX6_homedThen_49 rfl (lv_at hl 3 rfl) ?_
      refine lv_iload_n hx hb dX6_homedThen_50 rfl (lv_at hl 4 rfl) ?_
      refine lv_bipush (v := 8) hx hb dX6_homedThen_51 (by decide) ?_
      refine cs_p (runV (As := [.int (nI a), .int 8]) (rest := []) ⟨hx, hb, hml, hown, hts⟩ (m_X6_of l D kA m0 m1 m2 m3 m4 m5 (hoZ z a) h tx pt z st len th wo rd nu du hs a 8 8 (rfl) (by omega) (ha)) q_833 q_835 qp_23 q_7 q_836 hd_X6_of ⟨rfl, rfl⟩ ⟨Nat.le_of_ble_eq_true rfl, Nat.le_of_ble_eq_true rfl⟩ hK (ws := [(m0, .inr (6, [.ref m1, .int st, .ref m2, .int len, .ref m3, .int th, .int wo, .ref m4, .int rd, .int nu, .int du, .ref m5, .long hs])), (m1, .inl (kA 0, 148, .inl (hoZ z a))), (m2, .inl (kA 0, 888, .inl h)), (m3, .inl (kA 0, 60, .inl tx)), (m4, .inl (kA 0, 72, .inl pt)), (m5, .inl (kA 0, 148, .inl z))]) (hP.sub [0, 1, 2, 3, 4, 5] rfl) (hD.sub [0, 1, 2, 3, 4, 5] (by decide) rfl) 0 (ci := 6) (C := RX6) (T := TX6) (N := 13) rfl rfl rfl hl.1 rfl (Nat.le_of_ble_eq_true rfl) dX6_homedThen_53 ⟨Nat.zero_le _, Nat.zero_le _⟩) ?_
      refine lv_iload hx hb dX6_homedThen_56 (lv_at hl 1 rfl) ?_
      refine lv_isub hx hb dX6_homedThen_58 ?_
      refine lv_goto (tgt := 73) hx hb dX6_homedThen_59 (by decide) ?_
      refine lv_istore (lv' := [(6, .int ((sl (hoZ z a) a 8) - (sl z a 8))), (5, .int (hoR z a)), (4, .int (sl z a 8)), (3, .int (sl z a 6)), (0, .ref m0), (1, .int (nI a)), (2, .int p1)]) hx hb dX6_homedThen_73 hl (by decide) rfl (fun ls hl => ?_)
      refine lv_aload_n hx hb dX6_homedThen_75 rfl (lv_at hl 4 rfl) ?_
      refine cs_fn (runV (As := []) (rest := []) ⟨hx, hb, hml, hown, hts⟩ (m_X6_layBack l D kA m0 m1 m2 m3 m4 m5 (hoZ z a) h tx pt z st len th wo rd nu du hs ) q_1055 q_1057 qp_55 q_7 q_1058 hd_X6_layBack ⟨rfl, rfl⟩ ⟨Nat.le_of_ble_eq_true rfl, Nat.le_of_ble_eq_true rfl⟩ hK (ws := [(m0, .inr (6, [.ref m1, .int st, .ref m2, .int len, .ref m3, .int th, .int wo, .ref m4, .int rd, .int nu, .int du, .ref m5, .long hs])), (m1, .inl (kA 0, 148, .inl (hoZ z a))), (m2, .inl (kA 0, 888, .inl h)), (m3, .inl (kA 0, 60, .inl tx)), (m4, .inl (kA 0, 72, .inl pt)), (m5, .inl (kA 0, 148, .inl z))]) (hP.sub [0, 1, 2, 3, 4, 5] rfl) (hD.sub [0, 1, 2, 3, 4, 5] (by decide) rfl) 0 (ci := 6) (C := RX6) (T := TX6) (N := 13) rfl rfl rfl hl.1 rfl (Nat.le_of_ble_eq_true rfl) dX6_homedThen_76 ⟨Nat.zero_le _, Nat.zero_le _⟩) hS (aw_sub hD (isC := [0, 1, 2, 3, 4, 5]) rfl) (fun H locs hP1 hk1 hS => ?_)
      obtain ⟨hP, hD⟩ := jn (wr := []) (w1 := [(m0, .inr (6, [.ref m1, .int st, .ref m2, .int len, .ref m3, .int th, .int wo, .ref m4, .int rd, .int nu, .int du, .ref m5, .long hs])), (m1, .inl (kA 0, 148, .inl z)), (m2, .inl (kA 0, 888, .inl h)), (m3, .inl (kA 0, 60, .inl tx)), (m4, .inl (kA 0, 72, .inl pt)), (m5, .inl (kA 0, 148, .inl z))]) hP hD [0, 1, 2, 3, 4, 5] [] rfl rfl (by decide) hk1 hP1 rfl
      have hP : va_P D vwCl [(m0, .inr (6, [.ref m1, .int st, .ref m2, .int len, .ref m3, .int th, .int wo, .ref m4, .int rd, .int nu, .int du, .ref m5, .long hs])), (m1, .inl (kA 0, 148, .inl z)), (m2, .inl (kA 0, 888, .inl h)), (m3, .inl (kA 0, 60, .inl tx)), (m4, .inl (kA 0, 72, .inl pt)), (m5, .inl (kA 0, 148, .inl z))] H := hP
      have hD : va_D (Aw [(m0, .inr (6, [.ref m1, .int st, .ref m2, .int len, .ref m3, .int th, .int wo, .ref m4, .int rd, .int nu, .int du, .ref m5, .long hs])), (m1, .inl (kA 0, 148, .inl z)), (m2, .inl (kA 0, 888, .inl h)), (m3, .inl (kA 0, 60, .inl tx)), (m4, .inl (kA 0, 72, .inl pt)), (m5, .inl (kA 0, 148, .inl kp))]) [(m0, .inr (6, [.ref m1, .int st, .ref m2, .int len, .ref m3, .int th, .int wo, .ref m4, .int rd, .int nu, .int du, .ref m5, .long hs])), (m1, .inl (kA 0, 148, .inl z)), (m2, .inl (kA 0, 888, .inl h)), (m3, .inl (kA 0, 60, .inl tx)), (m4, .inl (kA 0, 72, .inl pt)), (m5, .inl (kA 0, 148, .inl z))] := hD
      refine lv_iload hx hb dX6_homedThen_79 (lv_at hl 0 rfl) ?_
      have hP : va_P D vwCl [(m0, .inr (6, [.ref m1, .int st, .ref m2, .int len, .ref m3, .int th, .int wo, .ref m4, .int rd, .int nu, .int du, .ref m5, .long hs])), (m1, .inl (kA 0, 148, .inl z)), (m2, .inl (kA 0, 888, .inl h)), (m3, .inl (kA 0, 60, .inl tx)), (m4, .inl (kA 0, 72, .inl pt)), (m5, .inl (kA 0, 148, .inl z))] _ := hP.sub [0, 1, 2, 3, 4, 5] rfl
      exact end_fi hx hb hrt hlk hP hS (by rw [htF, if_neg c_1, if_pos c_2]) (fun h => h) dX6_homedThen_81
  · skip
    refine lv_aload_n hx hb dX6_homedThen_32 rfl (lv_at hl 3 rfl) ?_
    refine lv_iload_n hx hb dX6_homedThen_33 rfl (lv_at hl 4 rfl) ?_
    refine lv_bipush (v := 6) hx hb dX6_homedThen_34 (by decide) ?_
    refine cs_p (runV (As := [.int (nI a), .int 6]) (rest := []) ⟨hx, hb, hml, hown, hts⟩ (m_X6_of l D kA m0 m1 m2 m3 m4 m5 (hoZ z a) h tx pt z st len th wo rd nu du hs a 6 6 (rfl) (by omega) (ha)) q_833 q_835 qp_23 q_7 q_836 hd_X6_of ⟨rfl, rfl⟩ ⟨Nat.le_of_ble_eq_true rfl, Nat.le_of_ble_eq_true rfl⟩ hK (ws := [(m0, .inr (6, [.ref m1, .int st, .ref m2, .int len, .ref m3, .int th, .int wo, .ref m4, .int rd, .int nu, .int du, .ref m5, .long hs])), (m1, .inl (kA 0, 148, .inl (hoZ z a))), (m2, .inl (kA 0, 888, .inl h)), (m3, .inl (kA 0, 60, .inl tx)), (m4, .inl (kA 0, 72, .inl pt)), (m5, .inl (kA 0, 148, .inl z))]) (hP.sub [0, 1, 2, 3, 4, 5] rfl) (hD.sub [0, 1, 2, 3, 4, 5] (by decide) rfl) 0 (ci := 6) (C := RX6) (T := TX6) (N := 13) rfl rfl rfl hl.1 rfl (Nat.le_of_ble_eq_true rfl) dX6_homedThen_36 ⟨Nat.zero_le _, Nat.zero_le _⟩) ?_
    refine lv_iload_n hx hb dX6_homedThen_39 rfl (lv_at hl 2 rfl) ?_
    refine lv_isub hx hb dX6_homedThen_40 ?_
    refine lv_goto (tgt := 73) hx hb dX6_homedThen_41 (by decide) ?_
    refine lv_istore (lv' := [(6, .int ((sl (hoZ z a) a 6) - (sl z a 6))), (5, .int (hoR z a)), (4, .int (sl z a 8)), (3, .int (sl z a 6)), (0, .ref m0), (1, .int (nI a)), (2, .int p1)]) hx hb dX6_homedThen_73 hl (by decide) rfl (fun ls hl => ?_)
    refine lv_aload_n hx hb dX6_homedThen_75 rfl (lv_at hl 4 rfl) ?_
    refine cs_fn (runV (As := []) (rest := []) ⟨hx, hb, hml, hown, hts⟩ (m_X6_layBack l D kA m0 m1 m2 m3 m4 m5 (hoZ z a) h tx pt z st len th wo rd nu du hs ) q_1055 q_1057 qp_55 q_7 q_1058 hd_X6_layBack ⟨rfl, rfl⟩ ⟨Nat.le_of_ble_eq_true rfl, Nat.le_of_ble_eq_true rfl⟩ hK (ws := [(m0, .inr (6, [.ref m1, .int st, .ref m2, .int len, .ref m3, .int th, .int wo, .ref m4, .int rd, .int nu, .int du, .ref m5, .long hs])), (m1, .inl (kA 0, 148, .inl (hoZ z a))), (m2, .inl (kA 0, 888, .inl h)), (m3, .inl (kA 0, 60, .inl tx)), (m4, .inl (kA 0, 72, .inl pt)), (m5, .inl (kA 0, 148, .inl z))]) (hP.sub [0, 1, 2, 3, 4, 5] rfl) (hD.sub [0, 1, 2, 3, 4, 5] (by decide) rfl) 0 (ci := 6) (C := RX6) (T := TX6) (N := 13) rfl rfl rfl hl.1 rfl (Nat.le_of_ble_eq_true rfl) dX6_homedThen_76 ⟨Nat.zero_le _, Nat.zero_le _⟩) hS (aw_sub hD (isC := [0, 1, 2, 3, 4, 5]) rfl) (fun H locs hP1 hk1 hS => ?_)
    obtain ⟨hP, hD⟩ := jn (wr := []) (w1 := [(m0, .inr (6, [.ref m1, .int st, .ref m2, .int len, .ref m3, .int th, .int wo, .ref m4, .int rd, .int nu, .int du, .ref m5, .long hs])), (m1, .inl (kA 0, 148, .inl z)), (m2, .inl (kA 0, 888, .inl h)), (m3, .inl (kA 0, 60, .inl tx)), (m4, .inl (kA 0, 72, .inl pt)), (m5, .inl (kA 0, 148, .inl z))]) hP hD [0, 1, 2, 3, 4, 5] [] rfl rfl (by decide) hk1 hP1 rfl
    have hP : va_P D vwCl [(m0, .inr (6, [.ref m1, .int st, .ref m2, .int len, .ref m3, .int th, .int wo, .ref m4, .int rd, .int nu, .int du, .ref m5, .long hs])), (m1, .inl (kA 0, 148, .inl z)), (m2, .inl (kA 0, 888, .inl h)), (m3, .inl (kA 0, 60, .inl tx)), (m4, .inl (kA 0, 72, .inl pt)), (m5, .inl (kA 0, 148, .inl z))] H := hP
    have hD : va_D (Aw [(m0, .inr (6, [.ref m1, .int st, .ref m2, .int len, .ref m3, .int th, .int wo, .ref m4, .int rd, .int nu, .int du, .ref m5, .long hs])), (m1, .inl (kA 0, 148, .inl z)), (m2, .inl (kA 0, 888, .inl h)), (m3, .inl (kA 0, 60, .inl tx)), (m4, .inl (kA 0, 72, .inl pt)), (m5, .inl (kA 0, 148, .inl kp))]) [(m0, .inr (6, [.ref m1, .int st, .ref m2, .int len, .ref m3, .int th, .int wo, .ref m4, .int rd, .int nu, .int du, .ref m5, .long hs])), (m1, .inl (kA 0, 148, .inl z)), (m2, .inl (kA 0, 888, .inl h)), (m3, .inl (kA 0, 60, .inl tx)), (m4, .inl (kA 0, 72, .inl pt)), (m5, .inl (kA 0, 148, .inl z))] := hD
    refine lv_iload hx hb dX6_homedThen_79 (lv_at hl 0 rfl) ?_
    have hP : va_P D vwCl [(m0, .inr (6, [.ref m1, .int st, .ref m2, .int len, .ref m3, .int th, .int wo, .ref m4, .int rd, .int nu, .int du, .ref m5, .long hs])), (m1, .inl (kA 0, 148, .inl z)), (m2, .inl (kA 0, 888, .inl h)), (m3, .inl (kA 0, 60, .inl tx)), (m4, .inl (kA 0, 72, .inl pt)), (m5, .inl (kA 0, 148, .inl z))] _ := hP.sub [0, 1, 2, 3, 4, 5] rfl
    exact end_fi hx hb hrt hlk hP hS (by rw [htF, if_pos c_1]) (fun h => h) dX6_homedThen_81

theorem hd_X6_ifHomed : yX6_ifHomed.cls ≠ "java/lang/invoke/MethodHandle" ∧ yX6_ifHomed.cls ≠ "java/lang/invoke/VarHandle" ∧ (parseMethodDescriptor yX6_ifHomed.desc).map (fun d => d.parameters.length) = some 2 := by decide +kernel
set_option maxRecDepth 100000 in
set_option maxHeartbeats 4000000 in
theorem m_X6_ifHomed (l : Launch) (D : va_G) (kA : Nat → Nat) (m0 : Nat) (m1 : Nat) (m2 : Nat) (m3 : Nat) (m4 : Nat) (m5 : Nat) (z : Nat → Int32) (h : Nat → Int32) (tx : Nat → Int32) (pt : Nat → Int32) (kp : Nat → Int32) (st : Int32) (len : Int32) (th : Int32) (wo : Int32) (rd : Int32) (nu : Int32) (du : Int32) (hs : Int64) (p0 : Int32) (p1 : Int32) (hI : Inv z) : Met l yX6_ifHomed (Cond.code yX6_ifHomed cX6_ifHomed 3 (some .int) :: AW) ({ frames := 6, cells := 0, slots := 0, locals := 142 } : Room) (Pz [.ref m0, .int p0, .int p1] D (TY kA) [(m0, .inr (6, [.ref m1, .int st, .ref m2, .int len, .ref m3, .int th, .int wo, .ref m4, .int rd, .int nu, .int du, .ref m5, .long hs])), (m1, .inl (kA 0, 148, .inl z)), (m2, .inl (kA 0, 888, .inl h)), (m3, .inl (kA 0, 60, .inl tx)), (m4, .inl (kA 0, 72, .inl pt)), (m5, .inl (kA 0, 148, .inl kp))]) (fQ (some (.int (if ihT p0 p1 = 0 then htF z p0.toNatClampNeg p1 else 0))) D [(m0, .inr (6, [.ref m1, .int st, .ref m2, .int len, .ref m3, .int th, .int wo, .ref m4, .int rd, .int nu, .int du, .ref m5, .long hs])), (m1, .inl (kA 0, 148, .inl z)), (m2, .inl (kA 0, 888, .inl h)), (m3, .inl (kA 0, 60, .inl tx)), (m4, .inl (kA 0, 72, .inl pt)), (m5, .inl (kA 0, 148, .inl kp))] [(m0, .inr (6, [.ref m1, .int st, .ref m2, .int len, .ref m3, .int (ihT p0 p1), .int wo, .ref m4, .int rd, .int nu, .int du, .ref m5, .long hs])), (m1, .inl (kA 0, 148, .inl z)), (m2, .inl (kA 0, 888, .inl h)), (m3, .inl (kA 0, 60, .inl tx)), (m4, .inl (kA 0, 72, .inl pt)), (m5, .inl (kA 0, 148, .inl (if ihT p0 p1 = 0 then z else kp)))]) 0 0 (Aw [(m0, .inr (6, [.ref m1, .int st, .ref m2, .int len, .ref m3, .int th, .int wo, .ref m4, .int rd, .int nu, .int du, .ref m5, .long hs])), (m1, .inl (kA 0, 148, .inl z)), (m2, .inl (kA 0, 888, .inl h)), (m3, .inl (kA 0, 60, .inl tx)), (m4, .inl (kA 0, 72, .inl pt)), (m5, .inl (kA 0, 148, .inl kp))]) := by
  refine MetZ (by decide +kernel) (Nat.le_of_ble_eq_true rfl) ?_
  intro p e s m below meth c ls hx hb hrt hts hown hml hlk hnm hP hK hD hS hl
  have hl : lv_has ls 3 [(0, .ref m0), (1, .int p0), (2, .int p1)] := hl
  refine lv_aload_n hx hb dX6_ifHomed_0 rfl (lv_at hl 0 rfl) ?_
  refine lv_iload_n hx hb dX6_ifHomed_1 rfl (lv_at hl 1 rfl) ?_
  refine cs_p (runS (As := [.int p0]) (rest := [.ref m0]) ⟨hx, hb, hml, hown, hts⟩ (m_X6_isAxis l D kA p0 ) q_830 q_831 q_7 q_832 hd_X6_isAxis ⟨rfl, rfl⟩ ⟨Nat.le_of_ble_eq_true rfl, Nat.le_of_ble_eq_true rfl⟩ hK (ws := []) (hP.sub [] rfl) (hD.sub [] (by decide) rfl) rfl hl.1 rfl (Nat.le_of_ble_eq_true rfl) dX6_ifHomed_2 ⟨Nat.zero_le _, Nat.zero_le _⟩) ?_
  refine lv_if_ne (tgt := 12) hx hb dX6_ifHomed_5 (by decide) (fun c_1 => ?_) (fun c_1 => ?_)
  · skip
    replace c_1 := bI_n0 c_1
    obtain ⟨a, haa, epa, eca⟩ := wi_ex c_1 (N := 3) rfl
    rw [epa] at hl
    have ha : a < 4 := haa
    refine lv_iload_n hx hb dX6_ifHomed_12 rfl (lv_at hl 2 rfl) ?_
    refine lv_iconst (v := 0) hx hb dX6_ifHomed_13 (by decide) ?_
    refine lv_iconst (v := 2) hx hb dX6_ifHomed_14 (by decide) ?_
    refine cs_p (runS (As := [.int p1, .int 0, .int 2]) (rest := [.ref m0]) ⟨hx, hb, hml, hown, hts⟩ (m_X6_within l D kA p1 0 2 ) q_818 q_819 q_7 q_820 hd_X6_within ⟨rfl, rfl⟩ ⟨Nat.le_of_ble_eq_true rfl, Nat.le_of_ble_eq_true rfl⟩ hK (ws := []) (hP.sub [] rfl) (hD.sub [] (by decide) rfl) rfl hl.1 rfl (Nat.le_of_ble_eq_true rfl) dX6_ifHomed_15 ⟨Nat.zero_le _, Nat.zero_le _⟩) ?_
    refine lv_if_eq (tgt := 25) hx hb dX6_ifHomed_18 (by decide) (fun c_2 => ?_) (fun c_2 => ?_)
    · skip
      replace c_2 := bI_0.mp c_2
      refine lv_iconst (v := 2) hx hb dX6_ifHomed_25 (by decide) ?_
      refine va_put (ci := 6) (v := .int 2) (ty := tyX6 5) (C := RX6) (T := TX6) (N := 13) hx hb hts inX6 tyX6 tyX6_ok nmX6 hown hK hP hD hS 0 rfl rfl 5 (by decide) (hts _ q_775) (fun _ h9 => h9) rfl (tyX6_ok 5 (by decide)) rfl rfl (Nat.le_of_ble_eq_true rfl) dX6_ifHomed_26 (fun H locs hP hD hS => ?_)
      have hP : va_P D vwCl [(m0, .inr (6, [.ref m1, .int st, .ref m2, .int len, .ref m3, .int 2, .int wo, .ref m4, .int rd, .int nu, .int du, .ref m5, .long hs])), (m1, .inl (kA 0, 148, .inl z)), (m2, .inl (kA 0, 888, .inl h)), (m3, .inl (kA 0, 60, .inl tx)), (m4, .inl (kA 0, 72, .inl pt)), (m5, .inl (kA 0, 148, .inl kp))] H := hP
      have hD : va_D (Aw [(m0, .inr (6, [.ref m1, .int st, .ref m2, .int len, .ref m3, .int th, .int wo, .ref m4, .int rd, .int nu, .int du, .ref m5, .long hs])), (m1, .inl (kA 0, 148, .inl z)), (m2, .inl (kA 0, 888, .inl h)), (m3, .inl (kA 0, 60, .inl tx)), (m4, .inl (kA 0, 72, .inl pt)), (m5, .inl (kA 0, 148, .inl kp))]) [(m0, .inr (6, [.ref m1, .int st, .ref m2, .int len, .ref m3, .int 2, .int wo, .ref m4, .int rd, .int nu, .int du, .ref m5, .long hs])), (m1, .inl (kA 0, 148, .inl z)), (m2, .inl (kA 0, 888, .inl h)), (m3, .inl (kA 0, 60, .inl tx)), (m4, .inl (kA 0, 72, .inl pt)), (m5, .inl (kA 0, 148, .inl kp))] := hD
      refine lv_aload_n hx hb dX6_ifHomed_29 rfl (lv_at hl 0 rfl) ?_
      refine va_get (ci := 6) (v := .int 2) (C := RX6) (T := TX6) (N := 13) hx hb hts inX6 hown hK hP 0 rfl rfl 5 (by decide) (hts _ q_775) (fun _ h9 => h9) rfl dX6_ifHomed_30 ?_
      refine lv_if_le (tgt := 40) hx hb dX6_ifHomed_33 (by decide) (fun c_3 => ?_) (fun c_3 => ?_)
      · exact absurd c_3 (by decide)
      · skip
        replace c_3 := nge_l c_3
        refine lv_iconst (v := 0) hx hb dX6_ifHomed_36 (by decide) ?_
        refine lv_goto (tgt := 46) hx hb dX6_ifHomed_37 (by decide) ?_
        have hP : va_P D vwCl [(m0, .inr (6, [.ref m1, .int st, .ref m2, .int len, .ref m3, .int 2, .int wo, .ref m4, .int rd, .int nu, .int du, .ref m5, .long hs])), (m1, .inl (kA 0, 148, .inl z)), (m2, .inl (kA 0, 888, .inl h)), (m3, .inl (kA 0, 60, .inl tx)), (m4, .inl (kA 0, 72, .inl pt)), (m5, .inl (kA 0, 148, .inl kp))] _ := hP.sub [0, 1, 2, 3, 4, 5] rfl
        exact end_fi hx hb hrt hlk hP hS (by have hT : ihT p0 p1 = 2 := (by rw [ihT, if_pos c_1, if_neg (by rw [c_2]; decide)]); rw [hT, if_neg (by decide)]) (fun hq => by have hT : ihT p0 p1 = 2 := (by rw [ihT, if_pos c_1, if_neg (by rw [c_2]; decide)]); rw [hT, if_neg (by decide)]; exact hq) dX6_ifHomed_46
    · skip
      replace c_2 := bI_n0 c_2
      refine lv_iconst (v := 0) hx hb dX6_ifHomed_21 (by decide) ?_
      refine lv_goto (tgt := 26) hx hb dX6_ifHomed_22 (by decide) ?_
      refine va_put (ci := 6) (v := .int 0) (ty := tyX6 5) (C := RX6) (T := TX6) (N := 13) hx hb hts inX6 tyX6 tyX6_ok nmX6 hown hK hP hD hS 0 rfl rfl 5 (by decide) (hts _ q_775) (fun _ h9 => h9) rfl (tyX6_ok 5 (by decide)) rfl rfl (Nat.le_of_ble_eq_true rfl) dX6_ifHomed_26 (fun H locs hP hD hS => ?_)
      have hP : va_P D vwCl [(m0, .inr (6, [.ref m1, .int st, .ref m2, .int len, .ref m3, .int 0, .int wo, .ref m4, .int rd, .int nu, .int du, .ref m5, .long hs])), (m1, .inl (kA 0, 148, .inl z)), (m2, .inl (kA 0, 888, .inl h)), (m3, .inl (kA 0, 60, .inl tx)), (m4, .inl (kA 0, 72, .inl pt)), (m5, .inl (kA 0, 148, .inl kp))] H := hP
      have hD : va_D (Aw [(m0, .inr (6, [.ref m1, .int st, .ref m2, .int len, .ref m3, .int th, .int wo, .ref m4, .int rd, .int nu, .int du, .ref m5, .long hs])), (m1, .inl (kA 0, 148, .inl z)), (m2, .inl (kA 0, 888, .inl h)), (m3, .inl (kA 0, 60, .inl tx)), (m4, .inl (kA 0, 72, .inl pt)), (m5, .inl (kA 0, 148, .inl kp))]) [(m0, .inr (6, [.ref m1, .int st, .ref m2, .int len, .ref m3, .int 0, .int wo, .ref m4, .int rd, .int nu, .int du, .ref m5, .long hs])), (m1, .inl (kA 0, 148, .inl z)), (m2, .inl (kA 0, 888, .inl h)), (m3, .inl (kA 0, 60, .inl tx)), (m4, .inl (kA 0, 72, .inl pt)), (m5, .inl (kA 0, 148, .inl kp))] := hD
      refine lv_aload_n hx hb dX6_ifHomed_29 rfl (lv_at hl 0 rfl) ?_
      refine va_get (ci := 6) (v := .int 0) (C := RX6) (T := TX6) (N := 13) hx hb hts inX6 hown hK hP 0 rfl rfl 5 (by decide) (hts _ q_775) (fun _ h9 => h9) rfl dX6_ifHomed_30 ?_
      refine lv_if_le (tgt := 40) hx hb dX6_ifHomed_33 (by decide) (fun c_4 => ?_) (fun c_4 => ?_)
      · skip
        replace c_4 := ge_n c_4
        refine lv_aload_n hx hb dX6_ifHomed_40 rfl (lv_at hl 0 rfl) ?_
        refine lv_iload_n hx hb dX6_ifHomed_41 rfl (lv_at hl 1 rfl) ?_
        refine lv_iload_n hx hb dX6_ifHomed_42 rfl (lv_at hl 2 rfl) ?_
        refine cs_fs (runV (As := [.int (nI a), .int p1]) (rest := []) ⟨hx, hb, hml, hown, hts⟩ (m_X6_homedThen l D kA m0 m1 m2 m3 m4 m5 z h tx pt kp st len 0 wo rd nu du hs a p1 (hI) (ha)) q_1047 q_1049 qp_53 q_7 q_1050 hd_X6_homedThen ⟨rfl, rfl⟩ ⟨Nat.le_of_ble_eq_true rfl, Nat.le_of_ble_eq_true rfl⟩ hK (ws := [(m0, .inr (6, [.ref m1, .int st, .ref m2, .int len, .ref m3, .int 0, .int wo, .ref m4, .int rd, .int nu, .int du, .ref m5, .long hs])), (m1, .inl (kA 0, 148, .inl z)), (m2, .inl (kA 0, 888, .inl h)), (m3, .inl (kA 0, 60, .inl tx)), (m4, .inl (kA 0, 72, .inl pt)), (m5, .inl (kA 0, 148, .inl kp))]) (hP.sub [0, 1, 2, 3, 4, 5] rfl) (hD.sub [0, 1, 2, 3, 4, 5] (by decide) rfl) 0 (ci := 6) (C := RX6) (T := TX6) (N := 13) rfl rfl rfl hl.1 rfl (Nat.le_of_ble_eq_true rfl) dX6_ifHomed_43 ⟨Nat.zero_le _, Nat.zero_le _⟩) hS (aw_sub hD (isC := [0, 1, 2, 3, 4, 5]) rfl) (fun H locs hP1 hk1 hS => ?_)
        obtain ⟨hP, hD⟩ := jn (wr := []) (w1 := [(m0, .inr (6, [.ref m1, .int st, .ref m2, .int len, .ref m3, .int 0, .int wo, .ref m4, .int rd, .int nu, .int du, .ref m5, .long hs])), (m1, .inl (kA 0, 148, .inl z)), (m2, .inl (kA 0, 888, .inl h)), (m3, .inl (kA 0, 60, .inl tx)), (m4, .inl (kA 0, 72, .inl pt)), (m5, .inl (kA 0, 148, .inl z))]) hP hD [0, 1, 2, 3, 4, 5] [] rfl rfl (by decide) hk1 hP1 rfl
        have hP : va_P D vwCl [(m0, .inr (6, [.ref m1, .int st, .ref m2, .int len, .ref m3, .int 0, .int wo, .ref m4, .int rd, .int nu, .int du, .ref m5, .long hs])), (m1, .inl (kA 0, 148, .inl z)), (m2, .inl (kA 0, 888, .inl h)), (m3, .inl (kA 0, 60, .inl tx)), (m4, .inl (kA 0, 72, .inl pt)), (m5, .inl (kA 0, 148, .inl z))] H := hP
        have hD : va_D (Aw [(m0, .inr (6, [.ref m1, .int st, .ref m2, .int len, .ref m3, .int th, .int wo, .ref m4, .int rd, .int nu, .int du, .ref m5, .long hs])), (m1, .inl (kA 0, 148, .inl z)), (m2, .inl (kA 0, 888, .inl h)), (m3, .inl (kA 0, 60, .inl tx)), (m4, .inl (kA 0, 72, .inl pt)), (m5, .inl (kA 0, 148, .inl kp))]) [(m0, .inr (6, [.ref m1, .int st, .ref m2, .int len, .ref m3, .int 0, .int wo, .ref m4, .int rd, .int nu, .int du, .ref m5, .long hs])), (m1, .inl (kA 0, 148, .inl z)), (m2, .inl (kA 0, 888, .inl h)), (m3, .inl (kA 0, 60, .inl tx)), (m4, .inl (kA 0, 72, .inl pt)), (m5, .inl (kA 0, 148, .inl z))] := hD
        have hP : va_P D vwCl [(m0, .inr (6, [.ref m1, .int st, .ref m2, .int len, .ref m3, .int 0, .int wo, .ref m4, .int rd, .int nu, .int du, .ref m5, .long hs])), (m1, .inl (kA 0, 148, .inl z)), (m2, .inl (kA 0, 888, .inl h)), (m3, .inl (kA 0, 60, .inl tx)), (m4, .inl (kA 0, 72, .inl pt)), (m5, .inl (kA 0, 148, .inl z))] _ := hP.sub [0, 1, 2, 3, 4, 5] rfl
        exact end_fi hx hb hrt hlk hP hS (by have hT : ihT p0 p1 = 0 := (by rw [ihT, if_pos c_1, if_pos c_2]); rw [hT, if_pos rfl, eca]) (fun hq => by have hT : ihT p0 p1 = 0 := (by rw [ihT, if_pos c_1, if_pos c_2]); rw [hT, if_pos rfl]; exact hq) dX6_ifHomed_46
      · exact absurd c_4 (by decide)
  · skip
    replace c_1 := bI_0.mp c_1
    refine lv_iconst (v := 1) hx hb dX6_ifHomed_8 (by decide) ?_
    refine lv_goto (tgt := 26) hx hb dX6_ifHomed_9 (by decide) ?_
    refine va_put (ci := 6) (v := .int 1) (ty := tyX6 5) (C := RX6) (T := TX6) (N := 13) hx hb hts inX6 tyX6 tyX6_ok nmX6 hown hK hP hD hS 0 rfl rfl 5 (by decide) (hts _ q_775) (fun _ h9 => h9) rfl (tyX6_ok 5 (by decide)) rfl rfl (Nat.le_of_ble_eq_true rfl) dX6_ifHomed_26 (fun H locs hP hD hS => ?_)
    have hP : va_P D vwCl [(m0, .inr (6, [.ref m1, .int st, .ref m2, .int len, .ref m3, .int 1, .int wo, .ref m4, .int rd, .int nu, .int du, .ref m5, .long hs])), (m1, .inl (kA 0, 148, .inl z)), (m2, .inl (kA 0, 888, .inl h)), (m3, .inl (kA 0, 60, .inl tx)), (m4, .inl (kA 0, 72, .inl pt)), (m5, .inl (kA 0, 148, .inl kp))] H := hP
    have hD : va_D (Aw [(m0, .inr (6, [.ref m1, .int st, .ref m2, .int len, .ref m3, .int th, .int wo, .ref m4, .int rd, .int nu, .int du, .ref m5, .long hs])), (m1, .inl (kA 0, 148, .inl z)), (m2, .inl (kA 0, 888, .inl h)), (m3, .inl (kA 0, 60, .inl tx)), (m4, .inl (kA 0, 72, .inl pt)), (m5, .inl (kA 0, 148, .inl kp))]) [(m0, .inr (6, [.ref m1, .int st, .ref m2, .int len, .ref m3, .int 1, .int wo, .ref m4, .int rd, .int nu, .int du, .ref m5, .long hs])), (m1, .inl (kA 0, 148, .inl z)), (m2, .inl (kA 0, 888, .inl h)), (m3, .inl (kA 0, 60, .inl tx)), (m4, .inl (kA 0, 72, .inl pt)), (m5, .inl (kA 0, 148, .inl kp))] := hD
    refine lv_aload_n hx hb dX6_ifHomed_29 rfl (lv_at hl 0 rfl) ?_
    refine va_get (ci := 6) (v := .int 1) (C := RX6) (T := TX6) (N := 13) hx hb hts inX6 hown hK hP 0 rfl rfl 5 (by decide) (hts _ q_775) (fun _ h9 => h9) rfl dX6_ifHomed_30 ?_
    refine lv_if_le (tgt := 40) hx hb dX6_ifHomed_33 (by decide) (fun c_5 => ?_) (fun c_5 => ?_)
    · exact absurd c_5 (by decide)
    · skip
      replace c_5 := nge_l c_5
      refine lv_iconst (v := 0) hx hb dX6_ifHomed_36 (by decide) ?_
      refine lv_goto (tgt := 46) hx hb dX6_ifHomed_37 (by decide) ?_
      have hP : va_P D vwCl [(m0, .inr (6, [.ref m1, .int st, .ref m2, .int len, .ref m3, .int 1, .int wo, .ref m4, .int rd, .int nu, .int du, .ref m5, .long hs])), (m1, .inl (kA 0, 148, .inl z)), (m2, .inl (kA 0, 888, .inl h)), (m3, .inl (kA 0, 60, .inl tx)), (m4, .inl (kA 0, 72, .inl pt)), (m5, .inl (kA 0, 148, .inl kp))] _ := hP.sub [0, 1, 2, 3, 4, 5] rfl
      exact end_fi hx hb hrt hlk hP hS (by have hT : ihT p0 p1 = 1 := (by rw [ihT, if_neg (by rw [c_1]; decide)]); rw [hT, if_neg (by decide)]) (fun hq => by have hT : ihT p0 p1 = 1 := (by rw [ihT, if_neg (by rw [c_1]; decide)]); rw [hT, if_neg (by decide)]; exact hq) dX6_ifHomed_46

theorem hd_X6_reachNow : yX6_reachNow.cls ≠ "java/lang/invoke/MethodHandle" ∧ yX6_reachNow.cls ≠ "java/lang/invoke/VarHandle" ∧ (parseMethodDescriptor yX6_reachNow.desc).map (fun d => d.parameters.length) = some 2 := by decide +kernel
set_option maxRecDepth 100000 in
set_option maxHeartbeats 4000000 in
theorem m_X6_reachNow (l : Launch) (D : va_G) (kA : Nat → Nat) (m0 : Nat) (m1 : Nat) (m2 : Nat) (m3 : Nat) (m4 : Nat) (m5 : Nat) (z : Nat → Int32) (h : Nat → Int32) (tx : Nat → Int32) (pt : Nat → Int32) (kp : Nat → Int32) (st : Int32) (len : Int32) (th : Int32) (wo : Int32) (rd : Int32) (nu : Int32) (du : Int32) (hs : Int64) (a : Nat) (up : Bool) (hI : Inv z) (ha : a < 4) : Met l yX6_reachNow (Cond.code yX6_reachNow cX6_reachNow 4 (some .int) :: AW) ({ frames := 5, cells := 0, slots := 0, locals := 118 } : Room) (Pz [.ref m0, .int (nI a), .int (bI up)] D (TY kA) [(m0, .inr (6, [.ref m1, .int st, .ref m2, .int len, .ref m3, .int th, .int wo, .ref m4, .int rd, .int nu, .int du, .ref m5, .long hs])), (m1, .inl (kA 0, 148, .inl z)), (m2, .inl (kA 0, 888, .inl h)), (m3, .inl (kA 0, 60, .inl tx)), (m4, .inl (kA 0, 72, .inl pt)), (m5, .inl (kA 0, 148, .inl kp))]) (fQ (some (.int ((msL a (wI up) 100 z 0).1))) D [(m0, .inr (6, [.ref m1, .int st, .ref m2, .int len, .ref m3, .int th, .int wo, .ref m4, .int rd, .int nu, .int du, .ref m5, .long hs])), (m1, .inl (kA 0, 148, .inl z)), (m2, .inl (kA 0, 888, .inl h)), (m3, .inl (kA 0, 60, .inl tx)), (m4, .inl (kA 0, 72, .inl pt)), (m5, .inl (kA 0, 148, .inl kp))] [(m0, .inr (6, [.ref m1, .int st, .ref m2, .int len, .ref m3, .int th, .int wo, .ref m4, .int rd, .int nu, .int du, .ref m5, .long hs])), (m1, .inl (kA 0, 148, .inl z)), (m2, .inl (kA 0, 888, .inl h)), (m3, .inl (kA 0, 60, .inl tx)), (m4, .inl (kA 0, 72, .inl pt)), (m5, .inl (kA 0, 148, .inl z))]) 0 0 (Aw [(m0, .inr (6, [.ref m1, .int st, .ref m2, .int len, .ref m3, .int th, .int wo, .ref m4, .int rd, .int nu, .int du, .ref m5, .long hs])), (m1, .inl (kA 0, 148, .inl z)), (m2, .inl (kA 0, 888, .inl h)), (m3, .inl (kA 0, 60, .inl tx)), (m4, .inl (kA 0, 72, .inl pt)), (m5, .inl (kA 0, 148, .inl kp))]) := by
  refine MetZ (by decide +kernel) (Nat.le_of_ble_eq_true rfl) ?_
  intro p e s m below meth c ls hx hb hrt hts hown hml hlk hnm hP hK hD hS hl
  have hl : lv_has ls 4 [(0, .ref m0), (1, .int (nI a)), (2, .int (bI up))] := hl
  refine lv_aload_n hx hb dX6_reachNow_0 rfl (lv_at hl 0 rfl) ?_
  refine cs_fn (runV (As := []) (rest := []) ⟨hx, hb, hml, hown, hts⟩ (m_X6_keep l D kA m0 m1 m2 m3 m4 m5 z h tx pt kp st len th wo rd nu du hs ) q_1051 q_1053 qp_54 q_7 q_1054 hd_X6_keep ⟨rfl, rfl⟩ ⟨Nat.le_of_ble_eq_true rfl, Nat.le_of_ble_eq_true rfl⟩ hK (ws := [(m0, .inr (6, [.ref m1, .int st, .ref m2, .int len, .ref m3, .int th, .int wo, .ref m4, .int rd, .int nu, .int du, .ref m5, .long hs])), (m1, .inl (kA 0, 148, .inl z)), (m2, .inl (kA 0, 888, .inl h)), (m3, .inl (kA 0, 60, .inl tx)), (m4, .inl (kA 0, 72, .inl pt)), (m5, .inl (kA 0, 148, .inl kp))]) (hP.sub [0, 1, 2, 3, 4, 5] rfl) (hD.sub [0, 1, 2, 3, 4, 5] (by decide) rfl) 0 (ci := 6) (C := RX6) (T := TX6) (N := 13) rfl rfl rfl hl.1 rfl (Nat.le_of_ble_eq_true rfl) dX6_reachNow_1 ⟨Nat.zero_le _, Nat.zero_le _⟩) hS (aw_sub hD (isC := [0, 1, 2, 3, 4, 5]) rfl) (fun H locs hP1 hk1 hS => ?_)
  obtain ⟨hP, hD⟩ := jn (wr := []) (w1 := [(m0, .inr (6, [.ref m1, .int st, .ref m2, .int len, .ref m3, .int th, .int wo, .ref m4, .int rd, .int nu, .int du, .ref m5, .long hs])), (m1, .inl (kA 0, 148, .inl z)), (m2, .inl (kA 0, 888, .inl h)), (m3, .inl (kA 0, 60, .inl tx)), (m4, .inl (kA 0, 72, .inl pt)), (m5, .inl (kA 0, 148, .inl z))]) hP hD [0, 1, 2, 3, 4, 5] [] rfl rfl (by decide) hk1 hP1 rfl
  have hP : va_P D vwCl [(m0, .inr (6, [.ref m1, .int st, .ref m2, .int len, .ref m3, .int th, .int wo, .ref m4, .int rd, .int nu, .int du, .ref m5, .long hs])), (m1, .inl (kA 0, 148, .inl z)), (m2, .inl (kA 0, 888, .inl h)), (m3, .inl (kA 0, 60, .inl tx)), (m4, .inl (kA 0, 72, .inl pt)), (m5, .inl (kA 0, 148, .inl z))] H := hP
  have hD : va_D (Aw [(m0, .inr (6, [.ref m1, .int st, .ref m2, .int len, .ref m3, .int th, .int wo, .ref m4, .int rd, .int nu, .int du, .ref m5, .long hs])), (m1, .inl (kA 0, 148, .inl z)), (m2, .inl (kA 0, 888, .inl h)), (m3, .inl (kA 0, 60, .inl tx)), (m4, .inl (kA 0, 72, .inl pt)), (m5, .inl (kA 0, 148, .inl kp))]) [(m0, .inr (6, [.ref m1, .int st, .ref m2, .int len, .ref m3, .int th, .int wo, .ref m4, .int rd, .int nu, .int du, .ref m5, .long hs])), (m1, .inl (kA 0, 148, .inl z)), (m2, .inl (kA 0, 888, .inl h)), (m3, .inl (kA 0, 60, .inl tx)), (m4, .inl (kA 0, 72, .inl pt)), (m5, .inl (kA 0, 148, .inl z))] := hD
  refine lv_aload_n hx hb dX6_reachNow_4 rfl (lv_at hl 0 rfl) ?_
  refine lv_iload_n hx hb dX6_reachNow_5 rfl (lv_at hl 1 rfl) ?_
  refine lv_iload_n hx hb dX6_reachNow_6 rfl (lv_at hl 2 rfl) ?_
  refine lv_bipush (v := 100) hx hb dX6_reachNow_7 (by decide) ?_
  refine cs_fs (runV (As := [.int (nI a), .int (bI up), .int 100]) (rest := []) ⟨hx, hb, hml, hown, hts⟩ (m_X6_makeSteps l D kA m0 m1 m2 m3 m4 m5 z h tx pt z st len th wo rd nu du hs a up 100 100 (hI) (ha) (rfl) (by omega)) q_874 q_876 qp_29 q_7 q_877 hd_X6_makeSteps ⟨rfl, rfl⟩ ⟨Nat.le_of_ble_eq_true rfl, Nat.le_of_ble_eq_true rfl⟩ hK (ws := [(m0, .inr (6, [.ref m1, .int st, .ref m2, .int len, .ref m3, .int th, .int wo, .ref m4, .int rd, .int nu, .int du, .ref m5, .long hs])), (m1, .inl (kA 0, 148, .inl z)), (m2, .inl (kA 0, 888, .inl h)), (m3, .inl (kA 0, 60, .inl tx)), (m4, .inl (kA 0, 72, .inl pt)), (m5, .inl (kA 0, 148, .inl z))]) (hP.sub [0, 1, 2, 3, 4, 5] rfl) (hD.sub [0, 1, 2, 3, 4, 5] (by decide) rfl) 0 (ci := 6) (C := RX6) (T := TX6) (N := 13) rfl rfl rfl hl.1 rfl (Nat.le_of_ble_eq_true rfl) dX6_reachNow_9 ⟨Nat.zero_le _, Nat.zero_le _⟩) hS (aw_sub hD (isC := [0, 1, 2, 3, 4, 5]) rfl) (fun H locs hP1 hk1 hS => ?_)
  obtain ⟨hP, hD⟩ := jn (wr := []) (w1 := [(m0, .inr (6, [.ref m1, .int st, .ref m2, .int len, .ref m3, .int th, .int wo, .ref m4, .int rd, .int nu, .int du, .ref m5, .long hs])), (m1, .inl (kA 0, 148, .inl ((msL a (wI up) 100 z 0).2))), (m2, .inl (kA 0, 888, .inl h)), (m3, .inl (kA 0, 60, .inl tx)), (m4, .inl (kA 0, 72, .inl pt)), (m5, .inl (kA 0, 148, .inl z))]) hP hD [0, 1, 2, 3, 4, 5] [] rfl rfl (by decide) hk1 hP1 rfl
  have hP : va_P D vwCl [(m0, .inr (6, [.ref m1, .int st, .ref m2, .int len, .ref m3, .int th, .int wo, .ref m4, .int rd, .int nu, .int du, .ref m5, .long hs])), (m1, .inl (kA 0, 148, .inl ((msL a (wI up) 100 z 0).2))), (m2, .inl (kA 0, 888, .inl h)), (m3, .inl (kA 0, 60, .inl tx)), (m4, .inl (kA 0, 72, .inl pt)), (m5, .inl (kA 0, 148, .inl z))] H := hP
  have hD : va_D (Aw [(m0, .inr (6, [.ref m1, .int st, .ref m2, .int len, .ref m3, .int th, .int wo, .ref m4, .int rd, .int nu, .int du, .ref m5, .long hs])), (m1, .inl (kA 0, 148, .inl z)), (m2, .inl (kA 0, 888, .inl h)), (m3, .inl (kA 0, 60, .inl tx)), (m4, .inl (kA 0, 72, .inl pt)), (m5, .inl (kA 0, 148, .inl kp))]) [(m0, .inr (6, [.ref m1, .int st, .ref m2, .int len, .ref m3, .int th, .int wo, .ref m4, .int rd, .int nu, .int du, .ref m5, .long hs])), (m1, .inl (kA 0, 148, .inl ((msL a (wI up) 100 z 0).2))), (m2, .inl (kA 0, 888, .inl h)), (m3, .inl (kA 0, 60, .inl tx)), (m4, .inl (kA 0, 72, .inl pt)), (m5, .inl (kA 0, 148, .inl z))] := hD
  refine lv_istore_n (lv' := [(3, .int ((msL a (wI up) 100 z 0).1)), (0, .ref m0), (1, .int (nI a)), (2, .int (bI up))]) hx hb dX6_reachNow_12 rfl hl (by decide) rfl (fun ls hl => ?_)
  refine lv_aload_n hx hb dX6_reachNow_13 rfl (lv_at hl 1 rfl) ?_
  refine cs_fn (runV (As := []) (rest := []) ⟨hx, hb, hml, hown, hts⟩ (m_X6_layBack l D kA m0 m1 m2 m3 m4 m5 ((msL a (wI up) 100 z 0).2) h tx pt z st len th wo rd nu du hs ) q_1055 q_1057 qp_55 q_7 q_1058 hd_X6_layBack ⟨rfl, rfl⟩ ⟨Nat.le_of_ble_eq_true rfl, Nat.le_of_ble_eq_true rfl⟩ hK (ws := [(m0, .inr (6, [.ref m1, .int st, .ref m2, .int len, .ref m3, .int th, .int wo, .ref m4, .int rd, .int nu, .int du, .ref m5, .long hs])), (m1, .inl (kA 0, 148, .inl ((msL a (wI up) 100 z 0).2))), (m2, .inl (kA 0, 888, .inl h)), (m3, .inl (kA 0, 60, .inl tx)), (m4, .inl (kA 0, 72, .inl pt)), (m5, .inl (kA 0, 148, .inl z))]) (hP.sub [0, 1, 2, 3, 4, 5] rfl) (hD.sub [0, 1, 2, 3, 4, 5] (by decide) rfl) 0 (ci := 6) (C := RX6) (T := TX6) (N := 13) rfl rfl rfl hl.1 rfl (Nat.le_of_ble_eq_true rfl) dX6_reachNow_14 ⟨Nat.zero_le _, Nat.zero_le _⟩) hS (aw_sub hD (isC := [0, 1, 2, 3, 4, 5]) rfl) (fun H locs hP1 hk1 hS => ?_)
  obtain ⟨hP, hD⟩ := jn (wr := []) (w1 := [(m0, .inr (6, [.ref m1, .int st, .ref m2, .int len, .ref m3, .int th, .int wo, .ref m4, .int rd, .int nu, .int du, .ref m5, .long hs])), (m1, .inl (kA 0, 148, .inl z)), (m2, .inl (kA 0, 888, .inl h)), (m3, .inl (kA 0, 60, .inl tx)), (m4, .inl (kA 0, 72, .inl pt)), (m5, .inl (kA 0, 148, .inl z))]) hP hD [0, 1, 2, 3, 4, 5] [] rfl rfl (by decide) hk1 hP1 rfl
  have hP : va_P D vwCl [(m0, .inr (6, [.ref m1, .int st, .ref m2, .int len, .ref m3, .int th, .int wo, .ref m4, .int rd, .int nu, .int du, .ref m5, .long hs])), (m1, .inl (kA 0, 148, .inl z)), (m2, .inl (kA 0, 888, .inl h)), (m3, .inl (kA 0, 60, .inl tx)), (m4, .inl (kA 0, 72, .inl pt)), (m5, .inl (kA 0, 148, .inl z))] H := hP
  have hD : va_D (Aw [(m0, .inr (6, [.ref m1, .int st, .ref m2, .int len, .ref m3, .int th, .int wo, .ref m4, .int rd, .int nu, .int du, .ref m5, .long hs])), (m1, .inl (kA 0, 148, .inl z)), (m2, .inl (kA 0, 888, .inl h)), (m3, .inl (kA 0, 60, .inl tx)), (m4, .inl (kA 0, 72, .inl pt)), (m5, .inl (kA 0, 148, .inl kp))]) [(m0, .inr (6, [.ref m1, .int st, .ref m2, .int len, .ref m3, .int th, .int wo, .ref m4, .int rd, .int nu, .int du, .ref m5, .long hs])), (m1, .inl (kA 0, 148, .inl z)), (m2, .inl (kA 0, 888, .inl h)), (m3, .inl (kA 0, 60, .inl tx)), (m4, .inl (kA 0, 72, .inl pt)), (m5, .inl (kA 0, 148, .inl z))] := hD
  refine lv_iload_n hx hb dX6_reachNow_17 rfl (lv_at hl 0 rfl) ?_
  have hP : va_P D vwCl [(m0, .inr (6, [.ref m1, .int st, .ref m2, .int len, .ref m3, .int th, .int wo, .ref m4, .int rd, .int nu, .int du, .ref m5, .long hs])), (m1, .inl (kA 0, 148, .inl z)), (m2, .inl (kA 0, 888, .inl h)), (m3, .inl (kA 0, 60, .inl tx)), (m4, .inl (kA 0, 72, .inl pt)), (m5, .inl (kA 0, 148, .inl z))] _ := hP.sub [0, 1, 2, 3, 4, 5] rfl
  exact end_fi hx hb hrt hlk hP hS (by first | rfl | (simp only [↓reduceIte, bI]; done) | (simp only [↓reduceIte, bI]; rfl) | (simp [bI]; done)) (fun h => h) dX6_reachNow_18

theorem hd_X6_reach : yX6_reach.cls ≠ "java/lang/invoke/MethodHandle" ∧ yX6_reach.cls ≠ "java/lang/invoke/VarHandle" ∧ (parseMethodDescriptor yX6_reach.desc).map (fun d => d.parameters.length) = some 2 := by decide +kernel
set_option maxRecDepth 100000 in
set_option maxHeartbeats 4000000 in
theorem m_X6_reach (l : Launch) (D : va_G) (kA : Nat → Nat) (m0 : Nat) (m1 : Nat) (m2 : Nat) (m3 : Nat) (m4 : Nat) (m5 : Nat) (z : Nat → Int32) (h : Nat → Int32) (tx : Nat → Int32) (pt : Nat → Int32) (kp : Nat → Int32) (st : Int32) (len : Int32) (th : Int32) (wo : Int32) (rd : Int32) (nu : Int32) (du : Int32) (hs : Int64) (p0 : Int32) (up : Bool) (hI : Inv z) : Met l yX6_reach (Cond.code yX6_reach cX6_reach 3 (some .int) :: AW) ({ frames := 6, cells := 0, slots := 0, locals := 141 } : Room) (Pz [.ref m0, .int p0, .int (bI up)] D (TY kA) [(m0, .inr (6, [.ref m1, .int st, .ref m2, .int len, .ref m3, .int th, .int wo, .ref m4, .int rd, .int nu, .int du, .ref m5, .long hs])), (m1, .inl (kA 0, 148, .inl z)), (m2, .inl (kA 0, 888, .inl h)), (m3, .inl (kA 0, 60, .inl tx)), (m4, .inl (kA 0, 72, .inl pt)), (m5, .inl (kA 0, 148, .inl kp))]) (fQ (some (.int (if axT p0 = 0 then (msL p0.toNatClampNeg (wI up) 100 z 0).1 else 0))) D [(m0, .inr (6, [.ref m1, .int st, .ref m2, .int len, .ref m3, .int th, .int wo, .ref m4, .int rd, .int nu, .int du, .ref m5, .long hs])), (m1, .inl (kA 0, 148, .inl z)), (m2, .inl (kA 0, 888, .inl h)), (m3, .inl (kA 0, 60, .inl tx)), (m4, .inl (kA 0, 72, .inl pt)), (m5, .inl (kA 0, 148, .inl kp))] [(m0, .inr (6, [.ref m1, .int st, .ref m2, .int len, .ref m3, .int (axT p0), .int wo, .ref m4, .int rd, .int nu, .int du, .ref m5, .long hs])), (m1, .inl (kA 0, 148, .inl z)), (m2, .inl (kA 0, 888, .inl h)), (m3, .inl (kA 0, 60, .inl tx)), (m4, .inl (kA 0, 72, .inl pt)), (m5, .inl (kA 0, 148, .inl (if axT p0 = 0 then z else kp)))]) 0 0 (Aw [(m0, .inr (6, [.ref m1, .int st, .ref m2, .int len, .ref m3, .int th, .int wo, .ref m4, .int rd, .int nu, .int du, .ref m5, .long hs])), (m1, .inl (kA 0, 148, .inl z)), (m2, .inl (kA 0, 888, .inl h)), (m3, .inl (kA 0, 60, .inl tx)), (m4, .inl (kA 0, 72, .inl pt)), (m5, .inl (kA 0, 148, .inl kp))]) := by
  refine MetZ (by decide +kernel) (Nat.le_of_ble_eq_true rfl) ?_
  intro p e s m below meth c ls hx hb hrt hts hown hml hlk hnm hP hK hD hS hl
  have hl : lv_has ls 3 [(0, .ref m0), (1, .int p0), (2, .int (bI up))] := hl
  refine lv_aload_n hx hb dX6_reach_0 rfl (lv_at hl 0 rfl) ?_
  refine lv_iload_n hx hb dX6_reach_1 rfl (lv_at hl 1 rfl) ?_
  refine cs_p (runS (As := [.int p0]) (rest := [.ref m0]) ⟨hx, hb, hml, hown, hts⟩ (m_X6_isAxis l D kA p0 ) q_830 q_831 q_7 q_832 hd_X6_isAxis ⟨rfl, rfl⟩ ⟨Nat.le_of_ble_eq_true rfl, Nat.le_of_ble_eq_true rfl⟩ hK (ws := []) (hP.sub [] rfl) (hD.sub [] (by decide) rfl) rfl hl.1 rfl (Nat.le_of_ble_eq_true rfl) dX6_reach_2 ⟨Nat.zero_le _, Nat.zero_le _⟩) ?_
  refine lv_if_eq (tgt := 12) hx hb dX6_reach_5 (by decide) (fun c_1 => ?_) (fun c_1 => ?_)
  · skip
    replace c_1 := bI_0.mp c_1
    refine lv_iconst (v := 1) hx hb dX6_reach_12 (by decide) ?_
    refine va_put (ci := 6) (v := .int 1) (ty := tyX6 5) (C := RX6) (T := TX6) (N := 13) hx hb hts inX6 tyX6 tyX6_ok nmX6 hown hK hP hD hS 0 rfl rfl 5 (by decide) (hts _ q_775) (fun _ h9 => h9) rfl (tyX6_ok 5 (by decide)) rfl rfl (Nat.le_of_ble_eq_true rfl) dX6_reach_13 (fun H locs hP hD hS => ?_)
    have hP : va_P D vwCl [(m0, .inr (6, [.ref m1, .int st, .ref m2, .int len, .ref m3, .int 1, .int wo, .ref m4, .int rd, .int nu, .int du, .ref m5, .long hs])), (m1, .inl (kA 0, 148, .inl z)), (m2, .inl (kA 0, 888, .inl h)), (m3, .inl (kA 0, 60, .inl tx)), (m4, .inl (kA 0, 72, .inl pt)), (m5, .inl (kA 0, 148, .inl kp))] H := hP
    have hD : va_D (Aw [(m0, .inr (6, [.ref m1, .int st, .ref m2, .int len, .ref m3, .int th, .int wo, .ref m4, .int rd, .int nu, .int du, .ref m5, .long hs])), (m1, .inl (kA 0, 148, .inl z)), (m2, .inl (kA 0, 888, .inl h)), (m3, .inl (kA 0, 60, .inl tx)), (m4, .inl (kA 0, 72, .inl pt)), (m5, .inl (kA 0, 148, .inl kp))]) [(m0, .inr (6, [.ref m1, .int st, .ref m2, .int len, .ref m3, .int 1, .int wo, .ref m4, .int rd, .int nu, .int du, .ref m5, .long hs])), (m1, .inl (kA 0, 148, .inl z)), (m2, .inl (kA 0, 888, .inl h)), (m3, .inl (kA 0, 60, .inl tx)), (m4, .inl (kA 0, 72, .inl pt)), (m5, .inl (kA 0, 148, .inl kp))] := hD
    refine lv_aload_n hx hb dX6_reach_16 rfl (lv_at hl 0 rfl) ?_
    refine va_get (ci := 6) (v := .int 1) (C := RX6) (T := TX6) (N := 13) hx hb hts inX6 hown hK hP 0 rfl rfl 5 (by decide) (hts _ q_775) (fun _ h9 => h9) rfl dX6_reach_17 ?_
    refine lv_if_le (tgt := 27) hx hb dX6_reach_20 (by decide) (fun c_2 => ?_) (fun c_2 => ?_)
    · exact absurd c_2 (by decide)
    · skip
      replace c_2 := nge_l c_2
      refine lv_iconst (v := 0) hx hb dX6_reach_23 (by decide) ?_
      refine lv_goto (tgt := 33) hx hb dX6_reach_24 (by decide) ?_
      have hP : va_P D vwCl [(m0, .inr (6, [.ref m1, .int st, .ref m2, .int len, .ref m3, .int 1, .int wo, .ref m4, .int rd, .int nu, .int du, .ref m5, .long hs])), (m1, .inl (kA 0, 148, .inl z)), (m2, .inl (kA 0, 888, .inl h)), (m3, .inl (kA 0, 60, .inl tx)), (m4, .inl (kA 0, 72, .inl pt)), (m5, .inl (kA 0, 148, .inl kp))] _ := hP.sub [0, 1, 2, 3, 4, 5] rfl
      exact end_fi hx hb hrt hlk hP hS (by have hT : axT p0 = 1 := (by rw [axT, if_neg (by rw [c_1]; decide)]); rw [hT, if_neg (by decide)]) (fun hq => by have hT : axT p0 = 1 := (by rw [axT, if_neg (by rw [c_1]; decide)]); rw [hT, if_neg (by decide)]; exact hq) dX6_reach_33
  · skip
    replace c_1 := bI_n0 c_1
    obtain ⟨a, haa, epa, eca⟩ := wi_ex c_1 (N := 3) rfl
    rw [epa] at hl
    have ha : a < 4 := haa
    refine lv_iconst (v := 0) hx hb dX6_reach_8 (by decide) ?_
    refine lv_goto (tgt := 13) hx hb dX6_reach_9 (by decide) ?_
    refine va_put (ci := 6) (v := .int 0) (ty := tyX6 5) (C := RX6) (T := TX6) (N := 13) hx hb hts inX6 tyX6 tyX6_ok nmX6 hown hK hP hD hS 0 rfl rfl 5 (by decide) (hts _ q_775) (fun _ h9 => h9) rfl (tyX6_ok 5 (by decide)) rfl rfl (Nat.le_of_ble_eq_true rfl) dX6_reach_13 (fun H locs hP hD hS => ?_)
    have hP : va_P D vwCl [(m0, .inr (6, [.ref m1, .int st, .ref m2, .int len, .ref m3, .int 0, .int wo, .ref m4, .int rd, .int nu, .int du, .ref m5, .long hs])), (m1, .inl (kA 0, 148, .inl z)), (m2, .inl (kA 0, 888, .inl h)), (m3, .inl (kA 0, 60, .inl tx)), (m4, .inl (kA 0, 72, .inl pt)), (m5, .inl (kA 0, 148, .inl kp))] H := hP
    have hD : va_D (Aw [(m0, .inr (6, [.ref m1, .int st, .ref m2, .int len, .ref m3, .int th, .int wo, .ref m4, .int rd, .int nu, .int du, .ref m5, .long hs])), (m1, .inl (kA 0, 148, .inl z)), (m2, .inl (kA 0, 888, .inl h)), (m3, .inl (kA 0, 60, .inl tx)), (m4, .inl (kA 0, 72, .inl pt)), (m5, .inl (kA 0, 148, .inl kp))]) [(m0, .inr (6, [.ref m1, .int st, .ref m2, .int len, .ref m3, .int 0, .int wo, .ref m4, .int rd, .int nu, .int du, .ref m5, .long hs])), (m1, .inl (kA 0, 148, .inl z)), (m2, .inl (kA 0, 888, .inl h)), (m3, .inl (kA 0, 60, .inl tx)), (m4, .inl (kA 0, 72, .inl pt)), (m5, .inl (kA 0, 148, .inl kp))] := hD
    refine lv_aload_n hx hb dX6_reach_16 rfl (lv_at hl 0 rfl) ?_
    refine va_get (ci := 6) (v := .int 0) (C := RX6) (T := TX6) (N := 13) hx hb hts inX6 hown hK hP 0 rfl rfl 5 (by decide) (hts _ q_775) (fun _ h9 => h9) rfl dX6_reach_17 ?_
    refine lv_if_le (tgt := 27) hx hb dX6_reach_20 (by decide) (fun c_3 => ?_) (fun c_3 => ?_)
    · skip
      replace c_3 := ge_n c_3
      refine lv_aload_n hx hb dX6_reach_27 rfl (lv_at hl 0 rfl) ?_
      refine lv_iload_n hx hb dX6_reach_28 rfl (lv_at hl 1 rfl) ?_
      refine lv_iload_n hx hb dX6_reach_29 rfl (lv_at hl 2 rfl) ?_
      refine cs_fs (runV (As := [.int (nI a), .int (bI up)]) (rest := []) ⟨hx, hb, hml, hown, hts⟩ (m_X6_reachNow l D kA m0 m1 m2 m3 m4 m5 z h tx pt kp st len 0 wo rd nu du hs a up (hI) (ha)) q_1063 q_1065 qp_56 q_7 q_1066 hd_X6_reachNow ⟨rfl, rfl⟩ ⟨Nat.le_of_ble_eq_true rfl, Nat.le_of_ble_eq_true rfl⟩ hK (ws := [(m0, .inr (6, [.ref m1, .int st, .ref m2, .int len, .ref m3, .int 0, .int wo, .ref m4, .int rd, .int nu, .int du, .ref m5, .long hs])), (m1, .inl (kA 0, 148, .inl z)), (m2, .inl (kA 0, 888, .inl h)), (m3, .inl (kA 0, 60, .inl tx)), (m4, .inl (kA 0, 72, .inl pt)), (m5, .inl (kA 0, 148, .inl kp))]) (hP.sub [0, 1, 2, 3, 4, 5] rfl) (hD.sub [0, 1, 2, 3, 4, 5] (by decide) rfl) 0 (ci := 6) (C := RX6) (T := TX6) (N := 13) rfl rfl rfl hl.1 rfl (Nat.le_of_ble_eq_true rfl) dX6_reach_30 ⟨Nat.zero_le _, Nat.zero_le _⟩) hS (aw_sub hD (isC := [0, 1, 2, 3, 4, 5]) rfl) (fun H locs hP1 hk1 hS => ?_)
      obtain ⟨hP, hD⟩ := jn (wr := []) (w1 := [(m0, .inr (6, [.ref m1, .int st, .ref m2, .int len, .ref m3, .int 0, .int wo, .ref m4, .int rd, .int nu, .int du, .ref m5, .long hs])), (m1, .inl (kA 0, 148, .inl z)), (m2, .inl (kA 0, 888, .inl h)), (m3, .inl (kA 0, 60, .inl tx)), (m4, .inl (kA 0, 72, .inl pt)), (m5, .inl (kA 0, 148, .inl z))]) hP hD [0, 1, 2, 3, 4, 5] [] rfl rfl (by decide) hk1 hP1 rfl
      have hP : va_P D vwCl [(m0, .inr (6, [.ref m1, .int st, .ref m2, .int len, .ref m3, .int 0, .int wo, .ref m4, .int rd, .int nu, .int du, .ref m5, .long hs])), (m1, .inl (kA 0, 148, .inl z)), (m2, .inl (kA 0, 888, .inl h)), (m3, .inl (kA 0, 60, .inl tx)), (m4, .inl (kA 0, 72, .inl pt)), (m5, .inl (kA 0, 148, .inl z))] H := hP
      have hD : va_D (Aw [(m0, .inr (6, [.ref m1, .int st, .ref m2, .int len, .ref m3, .int th, .int wo, .ref m4, .int rd, .int nu, .int du, .ref m5, .long hs])), (m1, .inl (kA 0, 148, .inl z)), (m2, .inl (kA 0, 888, .inl h)), (m3, .inl (kA 0, 60, .inl tx)), (m4, .inl (kA 0, 72, .inl pt)), (m5, .inl (kA 0, 148, .inl kp))]) [(m0, .inr (6, [.ref m1, .int st, .ref m2, .int len, .ref m3, .int 0, .int wo, .ref m4, .int rd, .int nu, .int du, .ref m5, .long hs])), (m1, .inl (kA 0, 148, .inl z)), (m2, .inl (kA 0, 888, .inl h)), (m3, .inl (kA 0, 60, .inl tx)), (m4, .inl (kA 0, 72, .inl pt)), (m5, .inl (kA 0, 148, .inl z))] := hD
      have hP : va_P D vwCl [(m0, .inr (6, [.ref m1, .int st, .ref m2, .int len, .ref m3, .int 0, .int wo, .ref m4, .int rd, .int nu, .int du, .ref m5, .long hs])), (m1, .inl (kA 0, 148, .inl z)), (m2, .inl (kA 0, 888, .inl h)), (m3, .inl (kA 0, 60, .inl tx)), (m4, .inl (kA 0, 72, .inl pt)), (m5, .inl (kA 0, 148, .inl z))] _ := hP.sub [0, 1, 2, 3, 4, 5] rfl
      exact end_fi hx hb hrt hlk hP hS (by have hT : axT p0 = 0 := (by rw [axT, if_pos c_1]); rw [hT, if_pos rfl, eca]) (fun hq => by have hT : axT p0 = 0 := (by rw [axT, if_pos c_1]); rw [hT, if_pos rfl]; exact hq) dX6_reach_33
    · exact absurd c_3 (by decide)

theorem hd_X6_couldBeNow : yX6_couldBeNow.cls ≠ "java/lang/invoke/MethodHandle" ∧ yX6_couldBeNow.cls ≠ "java/lang/invoke/VarHandle" ∧ (parseMethodDescriptor yX6_couldBeNow.desc).map (fun d => d.parameters.length) = some 1 := by decide +kernel
set_option maxRecDepth 100000 in
set_option maxHeartbeats 4000000 in
theorem m_X6_couldBeNow (l : Launch) (D : va_G) (kA : Nat → Nat) (m0 : Nat) (m1 : Nat) (m2 : Nat) (m3 : Nat) (m4 : Nat) (m5 : Nat) (z : Nat → Int32) (h : Nat → Int32) (tx : Nat → Int32) (pt : Nat → Int32) (kp : Nat → Int32) (st : Int32) (len : Int32) (th : Int32) (wo : Int32) (rd : Int32) (nu : Int32) (du : Int32) (hs : Int64) (a : Nat) (hI : Inv z) (ha : a < 4) : Met l yX6_couldBeNow (Cond.code yX6_couldBeNow cX6_couldBeNow 4 (some .int) :: AW) ({ frames := 1, cells := 0, slots := 0, locals := 22 } : Room) (Pz [.ref m0, .int (nI a)] D (TY kA) [(m0, .inr (6, [.ref m1, .int st, .ref m2, .int len, .ref m3, .int th, .int wo, .ref m4, .int rd, .int nu, .int du, .ref m5, .long hs])), (m1, .inl (kA 0, 148, .inl z)), (m2, .inl (kA 0, 888, .inl h)), (m3, .inl (kA 0, 60, .inl tx)), (m4, .inl (kA 0, 72, .inl pt)), (m5, .inl (kA 0, 148, .inl kp))]) (pQ (some (.int (possG (sl z a))))) 0 0 (fun _ => False) := by
  refine MetZ (by decide +kernel) (Nat.le_of_ble_eq_true rfl) ?_
  intro p e s m below meth c ls hx hb hrt hts hown hml hlk hnm hP hK hD hS hl
  have hl : lv_has ls 4 [(0, .ref m0), (1, .int (nI a))] := hl
  refine lv_iconst (v := 0) hx hb dX6_couldBeNow_0 (by decide) ?_
  refine lv_istore_n (lv' := [(2, .int 0), (0, .ref m0), (1, .int (nI a))]) hx hb dX6_couldBeNow_1 rfl hl (by decide) rfl (fun ls hl => ?_)
  refine lv_iconst (v := 0) hx hb dX6_couldBeNow_2 (by decide) ?_
  refine lv_istore_n (lv' := [(3, .int 0), (2, .int 0), (0, .ref m0), (1, .int (nI a))]) hx hb dX6_couldBeNow_3 rfl hl (by decide) rfl (fun ls hl => ?_)
  have loop_4 : ∀ (n : Nat) (j : Nat) (x2 : Int32) (x3 : Int32) (hj : j + n = 24) (e3 : x3 = nI j) (hres : ppL (sl z a) n x3 x2 = possG (sl z a)), ∀ ls : Array Slot, lv_has ls 4 [(0, .ref m0), (1, .int (nI a)), (2, .int x2), (3, .int x3)] → W p l e ({ frames := 1, cells := 0, slots := 0, locals := 22 } : Room) s m [.ref m0, .int (nI a)].toArray below meth c s.heap [] 0 0 (MQ below (pQ (some (.int (possG (sl z a))))) [.ref m0, .int (nI a)].toArray s 0 0 (fun _ => False)) (F0 m 4 ls []) := by
    clear hl
    intro n
    induction n with
    | zero =>
      intro j x2 x3 hj e3 hres  ls hl
      refine lv_iload_n hx hb dX6_couldBeNow_4 rfl (lv_at hl 3 rfl) ?_
      refine lv_bipush (v := 24) hx hb dX6_couldBeNow_5 (by decide) ?_
      refine lv_icmp_ge (tgt := 45) hx hb dX6_couldBeNow_7 (by decide) (fun c_1 => ?_) (fun c_1 => ?_)
      · skip
        replace c_1 := ge_n c_1
        refine lv_iload_n hx hb dX6_couldBeNow_45 rfl (lv_at hl 2 rfl) ?_
        exact end_pi hx hb hrt hlk (hres) dX6_couldBeNow_46
      · exact absurd c_1 (fun q => q (cnt_ge (N := 24) e3 rfl (by omega) (by omega)))
    | succ n ih4 =>
      intro j x2 x3 hj e3 hres  ls hl
      refine lv_iload_n hx hb dX6_couldBeNow_4 rfl (lv_at hl 3 rfl) ?_
      refine lv_bipush (v := 24) hx hb dX6_couldBeNow_5 (by decide) ?_
      refine lv_icmp_ge (tgt := 45) hx hb dX6_couldBeNow_7 (by decide) (fun c_2 => ?_) (fun c_2 => ?_)
      · exact absurd c_2 (cnt_nge (N := 24) e3 rfl (by omega) (by omega))
      · skip
        replace c_2 := nge_l c_2
        refine lv_iload_n hx hb dX6_couldBeNow_10 rfl (lv_at hl 2 rfl) ?_
        refine lv_iload_n hx hb dX6_couldBeNow_11 rfl (lv_at hl 3 rfl) ?_
        refine lv_aload_n hx hb dX6_couldBeNow_12 rfl (lv_at hl 0 rfl) ?_
        refine lv_iload_n hx hb dX6_couldBeNow_13 rfl (lv_at hl 1 rfl) ?_
        refine lv_iconst (v := 1) hx hb dX6_couldBeNow_14 (by decide) ?_
        refine cs_p (runV (As := [.int (nI a), .int 1]) (rest := [.int x3, .int x2]) ⟨hx, hb, hml, hown, hts⟩ (m_X6_of l D kA m0 m1 m2 m3 m4 m5 z h tx pt kp st len th wo rd nu du hs a 1 1 (rfl) (by omega) (ha)) q_833 q_835 qp_23 q_7 q_836 hd_X6_of ⟨rfl, rfl⟩ ⟨Nat.le_of_ble_eq_true rfl, Nat.le_of_ble_eq_true rfl⟩ hK (ws := [(m0, .inr (6, [.ref m1, .int st, .ref m2, .int len, .ref m3, .int th, .int wo, .ref m4, .int rd, .int nu, .int du, .ref m5, .long hs])), (m1, .inl (kA 0, 148, .inl z)), (m2, .inl (kA 0, 888, .inl h)), (m3, .inl (kA 0, 60, .inl tx)), (m4, .inl (kA 0, 72, .inl pt)), (m5, .inl (kA 0, 148, .inl kp))]) (hP.sub [0, 1, 2, 3, 4, 5] rfl) (hD.sub [0, 1, 2, 3, 4, 5] (by decide) rfl) 0 (ci := 6) (C := RX6) (T := TX6) (N := 13) rfl rfl rfl hl.1 rfl (Nat.le_of_ble_eq_true rfl) dX6_couldBeNow_15 ⟨Nat.zero_le _, Nat.zero_le _⟩) ?_
        refine cs_p (runS (As := [.int x3, .int (sl z a 1)]) (rest := [.int x2]) ⟨hx, hb, hml, hown, hts⟩ (m_X6_apart l D kA x3 (sl z a 1) j ((sl z a 1).toNatClampNeg) (e3) (by omega) ((hI.p1 ha).1) ((hI.p1 ha).2)) q_1000 q_1001 q_7 q_1002 hd_X6_apart ⟨rfl, rfl⟩ ⟨Nat.le_of_ble_eq_true rfl, Nat.le_of_ble_eq_true rfl⟩ hK (ws := []) (hP.sub [] rfl) (hD.sub [] (by decide) rfl) rfl hl.1 rfl (Nat.le_of_ble_eq_true rfl) dX6_couldBeNow_18 ⟨Nat.zero_le _, Nat.zero_le _⟩) ?_
        refine lv_aload_n hx hb dX6_couldBeNow_21 rfl (lv_at hl 0 rfl) ?_
        refine lv_iload_n hx hb dX6_couldBeNow_22 rfl (lv_at hl 1 rfl) ?_
        refine lv_iconst (v := 4) hx hb dX6_couldBeNow_23 (by decide) ?_
        refine cs_p (runV (As := [.int (nI a), .int 4]) (rest := [.int (dist x3 (sl z a 1)), .int x2]) ⟨hx, hb, hml, hown, hts⟩ (m_X6_of l D kA m0 m1 m2 m3 m4 m5 z h tx pt kp st len th wo rd nu du hs a 4 4 (rfl) (by omega) (ha)) q_833 q_835 qp_23 q_7 q_836 hd_X6_of ⟨rfl, rfl⟩ ⟨Nat.le_of_ble_eq_true rfl, Nat.le_of_ble_eq_true rfl⟩ hK (ws := [(m0, .inr (6, [.ref m1, .int st, .ref m2, .int len, .ref m3, .int th, .int wo, .ref m4, .int rd, .int nu, .int du, .ref m5, .long hs])), (m1, .inl (kA 0, 148, .inl z)), (m2, .inl (kA 0, 888, .inl h)), (m3, .inl (kA 0, 60, .inl tx)), (m4, .inl (kA 0, 72, .inl pt)), (m5, .inl (kA 0, 148, .inl kp))]) (hP.sub [0, 1, 2, 3, 4, 5] rfl) (hD.sub [0, 1, 2, 3, 4, 5] (by decide) rfl) 0 (ci := 6) (C := RX6) (T := TX6) (N := 13) rfl rfl rfl hl.1 rfl (Nat.le_of_ble_eq_true rfl) dX6_couldBeNow_24 ⟨Nat.zero_le _, Nat.zero_le _⟩) ?_
        have jn_27_2 : ∀ v : Int32, v = (if (sl z a 4) < (dist x3 (sl z a 1)) then 0 else (1 : Int32) <<< (x3 &&& 31)) → W p l e ({ frames := 1, cells := 0, slots := 0, locals := 22 } : Room) s m [.ref m0, .int (nI a)].toArray below meth c s.heap [] 0 0 (MQ below (pQ (some (.int (possG (sl z a))))) [.ref m0, .int (nI a)].toArray s 0 0 (fun _ => False)) (F0 m 37 ls (.int v :: [.int x2])) := by
          intro v ev
          subst ev
          refine lv_ior hx hb dX6_couldBeNow_37 ?_
          refine lv_istore_n (lv' := [(2, .int (x2 ||| (if (sl z a 4) < (dist x3 (sl z a 1)) then 0 else (1 : Int32) <<< (x3 &&& 31)))), (0, .ref m0), (1, .int (nI a)), (3, .int x3)]) hx hb dX6_couldBeNow_38 rfl hl (by decide) rfl (fun ls hl => ?_)
          refine lv_iinc (v := x3 + 1) (lv' := [(3, .int (x3 + 1)), (2, .int (x2 ||| (if (sl z a 4) < (dist x3 (sl z a 1)) then 0 else (1 : Int32) <<< (x3 &&& 31)))), (0, .ref m0), (1, .int (nI a))]) hx hb dX6_couldBeNow_39 hl (k := 3) rfl (by first | rfl | exact congrArg (_ + ·) (by decide)) (by decide) rfl (fun ls hl => ?_)
          refine lv_goto (tgt := 4) hx hb dX6_couldBeNow_42 (by decide) ?_
          exact ih4 (j + 1) (x2 ||| (if (sl z a 4) < (dist x3 (sl z a 1)) then 0 else (1 : Int32) <<< (x3 &&& 31))) (x3 + 1) (by omega) (by rw [e3]; exact nI_1 j) (by rw [or_if]; exact hres) ls (lv_sub hl [2, 3, 1, 0] rfl)
        refine lv_icmp_gt (tgt := 36) hx hb dX6_couldBeNow_27 (by decide) (fun c_4 => ?_) (fun c_4 => ?_)
        · skip
          refine lv_iconst (v := 0) hx hb dX6_couldBeNow_36 (by decide) ?_
          exact jn_27_2 _ (by rw [if_pos c_4])
        · skip
          refine lv_iconst (v := 1) hx hb dX6_couldBeNow_30 (by decide) ?_
          refine lv_iload_n hx hb dX6_couldBeNow_31 rfl (lv_at hl 3 rfl) ?_
          refine lv_ishl hx hb dX6_couldBeNow_32 ?_
          refine lv_goto (tgt := 37) hx hb dX6_couldBeNow_33 (by decide) ?_
          exact jn_27_2 _ (by rw [if_neg c_4])
  exact loop_4 24 0 0 0 (by omega) (nI_0.symm) (rfl) ls (lv_sub hl [2, 3, 1, 0] rfl)

theorem hd_X6_couldBe : yX6_couldBe.cls ≠ "java/lang/invoke/MethodHandle" ∧ yX6_couldBe.cls ≠ "java/lang/invoke/VarHandle" ∧ (parseMethodDescriptor yX6_couldBe.desc).map (fun d => d.parameters.length) = some 1 := by decide +kernel
set_option maxRecDepth 100000 in
set_option maxHeartbeats 4000000 in
theorem m_X6_couldBe (l : Launch) (D : va_G) (kA : Nat → Nat) (m0 : Nat) (m1 : Nat) (m2 : Nat) (m3 : Nat) (m4 : Nat) (m5 : Nat) (z : Nat → Int32) (h : Nat → Int32) (tx : Nat → Int32) (pt : Nat → Int32) (kp : Nat → Int32) (st : Int32) (len : Int32) (th : Int32) (wo : Int32) (rd : Int32) (nu : Int32) (du : Int32) (hs : Int64) (p0 : Int32) (hI : Inv z) : Met l yX6_couldBe (Cond.code yX6_couldBe cX6_couldBe 2 (some .int) :: AW) ({ frames := 2, cells := 0, slots := 0, locals := 45 } : Room) (Pz [.ref m0, .int p0] D (TY kA) [(m0, .inr (6, [.ref m1, .int st, .ref m2, .int len, .ref m3, .int th, .int wo, .ref m4, .int rd, .int nu, .int du, .ref m5, .long hs])), (m1, .inl (kA 0, 148, .inl z)), (m2, .inl (kA 0, 888, .inl h)), (m3, .inl (kA 0, 60, .inl tx)), (m4, .inl (kA 0, 72, .inl pt)), (m5, .inl (kA 0, 148, .inl kp))]) (fQ (some (.int (if axT p0 = 0 then possG (sl z p0.toNatClampNeg) else 0))) D [(m0, .inr (6, [.ref m1, .int st, .ref m2, .int len, .ref m3, .int th, .int wo, .ref m4, .int rd, .int nu, .int du, .ref m5, .long hs])), (m1, .inl (kA 0, 148, .inl z)), (m2, .inl (kA 0, 888, .inl h)), (m3, .inl (kA 0, 60, .inl tx)), (m4, .inl (kA 0, 72, .inl pt)), (m5, .inl (kA 0, 148, .inl kp))] [(m0, .inr (6, [.ref m1, .int st, .ref m2, .int len, .ref m3, .int (axT p0), .int wo, .ref m4, .int rd, .int nu, .int du, .ref m5, .long hs])), (m1, .inl (kA 0, 148, .inl z)), (m2, .inl (kA 0, 888, .inl h)), (m3, .inl (kA 0, 60, .inl tx)), (m4, .inl (kA 0, 72, .inl pt)), (m5, .inl (kA 0, 148, .inl kp))]) 0 0 (Aw [(m0, .inr (6, [.ref m1, .int st, .ref m2, .int len, .ref m3, .int th, .int wo, .ref m4, .int rd, .int nu, .int du, .ref m5, .long hs])), (m1, .inl (kA 0, 148, .inl z)), (m2, .inl (kA 0, 888, .inl h)), (m3, .inl (kA 0, 60, .inl tx)), (m4, .inl (kA 0, 72, .inl pt)), (m5, .inl (kA 0, 148, .inl kp))]) := by
  refine MetZ (by decide +kernel) (Nat.le_of_ble_eq_true rfl) ?_
  intro p e s m below meth c ls hx hb hrt hts hown hml hlk hnm hP hK hD hS hl
  have hl : lv_has ls 2 [(0, .ref m0), (1, .int p0)] := hl
  refine lv_aload_n hx hb dX6_couldBe_0 rfl (lv_at hl 0 rfl) ?_
  refine lv_iload_n hx hb dX6_couldBe_1 rfl (lv_at hl 1 rfl) ?_
  refine cs_p (runS (As := [.int p0]) (rest := [.ref m0]) ⟨hx, hb, hml, hown, hts⟩ (m_X6_isAxis l D kA p0 ) q_830 q_831 q_7 q_832 hd_X6_isAxis ⟨rfl, rfl⟩ ⟨Nat.le_of_ble_eq_true rfl, Nat.le_of_ble_eq_true rfl⟩ hK (ws := []) (hP.sub [] rfl) (hD.sub [] (by decide) rfl) rfl hl.1 rfl (Nat.le_of_ble_eq_true rfl) dX6_couldBe_2 ⟨Nat.zero_le _, Nat.zero_le _⟩) ?_
  refine lv_if_eq (tgt := 12) hx hb dX6_couldBe_5 (by decide) (fun c_1 => ?_) (fun c_1 => ?_)
  · skip
    replace c_1 := bI_0.mp c_1
    refine lv_iconst (v := 1) hx hb dX6_couldBe_12 (by decide) ?_
    refine va_put (ci := 6) (v := .int 1) (ty := tyX6 5) (C := RX6) (T := TX6) (N := 13) hx hb hts inX6 tyX6 tyX6_ok nmX6 hown hK hP hD hS 0 rfl rfl 5 (by decide) (hts _ q_775) (fun _ h9 => h9) rfl (tyX6_ok 5 (by decide)) rfl rfl (Nat.le_of_ble_eq_true rfl) dX6_couldBe_13 (fun H locs hP hD hS => ?_)
    have hP : va_P D vwCl [(m0, .inr (6, [.ref m1, .int st, .ref m2, .int len, .ref m3, .int 1, .int wo, .ref m4, .int rd, .int nu, .int du, .ref m5, .long hs])), (m1, .inl (kA 0, 148, .inl z)), (m2, .inl (kA 0, 888, .inl h)), (m3, .inl (kA 0, 60, .inl tx)), (m4, .inl (kA 0, 72, .inl pt)), (m5, .inl (kA 0, 148, .inl kp))] H := hP
    have hD : va_D (Aw [(m0, .inr (6, [.ref m1, .int st, .ref m2, .int len, .ref m3, .int th, .int wo, .ref m4, .int rd, .int nu, .int du, .ref m5, .long hs])), (m1, .inl (kA 0, 148, .inl z)), (m2, .inl (kA 0, 888, .inl h)), (m3, .inl (kA 0, 60, .inl tx)), (m4, .inl (kA 0, 72, .inl pt)), (m5, .inl (kA 0, 148, .inl kp))]) [(m0, .inr (6, [.ref m1, .int st, .ref m2, .int len, .ref m3, .int 1, .int wo, .ref m4, .int rd, .int nu, .int du, .ref m5, .long hs])), (m1, .inl (kA 0, 148, .inl z)), (m2, .inl (kA 0, 888, .inl h)), (m3, .inl (kA 0, 60, .inl tx)), (m4, .inl (kA 0, 72, .inl pt)), (m5, .inl (kA 0, 148, .inl kp))] := hD
    refine lv_aload_n hx hb dX6_couldBe_16 rfl (lv_at hl 0 rfl) ?_
    refine va_get (ci := 6) (v := .int 1) (C := RX6) (T := TX6) (N := 13) hx hb hts inX6 hown hK hP 0 rfl rfl 5 (by decide) (hts _ q_775) (fun _ h9 => h9) rfl dX6_couldBe_17 ?_
    refine lv_if_le (tgt := 27) hx hb dX6_couldBe_20 (by decide) (fun c_2 => ?_) (fun c_2 => ?_)
    · exact absurd c_2 (by decide)
    · skip
      replace c_2 := nge_l c_2
      refine lv_iconst (v := 0) hx hb dX6_couldBe_23 (by decide) ?_
      refine lv_goto (tgt := 32) hx hb dX6_couldBe_24 (by decide) ?_
      have hP : va_P D vwCl [(m0, .inr (6, [.ref m1, .int st, .ref m2, .int len, .ref m3, .int 1, .int wo, .ref m4, .int rd, .int nu, .int du, .ref m5, .long hs])), (m1, .inl (kA 0, 148, .inl z)), (m2, .inl (kA 0, 888, .inl h)), (m3, .inl (kA 0, 60, .inl tx)), (m4, .inl (kA 0, 72, .inl pt)), (m5, .inl (kA 0, 148, .inl kp))] _ := hP.sub [0, 1, 2, 3, 4, 5] rfl
      exact end_fi hx hb hrt hlk hP hS (by have hT : axT p0 = 1 := (by rw [axT, if_neg (by rw [c_1]; decide)]); rw [hT, if_neg (by decide)]) (fun hq => by have hT : axT p0 = 1 := (by rw [axT, if_neg (by rw [c_1]; decide)]); rw [hT]; exact hq) dX6_couldBe_32
  · skip
    replace c_1 := bI_n0 c_1
    obtain ⟨a, haa, epa, eca⟩ := wi_ex c_1 (N := 3) rfl
    rw [epa] at hl
    have ha : a < 4 := haa
    refine lv_iconst (v := 0) hx hb dX6_couldBe_8 (by decide) ?_
    refine lv_goto (tgt := 13) hx hb dX6_couldBe_9 (by decide) ?_
    refine va_put (ci := 6) (v := .int 0) (ty := tyX6 5) (C := RX6) (T := TX6) (N := 13) hx hb hts inX6 tyX6 tyX6_ok nmX6 hown hK hP hD hS 0 rfl rfl 5 (by decide) (hts _ q_775) (fun _ h9 => h9) rfl (tyX6_ok 5 (by decide)) rfl rfl (Nat.le_of_ble_eq_true rfl) dX6_couldBe_13 (fun H locs hP hD hS => ?_)
    have hP : va_P D vwCl [(m0, .inr (6, [.ref m1, .int st, .ref m2, .int len, .ref m3, .int 0, .int wo, .ref m4, .int rd, .int nu, .int du, .ref m5, .long hs])), (m1, .inl (kA 0, 148, .inl z)), (m2, .inl (kA 0, 888, .inl h)), (m3, .inl (kA 0, 60, .inl tx)), (m4, .inl (kA 0, 72, .inl pt)), (m5, .inl (kA 0, 148, .inl kp))] H := hP
    have hD : va_D (Aw [(m0, .inr (6, [.ref m1, .int st, .ref m2, .int len, .ref m3, .int th, .int wo, .ref m4, .int rd, .int nu, .int du, .ref m5, .long hs])), (m1, .inl (kA 0, 148, .inl z)), (m2, .inl (kA 0, 888, .inl h)), (m3, .inl (kA 0, 60, .inl tx)), (m4, .inl (kA 0, 72, .inl pt)), (m5, .inl (kA 0, 148, .inl kp))]) [(m0, .inr (6, [.ref m1, .int st, .ref m2, .int len, .ref m3, .int 0, .int wo, .ref m4, .int rd, .int nu, .int du, .ref m5, .long hs])), (m1, .inl (kA 0, 148, .inl z)), (m2, .inl (kA 0, 888, .inl h)), (m3, .inl (kA 0, 60, .inl tx)), (m4, .inl (kA 0, 72, .inl pt)), (m5, .inl (kA 0, 148, .inl kp))] := hD
    refine lv_aload_n hx hb dX6_couldBe_16 rfl (lv_at hl 0 rfl) ?_
    refine va_get (ci := 6) (v := .int 0) (C := RX6) (T := TX6) (N := 13) hx hb hts inX6 hown hK hP 0 rfl rfl 5 (by decide) (hts _ q_775) (fun _ h9 => h9) rfl dX6_couldBe_17 ?_
    refine lv_if_le (tgt := 27) hx hb dX6_couldBe_20 (by decide) (fun c_3 => ?_) (fun c_3 => ?_)
    · skip
      replace c_3 := ge_n c_3
      refine lv_aload_n hx hb dX6_couldBe_27 rfl (lv_at hl 0 rfl) ?_
      refine lv_iload_n hx hb dX6_couldBe_28 rfl (lv_at hl 1 rfl) ?_
      refine cs_p (runV (As := [.int (nI a)]) (rest := []) ⟨hx, hb, hml, hown, hts⟩ (m_X6_couldBeNow l D kA m0 m1 m2 m3 m4 m5 z h tx pt kp st len 0 wo rd nu du hs a (hI) (ha)) q_1071 q_1073 qp_57 q_7 q_1074 hd_X6_couldBeNow ⟨rfl, rfl⟩ ⟨Nat.le_of_ble_eq_true rfl, Nat.le_of_ble_eq_true rfl⟩ hK (ws := [(m0, .inr (6, [.ref m1, .int st, .ref m2, .int len, .ref m3, .int 0, .int wo, .ref m4, .int rd, .int nu, .int du, .ref m5, .long hs])), (m1, .inl (kA 0, 148, .inl z)), (m2, .inl (kA 0, 888, .inl h)), (m3, .inl (kA 0, 60, .inl tx)), (m4, .inl (kA 0, 72, .inl pt)), (m5, .inl (kA 0, 148, .inl kp))]) (hP.sub [0, 1, 2, 3, 4, 5] rfl) (hD.sub [0, 1, 2, 3, 4, 5] (by decide) rfl) 0 (ci := 6) (C := RX6) (T := TX6) (N := 13) rfl rfl rfl hl.1 rfl (Nat.le_of_ble_eq_true rfl) dX6_couldBe_29 ⟨Nat.zero_le _, Nat.zero_le _⟩) ?_
      have hP : va_P D vwCl [(m0, .inr (6, [.ref m1, .int st, .ref m2, .int len, .ref m3, .int 0, .int wo, .ref m4, .int rd, .int nu, .int du, .ref m5, .long hs])), (m1, .inl (kA 0, 148, .inl z)), (m2, .inl (kA 0, 888, .inl h)), (m3, .inl (kA 0, 60, .inl tx)), (m4, .inl (kA 0, 72, .inl pt)), (m5, .inl (kA 0, 148, .inl kp))] _ := hP.sub [0, 1, 2, 3, 4, 5] rfl
      exact end_fi hx hb hrt hlk hP hS (by have hT : axT p0 = 0 := (by rw [axT, if_pos c_1]); rw [hT, if_pos rfl, eca]) (fun hq => by have hT : axT p0 = 0 := (by rw [axT, if_pos c_1]); rw [hT]; exact hq) dX6_couldBe_32
    · exact absurd c_3 (by decide)

theorem hd_X6_lesserCost : yX6_lesserCost.cls ≠ "java/lang/invoke/MethodHandle" ∧ yX6_lesserCost.cls ≠ "java/lang/invoke/VarHandle" ∧ (parseMethodDescriptor yX6_lesserCost.desc).map (fun d => d.parameters.length) = some 2 := by decide +kernel
set_option maxRecDepth 100000 in
set_option maxHeartbeats 4000000 in
theorem m_X6_lesserCost (l : Launch) (D : va_G) (kA : Nat → Nat) (m0 : Nat) (m1 : Nat) (m2 : Nat) (m3 : Nat) (m4 : Nat) (m5 : Nat) (z : Nat → Int32) (h : Nat → Int32) (tx : Nat → Int32) (pt : Nat → Int32) (kp : Nat → Int32) (st : Int32) (len : Int32) (th : Int32) (wo : Int32) (rd : Int32) (nu : Int32) (du : Int32) (hs : Int64) (a : Nat) (p1 : Int32) (tg : Nat) (hI : Inv z) (ha : a < 4) (hp : p1 = nI tg) (htg : tg < 24) : Met l yX6_lesserCost (Cond.code yX6_lesserCost cX6_lesserCost 5 (some .int) :: AW) ({ frames := 3, cells := 0, slots := 0, locals := 73 } : Room) (Pz [.ref m0, .int (nI a), .int p1] D (TY kA) [(m0, .inr (6, [.ref m1, .int st, .ref m2, .int len, .ref m3, .int th, .int wo, .ref m4, .int rd, .int nu, .int du, .ref m5, .long hs])), (m1, .inl (kA 0, 148, .inl z)), (m2, .inl (kA 0, 888, .inl h)), (m3, .inl (kA 0, 60, .inl tx)), (m4, .inl (kA 0, 72, .inl pt)), (m5, .inl (kA 0, 148, .inl kp))]) (pQ (some (.int (leF z a p1 wo)))) 0 0 (fun _ => False) := by
  refine MetZ (by decide +kernel) (Nat.le_of_ble_eq_true rfl) ?_
  intro p e s m below meth c ls hx hb hrt hts hown hml hlk hnm hP hK hD hS hl
  have hl : lv_has ls 5 [(0, .ref m0), (1, .int (nI a)), (2, .int p1)] := hl
  refine lv_aload_n hx hb dX6_lesserCost_0 rfl (lv_at hl 0 rfl) ?_
  refine lv_iload_n hx hb dX6_lesserCost_1 rfl (lv_at hl 1 rfl) ?_
  refine lv_iload_n hx hb dX6_lesserCost_2 rfl (lv_at hl 2 rfl) ?_
  refine lv_iconst (v := 1) hx hb dX6_lesserCost_3 (by decide) ?_
  refine cs_p (runV (As := [.int (nI a), .int p1, .int (bI true)]) (rest := []) ⟨hx, hb, hml, hown, hts⟩ (m_X6_costNow l D kA m0 m1 m2 m3 m4 m5 z h tx pt kp st len th wo rd nu du hs a true p1 tg (hI) (ha) (hp) (htg)) q_908 q_910 qp_35 q_7 q_911 hd_X6_costNow ⟨rfl, rfl⟩ ⟨Nat.le_of_ble_eq_true rfl, Nat.le_of_ble_eq_true rfl⟩ hK (ws := [(m0, .inr (6, [.ref m1, .int st, .ref m2, .int len, .ref m3, .int th, .int wo, .ref m4, .int rd, .int nu, .int du, .ref m5, .long hs])), (m1, .inl (kA 0, 148, .inl z)), (m2, .inl (kA 0, 888, .inl h)), (m3, .inl (kA 0, 60, .inl tx)), (m4, .inl (kA 0, 72, .inl pt)), (m5, .inl (kA 0, 148, .inl kp))]) (hP.sub [0, 1, 2, 3, 4, 5] rfl) (hD.sub [0, 1, 2, 3, 4, 5] (by decide) rfl) 0 (ci := 6) (C := RX6) (T := TX6) (N := 13) rfl rfl rfl hl.1 rfl (Nat.le_of_ble_eq_true rfl) dX6_lesserCost_4 ⟨Nat.zero_le _, Nat.zero_le _⟩) ?_
  refine lv_istore_n (lv' := [(3, .int (costG (sl z a) z p1 (wI true) wo)), (0, .ref m0), (1, .int (nI a)), (2, .int p1)]) hx hb dX6_lesserCost_7 rfl hl (by decide) rfl (fun ls hl => ?_)
  refine lv_aload_n hx hb dX6_lesserCost_8 rfl (lv_at hl 1 rfl) ?_
  refine lv_iload_n hx hb dX6_lesserCost_9 rfl (lv_at hl 2 rfl) ?_
  refine lv_iload_n hx hb dX6_lesserCost_10 rfl (lv_at hl 3 rfl) ?_
  refine lv_iconst (v := 0) hx hb dX6_lesserCost_11 (by decide) ?_
  refine cs_p (runV (As := [.int (nI a), .int p1, .int (bI false)]) (rest := []) ⟨hx, hb, hml, hown, hts⟩ (m_X6_costNow l D kA m0 m1 m2 m3 m4 m5 z h tx pt kp st len th wo rd nu du hs a false p1 tg (hI) (ha) (hp) (htg)) q_908 q_910 qp_35 q_7 q_911 hd_X6_costNow ⟨rfl, rfl⟩ ⟨Nat.le_of_ble_eq_true rfl, Nat.le_of_ble_eq_true rfl⟩ hK (ws := [(m0, .inr (6, [.ref m1, .int st, .ref m2, .int len, .ref m3, .int th, .int wo, .ref m4, .int rd, .int nu, .int du, .ref m5, .long hs])), (m1, .inl (kA 0, 148, .inl z)), (m2, .inl (kA 0, 888, .inl h)), (m3, .inl (kA 0, 60, .inl tx)), (m4, .inl (kA 0, 72, .inl pt)), (m5, .inl (kA 0, 148, .inl kp))]) (hP.sub [0, 1, 2, 3, 4, 5] rfl) (hD.sub [0, 1, 2, 3, 4, 5] (by decide) rfl) 0 (ci := 6) (C := RX6) (T := TX6) (N := 13) rfl rfl rfl hl.1 rfl (Nat.le_of_ble_eq_true rfl) dX6_lesserCost_12 ⟨Nat.zero_le _, Nat.zero_le _⟩) ?_
  refine lv_istore (lv' := [(4, .int (costG (sl z a) z p1 (wI false) wo)), (3, .int (costG (sl z a) z p1 (wI true) wo)), (0, .ref m0), (1, .int (nI a)), (2, .int p1)]) hx hb dX6_lesserCost_15 hl (by decide) rfl (fun ls hl => ?_)
  refine lv_iload_n hx hb dX6_lesserCost_17 rfl (lv_at hl 1 rfl) ?_
  refine lv_iload hx hb dX6_lesserCost_18 (lv_at hl 0 rfl) ?_
  refine lv_icmp_ge (tgt := 27) hx hb dX6_lesserCost_20 (by decide) (fun c_1 => ?_) (fun c_1 => ?_)
  · skip
    replace c_1 := ge_n c_1
    refine lv_iload hx hb dX6_lesserCost_27 (lv_at hl 0 rfl) ?_
    exact end_pi hx hb hrt hlk (by rw [leF, ← wI_f, ← wI_t, ← le_mm, if_neg c_1]) dX6_lesserCost_29
  · skip
    replace c_1 := nge_l c_1
    refine lv_iload_n hx hb dX6_lesserCost_23 rfl (lv_at hl 1 rfl) ?_
    refine lv_goto (tgt := 29) hx hb dX6_lesserCost_24 (by decide) ?_
    exact end_pi hx hb hrt hlk (by rw [leF, ← wI_f, ← wI_t, ← le_mm, if_pos c_1]) dX6_lesserCost_29

theorem hd_X6_worstNow : yX6_worstNow.cls ≠ "java/lang/invoke/MethodHandle" ∧ yX6_worstNow.cls ≠ "java/lang/invoke/VarHandle" ∧ (parseMethodDescriptor yX6_worstNow.desc).map (fun d => d.parameters.length) = some 2 := by decide +kernel
set_option maxRecDepth 100000 in
set_option maxHeartbeats 4000000 in
theorem m_X6_worstNow (l : Launch) (D : va_G) (kA : Nat → Nat) (m0 : Nat) (m1 : Nat) (m2 : Nat) (m3 : Nat) (m4 : Nat) (m5 : Nat) (z : Nat → Int32) (h : Nat → Int32) (tx : Nat → Int32) (pt : Nat → Int32) (kp : Nat → Int32) (st : Int32) (len : Int32) (th : Int32) (wo : Int32) (rd : Int32) (nu : Int32) (du : Int32) (hs : Int64) (a : Nat) (p1 : Int32) (tg : Nat) (hI : Inv z) (ha : a < 4) (hp : p1 = nI tg) (htg : tg < 24) (hwo : wo = -1) : Met l yX6_worstNow (Cond.code yX6_worstNow cX6_worstNow 7 (some .int) :: AW) ({ frames := 4, cells := 0, slots := 0, locals := 97 } : Room) (Pz [.ref m0, .int (nI a), .int p1] D (TY kA) [(m0, .inr (6, [.ref m1, .int st, .ref m2, .int len, .ref m3, .int th, .int wo, .ref m4, .int rd, .int nu, .int du, .ref m5, .long hs])), (m1, .inl (kA 0, 148, .inl z)), (m2, .inl (kA 0, 888, .inl h)), (m3, .inl (kA 0, 60, .inl tx)), (m4, .inl (kA 0, 72, .inl pt)), (m5, .inl (kA 0, 148, .inl kp))]) (fQ (some (.int (woF z a p1))) D [(m0, .inr (6, [.ref m1, .int st, .ref m2, .int len, .ref m3, .int th, .int wo, .ref m4, .int rd, .int nu, .int du, .ref m5, .long hs])), (m1, .inl (kA 0, 148, .inl z)), (m2, .inl (kA 0, 888, .inl h)), (m3, .inl (kA 0, 60, .inl tx)), (m4, .inl (kA 0, 72, .inl pt)), (m5, .inl (kA 0, 148, .inl kp))] [(m0, .inr (6, [.ref m1, .int st, .ref m2, .int len, .ref m3, .int th, .int wo, .ref m4, .int rd, .int nu, .int du, .ref m5, .long hs])), (m1, .inl (kA 0, 148, .inl z)), (m2, .inl (kA 0, 888, .inl h)), (m3, .inl (kA 0, 60, .inl tx)), (m4, .inl (kA 0, 72, .inl pt)), (m5, .inl (kA 0, 148, .inl kp))]) 0 0 (Aw [(m0, .inr (6, [.ref m1, .int st, .ref m2, .int len, .ref m3, .int th, .int wo, .ref m4, .int rd, .int nu, .int du, .ref m5, .long hs])), (m1, .inl (kA 0, 148, .inl z)), (m2, .inl (kA 0, 888, .inl h)), (m3, .inl (kA 0, 60, .inl tx)), (m4, .inl (kA 0, 72, .inl pt)), (m5, .inl (kA 0, 148, .inl kp))]) := by
  refine MetZ (by decide +kernel) (Nat.le_of_ble_eq_true rfl) ?_
  intro p e s m below meth c ls hx hb hrt hts hown hml hlk hnm hP hK hD hS hl
  have hl : lv_has ls 7 [(0, .ref m0), (1, .int (nI a)), (2, .int p1)] := hl
  refine lv_iconst (v := (-1)) hx hb dX6_worstNow_0 (by decide) ?_
  refine lv_istore_n (lv' := [(3, .int (-1)), (0, .ref m0), (1, .int (nI a)), (2, .int p1)]) hx hb dX6_worstNow_1 rfl hl (by decide) rfl (fun ls hl => ?_)
  refine lv_aload_n hx hb dX6_worstNow_2 rfl (lv_at hl 1 rfl) ?_
  refine lv_iload_n hx hb dX6_worstNow_3 rfl (lv_at hl 2 rfl) ?_
  refine lv_iload_n hx hb dX6_worstNow_4 rfl (lv_at hl 3 rfl) ?_
  refine cs_p (runV (As := [.int (nI a), .int p1]) (rest := []) ⟨hx, hb, hml, hown, hts⟩ (m_X6_lesserCost l D kA m0 m1 m2 m3 m4 m5 z h tx pt kp st len th wo rd nu du hs a p1 tg (hI) (ha) (hp) (htg)) q_1083 q_1085 qp_59 q_7 q_1086 hd_X6_lesserCost ⟨rfl, rfl⟩ ⟨Nat.le_of_ble_eq_true rfl, Nat.le_of_ble_eq_true rfl⟩ hK (ws := [(m0, .inr (6, [.ref m1, .int st, .ref m2, .int len, .ref m3, .int th, .int wo, .ref m4, .int rd, .int nu, .int du, .ref m5, .long hs])), (m1, .inl (kA 0, 148, .inl z)), (m2, .inl (kA 0, 888, .inl h)), (m3, .inl (kA 0, 60, .inl tx)), (m4, .inl (kA 0, 72, .inl pt)), (m5, .inl (kA 0, 148, .inl kp))]) (hP.sub [0, 1, 2, 3, 4, 5] rfl) (hD.sub [0, 1, 2, 3, 4, 5] (by decide) rfl) 0 (ci := 6) (C := RX6) (T := TX6) (N := 13) rfl rfl rfl hl.1 rfl (Nat.le_of_ble_eq_true rfl) dX6_worstNow_5 ⟨Nat.zero_le _, Nat.zero_le _⟩) ?_
  refine lv_istore (lv' := [(4, .int (leF z a p1 wo)), (3, .int (-1)), (0, .ref m0), (1, .int (nI a)), (2, .int p1)]) hx hb dX6_worstNow_8 hl (by decide) rfl (fun ls hl => ?_)
  refine lv_iconst (v := 0) hx hb dX6_worstNow_10 (by decide) ?_
  refine lv_istore (lv' := [(5, .int 0), (4, .int (leF z a p1 wo)), (3, .int (-1)), (0, .ref m0), (1, .int (nI a)), (2, .int p1)]) hx hb dX6_worstNow_11 hl (by decide) rfl (fun ls hl => ?_)
  have loop_13 : ∀ (n : Nat) (j : Nat) (x3 : Int32) (x4 : Int32) (x5 : Int32) (wj : Int32) (hj : j + n = 24) (e5 : x5 = nI j) (hres : woL z a p1 n x5 x3 x4 = woF z a p1), ∀ (H : Heap) (locs : List Loc), va_P D vwCl [(m0, .inr (6, [.ref m1, .int st, .ref m2, .int len, .ref m3, .int th, .int wj, .ref m4, .int rd, .int nu, .int du, .ref m5, .long hs])), (m1, .inl (kA 0, 148, .inl z)), (m2, .inl (kA 0, 888, .inl h)), (m3, .inl (kA 0, 60, .inl tx)), (m4, .inl (kA 0, 72, .inl pt)), (m5, .inl (kA 0, 148, .inl kp))] H → va_D (Aw [(m0, .inr (6, [.ref m1, .int st, .ref m2, .int len, .ref m3, .int th, .int wo, .ref m4, .int rd, .int nu, .int du, .ref m5, .long hs])), (m1, .inl (kA 0, 148, .inl z)), (m2, .inl (kA 0, 888, .inl h)), (m3, .inl (kA 0, 60, .inl tx)), (m4, .inl (kA 0, 72, .inl pt)), (m5, .inl (kA 0, 148, .inl kp))]) [(m0, .inr (6, [.ref m1, .int st, .ref m2, .int len, .ref m3, .int th, .int wj, .ref m4, .int rd, .int nu, .int du, .ref m5, .long hs])), (m1, .inl (kA 0, 148, .inl z)), (m2, .inl (kA 0, 888, .inl h)), (m3, .inl (kA 0, 60, .inl tx)), (m4, .inl (kA 0, 72, .inl pt)), (m5, .inl (kA 0, 148, .inl kp))] → va_S (Aw [(m0, .inr (6, [.ref m1, .int st, .ref m2, .int len, .ref m3, .int th, .int wo, .ref m4, .int rd, .int nu, .int du, .ref m5, .long hs])), (m1, .inl (kA 0, 148, .inl z)), (m2, .inl (kA 0, 888, .inl h)), (m3, .inl (kA 0, 60, .inl tx)), (m4, .inl (kA 0, 72, .inl pt)), (m5, .inl (kA 0, 148, .inl kp))]) s.heap H locs → ∀ ls : Array Slot, lv_has ls 7 [(0, .ref m0), (1, .int (nI a)), (2, .int p1), (3, .int x3), (4, .int x4), (5, .int x5)] → W p l e ({ frames := 4, cells := 0, slots := 0, locals := 97 } : Room) s m [.ref m0, .int (nI a), .int p1].toArray below meth c H locs 0 0 (MQ below (fQ (some (.int (woF z a p1))) D [(m0, .inr (6, [.ref m1, .int st, .ref m2, .int len, .ref m3, .int th, .int wo, .ref m4, .int rd, .int nu, .int du, .ref m5, .long hs])), (m1, .inl (kA 0, 148, .inl z)), (m2, .inl (kA 0, 888, .inl h)), (m3, .inl (kA 0, 60, .inl tx)), (m4, .inl (kA 0, 72, .inl pt)), (m5, .inl (kA 0, 148, .inl kp))] [(m0, .inr (6, [.ref m1, .int st, .ref m2, .int len, .ref m3, .int th, .int wo, .ref m4, .int rd, .int nu, .int du, .ref m5, .long hs])), (m1, .inl (kA 0, 148, .inl z)), (m2, .inl (kA 0, 888, .inl h)), (m3, .inl (kA 0, 60, .inl tx)), (m4, .inl (kA 0, 72, .inl pt)), (m5, .inl (kA 0, 148, .inl kp))]) [.ref m0, .int (nI a), .int p1].toArray s 0 0 (Aw [(m0, .inr (6, [.ref m1, .int st, .ref m2, .int len, .ref m3, .int th, .int wo, .ref m4, .int rd, .int nu, .int du, .ref m5, .long hs])), (m1, .inl (kA 0, 148, .inl z)), (m2, .inl (kA 0, 888, .inl h)), (m3, .inl (kA 0, 60, .inl tx)), (m4, .inl (kA 0, 72, .inl pt)), (m5, .inl (kA 0, 148, .inl kp))])) (F0 m 13 ls []) := by
    clear hl
    clear hP hD hS
    intro n
    induction n with
    | zero =>
      intro j x3 x4 x5 wj hj e5 hres H locs hP hD hS ls hl
      refine lv_iload hx hb dX6_worstNow_13 (lv_at hl 5 rfl) ?_
      refine lv_bipush (v := 24) hx hb dX6_worstNow_15 (by decide) ?_
      refine lv_icmp_ge (tgt := 70) hx hb dX6_worstNow_17 (by decide) (fun c_1 => ?_) (fun c_1 => ?_)
      · skip
        replace c_1 := ge_n c_1
        refine lv_aload_n hx hb dX6_worstNow_70 rfl (lv_at hl 0 rfl) ?_
        refine lv_iconst (v := (-1)) hx hb dX6_worstNow_71 (by decide) ?_
        refine va_put (ci := 6) (v := .int (-1)) (ty := tyX6 6) (C := RX6) (T := TX6) (N := 13) hx hb hts inX6 tyX6 tyX6_ok nmX6 hown hK hP hD hS 0 rfl rfl 6 (by decide) (hts _ q_776) (fun _ h9 => h9) rfl (tyX6_ok 6 (by decide)) rfl rfl (Nat.le_of_ble_eq_true rfl) dX6_worstNow_72 (fun H locs hP hD hS => ?_)
        have hP : va_P D vwCl [(m0, .inr (6, [.ref m1, .int st, .ref m2, .int len, .ref m3, .int th, .int (-1), .ref m4, .int rd, .int nu, .int du, .ref m5, .long hs])), (m1, .inl (kA 0, 148, .inl z)), (m2, .inl (kA 0, 888, .inl h)), (m3, .inl (kA 0, 60, .inl tx)), (m4, .inl (kA 0, 72, .inl pt)), (m5, .inl (kA 0, 148, .inl kp))] H := hP
        have hD : va_D (Aw [(m0, .inr (6, [.ref m1, .int st, .ref m2, .int len, .ref m3, .int th, .int wo, .ref m4, .int rd, .int nu, .int du, .ref m5, .long hs])), (m1, .inl (kA 0, 148, .inl z)), (m2, .inl (kA 0, 888, .inl h)), (m3, .inl (kA 0, 60, .inl tx)), (m4, .inl (kA 0, 72, .inl pt)), (m5, .inl (kA 0, 148, .inl kp))]) [(m0, .inr (6, [.ref m1, .int st, .ref m2, .int len, .ref m3, .int th, .int (-1), .ref m4, .int rd, .int nu, .int du, .ref m5, .long hs])), (m1, .inl (kA 0, 148, .inl z)), (m2, .inl (kA 0, 888, .inl h)), (m3, .inl (kA 0, 60, .inl tx)), (m4, .inl (kA 0, 72, .inl pt)), (m5, .inl (kA 0, 148, .inl kp))] := hD
        refine lv_iload_n hx hb dX6_worstNow_75 rfl (lv_at hl 3 rfl) ?_
        have hP : va_P D vwCl [(m0, .inr (6, [.ref m1, .int st, .ref m2, .int len, .ref m3, .int th, .int (-1), .ref m4, .int rd, .int nu, .int du, .ref m5, .long hs])), (m1, .inl (kA 0, 148, .inl z)), (m2, .inl (kA 0, 888, .inl h)), (m3, .inl (kA 0, 60, .inl tx)), (m4, .inl (kA 0, 72, .inl pt)), (m5, .inl (kA 0, 148, .inl kp))] _ := hP.sub [0, 1, 2, 3, 4, 5] rfl
        exact end_fi hx hb hrt hlk hP hS (hres) (fun hq => by rw [hwo]; exact hq) dX6_worstNow_76
      · exact absurd c_1 (fun q => q (cnt_ge (N := 24) e5 rfl (by omega) (by omega)))
    | succ n ih13 =>
      intro j x3 x4 x5 wj hj e5 hres H locs hP hD hS ls hl
      refine lv_iload hx hb dX6_worstNow_13 (lv_at hl 5 rfl) ?_
      refine lv_bipush (v := 24) hx hb dX6_worstNow_15 (by decide) ?_
      refine lv_icmp_ge (tgt := 70) hx hb dX6_worstNow_17 (by decide) (fun c_2 => ?_) (fun c_2 => ?_)
      · exact absurd c_2 (cnt_nge (N := 24) e5 rfl (by omega) (by omega))
      · skip
        replace c_2 := nge_l c_2
        refine lv_aload_n hx hb dX6_worstNow_20 rfl (lv_at hl 0 rfl) ?_
        refine lv_iload hx hb dX6_worstNow_21 (lv_at hl 5 rfl) ?_
        refine va_put (ci := 6) (v := .int x5) (ty := tyX6 6) (C := RX6) (T := TX6) (N := 13) hx hb hts inX6 tyX6 tyX6_ok nmX6 hown hK hP hD hS 0 rfl rfl 6 (by decide) (hts _ q_776) (fun _ h9 => h9) rfl (tyX6_ok 6 (by decide)) rfl rfl (Nat.le_of_ble_eq_true rfl) dX6_worstNow_23 (fun H locs hP hD hS => ?_)
        have hP : va_P D vwCl [(m0, .inr (6, [.ref m1, .int st, .ref m2, .int len, .ref m3, .int th, .int x5, .ref m4, .int rd, .int nu, .int du, .ref m5, .long hs])), (m1, .inl (kA 0, 148, .inl z)), (m2, .inl (kA 0, 888, .inl h)), (m3, .inl (kA 0, 60, .inl tx)), (m4, .inl (kA 0, 72, .inl pt)), (m5, .inl (kA 0, 148, .inl kp))] H := hP
        have hD : va_D (Aw [(m0, .inr (6, [.ref m1, .int st, .ref m2, .int len, .ref m3, .int th, .int wo, .ref m4, .int rd, .int nu, .int du, .ref m5, .long hs])), (m1, .inl (kA 0, 148, .inl z)), (m2, .inl (kA 0, 888, .inl h)), (m3, .inl (kA 0, 60, .inl tx)), (m4, .inl (kA 0, 72, .inl pt)), (m5, .inl (kA 0, 148, .inl kp))]) [(m0, .inr (6, [.ref m1, .int st, .ref m2, .int len, .ref m3, .int th, .int x5, .ref m4, .int rd, .int nu, .int du, .ref m5, .long hs])), (m1, .inl (kA 0, 148, .inl z)), (m2, .inl (kA 0, 888, .inl h)), (m3, .inl (kA 0, 60, .inl tx)), (m4, .inl (kA 0, 72, .inl pt)), (m5, .inl (kA 0, 148, .inl kp))] := hD
        refine lv_aload_n hx hb dX6_worstNow_26 rfl (lv_at hl 0 rfl) ?_
        refine lv_iload_n hx hb dX6_worstNow_27 rfl (lv_at hl 1 rfl) ?_
        refine lv_iload_n hx hb dX6_worstNow_28 rfl (lv_at hl 2 rfl) ?_
        refine cs_p (runV (As := [.int (nI a), .int p1]) (rest := []) ⟨hx, hb, hml, hown, hts⟩ (m_X6_lesserCost l D kA m0 m1 m2 m3 m4 m5 z h tx pt kp st len th x5 rd nu du hs a p1 tg (hI) (ha) (hp) (htg)) q_1083 q_1085 qp_59 q_7 q_1086 hd_X6_lesserCost ⟨rfl, rfl⟩ ⟨Nat.le_of_ble_eq_true rfl, Nat.le_of_ble_eq_true rfl⟩ hK (ws := [(m0, .inr (6, [.ref m1, .int st, .ref m2, .int len, .ref m3, .int th, .int x5, .ref m4, .int rd, .int nu, .int du, .ref m5, .long hs])), (m1, .inl (kA 0, 148, .inl z)), (m2, .inl (kA 0, 888, .inl h)), (m3, .inl (kA 0, 60, .inl tx)), (m4, .inl (kA 0, 72, .inl pt)), (m5, .inl (kA 0, 148, .inl kp))]) (hP.sub [0, 1, 2, 3, 4, 5] rfl) (hD.sub [0, 1, 2, 3, 4, 5] (by decide) rfl) 0 (ci := 6) (C := RX6) (T := TX6) (N := 13) rfl rfl rfl hl.1 rfl (Nat.le_of_ble_eq_true rfl) dX6_worstNow_29 ⟨Nat.zero_le _, Nat.zero_le _⟩) ?_
        refine lv_istore (lv' := [(6, .int (leF z a p1 x5)), (0, .ref m0), (1, .int (nI a)), (2, .int p1), (3, .int x3), (4, .int x4), (5, .int x5)]) hx hb dX6_worstNow_32 hl (by decide) rfl (fun ls hl => ?_)
        refine lv_iload hx hb dX6_worstNow_34 (lv_at hl 0 rfl) ?_
        refine lv_iload hx hb dX6_worstNow_36 (lv_at hl 5 rfl) ?_
        refine lv_icmp_ge (tgt := 46) hx hb dX6_worstNow_38 (by decide) (fun c_3 => ?_) (fun c_3 => ?_)
        · skip
          replace c_3 := ge_n c_3
          refine lv_iload_n hx hb dX6_worstNow_46 rfl (lv_at hl 4 rfl) ?_
          refine lv_istore_n (lv' := [(3, .int x3), (6, .int (leF z a p1 x5)), (0, .ref m0), (1, .int (nI a)), (2, .int p1), (4, .int x4), (5, .int x5)]) hx hb dX6_worstNow_47 rfl hl (by decide) rfl (fun ls hl => ?_)
          refine lv_iload hx hb dX6_worstNow_48 (lv_at hl 1 rfl) ?_
          refine lv_iload hx hb dX6_worstNow_50 (lv_at hl 5 rfl) ?_
          refine lv_icmp_ge (tgt := 60) hx hb dX6_worstNow_52 (by decide) (fun c_4 => ?_) (fun c_4 => ?_)
          · skip
            replace c_4 := ge_n c_4
            refine lv_iload hx hb dX6_worstNow_60 (lv_at hl 5 rfl) ?_
            refine lv_istore (lv' := [(4, .int x4), (3, .int x3), (6, .int (leF z a p1 x5)), (0, .ref m0), (1, .int (nI a)), (2, .int p1), (5, .int x5)]) hx hb dX6_worstNow_62 hl (by decide) rfl (fun ls hl => ?_)
            refine lv_iinc (v := x5 + 1) (lv' := [(5, .int (x5 + 1)), (4, .int x4), (3, .int x3), (6, .int (leF z a p1 x5)), (0, .ref m0), (1, .int (nI a)), (2, .int p1)]) hx hb dX6_worstNow_64 hl (k := 6) rfl (by first | rfl | exact congrArg (_ + ·) (by decide)) (by decide) rfl (fun ls hl => ?_)
            refine lv_goto (tgt := 13) hx hb dX6_worstNow_67 (by decide) ?_
            exact ih13 (j + 1) x3 x4 (x5 + 1) x5 (by omega) (by rw [e5]; exact nI_1 j) (by rw [← hres, woL, if_neg c_3]) _ _ (hP.sub [0, 1, 2, 3, 4, 5] rfl) (hD.sub [0, 1, 2, 3, 4, 5] (by decide) rfl) hS ls (lv_sub hl [4, 5, 6, 2, 1, 0] rfl)
          · exact absurd (nge_l c_4) c_3
        · skip
          replace c_3 := nge_l c_3
          refine lv_iload hx hb dX6_worstNow_41 (lv_at hl 6 rfl) ?_
          refine lv_goto (tgt := 47) hx hb dX6_worstNow_43 (by decide) ?_
          refine lv_istore_n (lv' := [(3, .int x5), (6, .int (leF z a p1 x5)), (0, .ref m0), (1, .int (nI a)), (2, .int p1), (4, .int x4), (5, .int x5)]) hx hb dX6_worstNow_47 rfl hl (by decide) rfl (fun ls hl => ?_)
          refine lv_iload hx hb dX6_worstNow_48 (lv_at hl 1 rfl) ?_
          refine lv_iload hx hb dX6_worstNow_50 (lv_at hl 5 rfl) ?_
          refine lv_icmp_ge (tgt := 60) hx hb dX6_worstNow_52 (by decide) (fun c_5 => ?_) (fun c_5 => ?_)
          · exact absurd c_3 (ge_n c_5)
          · skip
            replace c_5 := nge_l c_5
            refine lv_iload hx hb dX6_worstNow_55 (lv_at hl 1 rfl) ?_
            refine lv_goto (tgt := 62) hx hb dX6_worstNow_57 (by decide) ?_
            refine lv_istore (lv' := [(4, .int (leF z a p1 x5)), (3, .int x5), (6, .int (leF z a p1 x5)), (0, .ref m0), (1, .int (nI a)), (2, .int p1), (5, .int x5)]) hx hb dX6_worstNow_62 hl (by decide) rfl (fun ls hl => ?_)
            refine lv_iinc (v := x5 + 1) (lv' := [(5, .int (x5 + 1)), (4, .int (leF z a p1 x5)), (3, .int x5), (6, .int (leF z a p1 x5)), (0, .ref m0), (1, .int (nI a)), (2, .int p1)]) hx hb dX6_worstNow_64 hl (k := 6) rfl (by first | rfl | exact congrArg (_ + ·) (by decide)) (by decide) rfl (fun ls hl => ?_)
            refine lv_goto (tgt := 13) hx hb dX6_worstNow_67 (by decide) ?_
            exact ih13 (j + 1) x5 (leF z a p1 x5) (x5 + 1) x5 (by omega) (by rw [e5]; exact nI_1 j) (by rw [← hres, woL, if_pos c_3]) _ _ (hP.sub [0, 1, 2, 3, 4, 5] rfl) (hD.sub [0, 1, 2, 3, 4, 5] (by decide) rfl) hS ls (lv_sub hl [4, 5, 6, 2, 1, 0] rfl)
  exact loop_13 24 0 (-1) (leF z a p1 wo) 0 wo (by omega) (nI_0.symm) (by rw [hwo]; rfl) _ _ (hP.sub [0, 1, 2, 3, 4, 5] rfl) (hD.sub [0, 1, 2, 3, 4, 5] (by decide) rfl) hS ls (lv_sub hl [3, 4, 5, 2, 1, 0] rfl)

theorem hd_X6_worst : yX6_worst.cls ≠ "java/lang/invoke/MethodHandle" ∧ yX6_worst.cls ≠ "java/lang/invoke/VarHandle" ∧ (parseMethodDescriptor yX6_worst.desc).map (fun d => d.parameters.length) = some 2 := by decide +kernel
set_option maxRecDepth 100000 in
set_option maxHeartbeats 4000000 in
theorem m_X6_worst (l : Launch) (D : va_G) (kA : Nat → Nat) (m0 : Nat) (m1 : Nat) (m2 : Nat) (m3 : Nat) (m4 : Nat) (m5 : Nat) (z : Nat → Int32) (h : Nat → Int32) (tx : Nat → Int32) (pt : Nat → Int32) (kp : Nat → Int32) (st : Int32) (len : Int32) (th : Int32) (wo : Int32) (rd : Int32) (nu : Int32) (du : Int32) (hs : Int64) (p0 : Int32) (p1 : Int32) (hI : Inv z) (hwo : wo = -1) : Met l yX6_worst (Cond.code yX6_worst cX6_worst 3 (some .int) :: AW) ({ frames := 5, cells := 0, slots := 0, locals := 123 } : Room) (Pz [.ref m0, .int p0, .int p1] D (TY kA) [(m0, .inr (6, [.ref m1, .int st, .ref m2, .int len, .ref m3, .int th, .int wo, .ref m4, .int rd, .int nu, .int du, .ref m5, .long hs])), (m1, .inl (kA 0, 148, .inl z)), (m2, .inl (kA 0, 888, .inl h)), (m3, .inl (kA 0, 60, .inl tx)), (m4, .inl (kA 0, 72, .inl pt)), (m5, .inl (kA 0, 148, .inl kp))]) (fQ (some (.int (if coT p0 p1 = 0 then woF z p0.toNatClampNeg p1 else 0))) D [(m0, .inr (6, [.ref m1, .int st, .ref m2, .int len, .ref m3, .int th, .int wo, .ref m4, .int rd, .int nu, .int du, .ref m5, .long hs])), (m1, .inl (kA 0, 148, .inl z)), (m2, .inl (kA 0, 888, .inl h)), (m3, .inl (kA 0, 60, .inl tx)), (m4, .inl (kA 0, 72, .inl pt)), (m5, .inl (kA 0, 148, .inl kp))] [(m0, .inr (6, [.ref m1, .int st, .ref m2, .int len, .ref m3, .int (coT p0 p1), .int wo, .ref m4, .int rd, .int nu, .int du, .ref m5, .long hs])), (m1, .inl (kA 0, 148, .inl z)), (m2, .inl (kA 0, 888, .inl h)), (m3, .inl (kA 0, 60, .inl tx)), (m4, .inl (kA 0, 72, .inl pt)), (m5, .inl (kA 0, 148, .inl kp))]) 0 0 (Aw [(m0, .inr (6, [.ref m1, .int st, .ref m2, .int len, .ref m3, .int th, .int wo, .ref m4, .int rd, .int nu, .int du, .ref m5, .long hs])), (m1, .inl (kA 0, 148, .inl z)), (m2, .inl (kA 0, 888, .inl h)), (m3, .inl (kA 0, 60, .inl tx)), (m4, .inl (kA 0, 72, .inl pt)), (m5, .inl (kA 0, 148, .inl kp))]) := by
  refine MetZ (by decide +kernel) (Nat.le_of_ble_eq_true rfl) ?_
  intro p e s m below meth c ls hx hb hrt hts hown hml hlk hnm hP hK hD hS hl
  have hl : lv_has ls 3 [(0, .ref m0), (1, .int p0), (2, .int p1)] := hl
  refine lv_aload_n hx hb dX6_worst_0 rfl (lv_at hl 0 rfl) ?_
  refine lv_iload_n hx hb dX6_worst_1 rfl (lv_at hl 1 rfl) ?_
  refine cs_p (runS (As := [.int p0]) (rest := [.ref m0]) ⟨hx, hb, hml, hown, hts⟩ (m_X6_isAxis l D kA p0 ) q_830 q_831 q_7 q_832 hd_X6_isAxis ⟨rfl, rfl⟩ ⟨Nat.le_of_ble_eq_true rfl, Nat.le_of_ble_eq_true rfl⟩ hK (ws := []) (hP.sub [] rfl) (hD.sub [] (by decide) rfl) rfl hl.1 rfl (Nat.le_of_ble_eq_true rfl) dX6_worst_2 ⟨Nat.zero_le _, Nat.zero_le _⟩) ?_
  refine lv_if_ne (tgt := 12) hx hb dX6_worst_5 (by decide) (fun c_1 => ?_) (fun c_1 => ?_)
  · skip
    replace c_1 := bI_n0 c_1
    obtain ⟨a, haa, epa, eca⟩ := wi_ex c_1 (N := 3) rfl
    rw [epa] at hl
    have ha : a < 4 := haa
    refine lv_iload_n hx hb dX6_worst_12 rfl (lv_at hl 2 rfl) ?_
    refine cs_p (runS (As := [.int p1]) (rest := [.ref m0]) ⟨hx, hb, hml, hown, hts⟩ (m_X6_isPlace l D kA p1 ) q_897 q_898 q_7 q_899 hd_X6_isPlace ⟨rfl, rfl⟩ ⟨Nat.le_of_ble_eq_true rfl, Nat.le_of_ble_eq_true rfl⟩ hK (ws := []) (hP.sub [] rfl) (hD.sub [] (by decide) rfl) rfl hl.1 rfl (Nat.le_of_ble_eq_true rfl) dX6_worst_13 ⟨Nat.zero_le _, Nat.zero_le _⟩) ?_
    refine lv_if_eq (tgt := 23) hx hb dX6_worst_16 (by decide) (fun c_2 => ?_) (fun c_2 => ?_)
    · skip
      replace c_2 := bI_0.mp c_2
      refine lv_iconst (v := 2) hx hb dX6_worst_23 (by decide) ?_
      refine va_put (ci := 6) (v := .int 2) (ty := tyX6 5) (C := RX6) (T := TX6) (N := 13) hx hb hts inX6 tyX6 tyX6_ok nmX6 hown hK hP hD hS 0 rfl rfl 5 (by decide) (hts _ q_775) (fun _ h9 => h9) rfl (tyX6_ok 5 (by decide)) rfl rfl (Nat.le_of_ble_eq_true rfl) dX6_worst_24 (fun H locs hP hD hS => ?_)
      have hP : va_P D vwCl [(m0, .inr (6, [.ref m1, .int st, .ref m2, .int len, .ref m3, .int 2, .int wo, .ref m4, .int rd, .int nu, .int du, .ref m5, .long hs])), (m1, .inl (kA 0, 148, .inl z)), (m2, .inl (kA 0, 888, .inl h)), (m3, .inl (kA 0, 60, .inl tx)), (m4, .inl (kA 0, 72, .inl pt)), (m5, .inl (kA 0, 148, .inl kp))] H := hP
      have hD : va_D (Aw [(m0, .inr (6, [.ref m1, .int st, .ref m2, .int len, .ref m3, .int th, .int wo, .ref m4, .int rd, .int nu, .int du, .ref m5, .long hs])), (m1, .inl (kA 0, 148, .inl z)), (m2, .inl (kA 0, 888, .inl h)), (m3, .inl (kA 0, 60, .inl tx)), (m4, .inl (kA 0, 72, .inl pt)), (m5, .inl (kA 0, 148, .inl kp))]) [(m0, .inr (6, [.ref m1, .int st, .ref m2, .int len, .ref m3, .int 2, .int wo, .ref m4, .int rd, .int nu, .int du, .ref m5, .long hs])), (m1, .inl (kA 0, 148, .inl z)), (m2, .inl (kA 0, 888, .inl h)), (m3, .inl (kA 0, 60, .inl tx)), (m4, .inl (kA 0, 72, .inl pt)), (m5, .inl (kA 0, 148, .inl kp))] := hD
      refine lv_aload_n hx hb dX6_worst_27 rfl (lv_at hl 0 rfl) ?_
      refine va_get (ci := 6) (v := .int 2) (C := RX6) (T := TX6) (N := 13) hx hb hts inX6 hown hK hP 0 rfl rfl 5 (by decide) (hts _ q_775) (fun _ h9 => h9) rfl dX6_worst_28 ?_
      refine lv_if_le (tgt := 38) hx hb dX6_worst_31 (by decide) (fun c_3 => ?_) (fun c_3 => ?_)
      · exact absurd c_3 (by decide)
      · skip
        replace c_3 := nge_l c_3
        refine lv_iconst (v := 0) hx hb dX6_worst_34 (by decide) ?_
        refine lv_goto (tgt := 44) hx hb dX6_worst_35 (by decide) ?_
        have hP : va_P D vwCl [(m0, .inr (6, [.ref m1, .int st, .ref m2, .int len, .ref m3, .int 2, .int wo, .ref m4, .int rd, .int nu, .int du, .ref m5, .long hs])), (m1, .inl (kA 0, 148, .inl z)), (m2, .inl (kA 0, 888, .inl h)), (m3, .inl (kA 0, 60, .inl tx)), (m4, .inl (kA 0, 72, .inl pt)), (m5, .inl (kA 0, 148, .inl kp))] _ := hP.sub [0, 1, 2, 3, 4, 5] rfl
        exact end_fi hx hb hrt hlk hP hS (by have hT : coT p0 p1 = 2 := (by rw [coT, if_pos c_1, if_neg (by rw [c_2]; decide)]); rw [hT, if_neg (by decide)]) (fun hq => by have hT : coT p0 p1 = 2 := (by rw [coT, if_pos c_1, if_neg (by rw [c_2]; decide)]); rw [hT]; exact hq) dX6_worst_44
    · skip
      replace c_2 := bI_n0 c_2
      obtain ⟨t, hat, ept, ect⟩ := wi_ex c_2 (N := 23) rfl
      rw [ept] at hl
      refine lv_iconst (v := 0) hx hb dX6_worst_19 (by decide) ?_
      refine lv_goto (tgt := 24) hx hb dX6_worst_20 (by decide) ?_
      refine va_put (ci := 6) (v := .int 0) (ty := tyX6 5) (C := RX6) (T := TX6) (N := 13) hx hb hts inX6 tyX6 tyX6_ok nmX6 hown hK hP hD hS 0 rfl rfl 5 (by decide) (hts _ q_775) (fun _ h9 => h9) rfl (tyX6_ok 5 (by decide)) rfl rfl (Nat.le_of_ble_eq_true rfl) dX6_worst_24 (fun H locs hP hD hS => ?_)
      have hP : va_P D vwCl [(m0, .inr (6, [.ref m1, .int st, .ref m2, .int len, .ref m3, .int 0, .int wo, .ref m4, .int rd, .int nu, .int du, .ref m5, .long hs])), (m1, .inl (kA 0, 148, .inl z)), (m2, .inl (kA 0, 888, .inl h)), (m3, .inl (kA 0, 60, .inl tx)), (m4, .inl (kA 0, 72, .inl pt)), (m5, .inl (kA 0, 148, .inl kp))] H := hP
      have hD : va_D (Aw [(m0, .inr (6, [.ref m1, .int st, .ref m2, .int len, .ref m3, .int th, .int wo, .ref m4, .int rd, .int nu, .int du, .ref m5, .long hs])), (m1, .inl (kA 0, 148, .inl z)), (m2, .inl (kA 0, 888, .inl h)), (m3, .inl (kA 0, 60, .inl tx)), (m4, .inl (kA 0, 72, .inl pt)), (m5, .inl (kA 0, 148, .inl kp))]) [(m0, .inr (6, [.ref m1, .int st, .ref m2, .int len, .ref m3, .int 0, .int wo, .ref m4, .int rd, .int nu, .int du, .ref m5, .long hs])), (m1, .inl (kA 0, 148, .inl z)), (m2, .inl (kA 0, 888, .inl h)), (m3, .inl (kA 0, 60, .inl tx)), (m4, .inl (kA 0, 72, .inl pt)), (m5, .inl (kA 0, 148, .inl kp))] := hD
      refine lv_aload_n hx hb dX6_worst_27 rfl (lv_at hl 0 rfl) ?_
      refine va_get (ci := 6) (v := .int 0) (C := RX6) (T := TX6) (N := 13) hx hb hts inX6 hown hK hP 0 rfl rfl 5 (by decide) (hts _ q_775) (fun _ h9 => h9) rfl dX6_worst_28 ?_
      refine lv_if_le (tgt := 38) hx hb dX6_worst_31 (by decide) (fun c_4 => ?_) (fun c_4 => ?_)
      · skip
        replace c_4 := ge_n c_4
        refine lv_aload_n hx hb dX6_worst_38 rfl (lv_at hl 0 rfl) ?_
        refine lv_iload_n hx hb dX6_worst_39 rfl (lv_at hl 1 rfl) ?_
        refine lv_iload_n hx hb dX6_worst_40 rfl (lv_at hl 2 rfl) ?_
        refine cs_fs (runV (As := [.int (nI a), .int (nI t)]) (rest := []) ⟨hx, hb, hml, hown, hts⟩ (m_X6_worstNow l D kA m0 m1 m2 m3 m4 m5 z h tx pt kp st len 0 wo rd nu du hs a (nI t) t (hI) (ha) (rfl) (hat) (hwo)) q_1079 q_1081 qp_58 q_7 q_1082 hd_X6_worstNow ⟨rfl, rfl⟩ ⟨Nat.le_of_ble_eq_true rfl, Nat.le_of_ble_eq_true rfl⟩ hK (ws := [(m0, .inr (6, [.ref m1, .int st, .ref m2, .int len, .ref m3, .int 0, .int wo, .ref m4, .int rd, .int nu, .int du, .ref m5, .long hs])), (m1, .inl (kA 0, 148, .inl z)), (m2, .inl (kA 0, 888, .inl h)), (m3, .inl (kA 0, 60, .inl tx)), (m4, .inl (kA 0, 72, .inl pt)), (m5, .inl (kA 0, 148, .inl kp))]) (hP.sub [0, 1, 2, 3, 4, 5] rfl) (hD.sub [0, 1, 2, 3, 4, 5] (by decide) rfl) 0 (ci := 6) (C := RX6) (T := TX6) (N := 13) rfl rfl rfl hl.1 rfl (Nat.le_of_ble_eq_true rfl) dX6_worst_41 ⟨Nat.zero_le _, Nat.zero_le _⟩) hS (aw_sub hD (isC := [0, 1, 2, 3, 4, 5]) rfl) (fun H locs hP1 hk1 hS => ?_)
        obtain ⟨hP, hD⟩ := jn (wr := []) (w1 := [(m0, .inr (6, [.ref m1, .int st, .ref m2, .int len, .ref m3, .int 0, .int wo, .ref m4, .int rd, .int nu, .int du, .ref m5, .long hs])), (m1, .inl (kA 0, 148, .inl z)), (m2, .inl (kA 0, 888, .inl h)), (m3, .inl (kA 0, 60, .inl tx)), (m4, .inl (kA 0, 72, .inl pt)), (m5, .inl (kA 0, 148, .inl kp))]) hP hD [0, 1, 2, 3, 4, 5] [] rfl rfl (by decide) hk1 hP1 rfl
        have hP : va_P D vwCl [(m0, .inr (6, [.ref m1, .int st, .ref m2, .int len, .ref m3, .int 0, .int wo, .ref m4, .int rd, .int nu, .int du, .ref m5, .long hs])), (m1, .inl (kA 0, 148, .inl z)), (m2, .inl (kA 0, 888, .inl h)), (m3, .inl (kA 0, 60, .inl tx)), (m4, .inl (kA 0, 72, .inl pt)), (m5, .inl (kA 0, 148, .inl kp))] H := hP
        have hD : va_D (Aw [(m0, .inr (6, [.ref m1, .int st, .ref m2, .int len, .ref m3, .int th, .int wo, .ref m4, .int rd, .int nu, .int du, .ref m5, .long hs])), (m1, .inl (kA 0, 148, .inl z)), (m2, .inl (kA 0, 888, .inl h)), (m3, .inl (kA 0, 60, .inl tx)), (m4, .inl (kA 0, 72, .inl pt)), (m5, .inl (kA 0, 148, .inl kp))]) [(m0, .inr (6, [.ref m1, .int st, .ref m2, .int len, .ref m3, .int 0, .int wo, .ref m4, .int rd, .int nu, .int du, .ref m5, .long hs])), (m1, .inl (kA 0, 148, .inl z)), (m2, .inl (kA 0, 888, .inl h)), (m3, .inl (kA 0, 60, .inl tx)), (m4, .inl (kA 0, 72, .inl pt)), (m5, .inl (kA 0, 148, .inl kp))] := hD
        have hP : va_P D vwCl [(m0, .inr (6, [.ref m1, .int st, .ref m2, .int len, .ref m3, .int 0, .int wo, .ref m4, .int rd, .int nu, .int du, .ref m5, .long hs])), (m1, .inl (kA 0, 148, .inl z)), (m2, .inl (kA 0, 888, .inl h)), (m3, .inl (kA 0, 60, .inl tx)), (m4, .inl (kA 0, 72, .inl pt)), (m5, .inl (kA 0, 148, .inl kp))] _ := hP.sub [0, 1, 2, 3, 4, 5] rfl
        exact end_fi hx hb hrt hlk hP hS (by have hT : coT p0 p1 = 0 := (by rw [coT, if_pos c_1, if_pos c_2]); rw [hT, if_pos rfl, eca, ept]) (fun hq => by have hT : coT p0 p1 = 0 := (by rw [coT, if_pos c_1, if_pos c_2]); rw [hT]; exact hq) dX6_worst_44
      · exact absurd c_4 (by decide)
  · skip
    replace c_1 := bI_0.mp c_1
    refine lv_iconst (v := 1) hx hb dX6_worst_8 (by decide) ?_
    refine lv_goto (tgt := 24) hx hb dX6_worst_9 (by decide) ?_
    refine va_put (ci := 6) (v := .int 1) (ty := tyX6 5) (C := RX6) (T := TX6) (N := 13) hx hb hts inX6 tyX6 tyX6_ok nmX6 hown hK hP hD hS 0 rfl rfl 5 (by decide) (hts _ q_775) (fun _ h9 => h9) rfl (tyX6_ok 5 (by decide)) rfl rfl (Nat.le_of_ble_eq_true rfl) dX6_worst_24 (fun H locs hP hD hS => ?_)
    have hP : va_P D vwCl [(m0, .inr (6, [.ref m1, .int st, .ref m2, .int len, .ref m3, .int 1, .int wo, .ref m4, .int rd, .int nu, .int du, .ref m5, .long hs])), (m1, .inl (kA 0, 148, .inl z)), (m2, .inl (kA 0, 888, .inl h)), (m3, .inl (kA 0, 60, .inl tx)), (m4, .inl (kA 0, 72, .inl pt)), (m5, .inl (kA 0, 148, .inl kp))] H := hP
    have hD : va_D (Aw [(m0, .inr (6, [.ref m1, .int st, .ref m2, .int len, .ref m3, .int th, .int wo, .ref m4, .int rd, .int nu, .int du, .ref m5, .long hs])), (m1, .inl (kA 0, 148, .inl z)), (m2, .inl (kA 0, 888, .inl h)), (m3, .inl (kA 0, 60, .inl tx)), (m4, .inl (kA 0, 72, .inl pt)), (m5, .inl (kA 0, 148, .inl kp))]) [(m0, .inr (6, [.ref m1, .int st, .ref m2, .int len, .ref m3, .int 1, .int wo, .ref m4, .int rd, .int nu, .int du, .ref m5, .long hs])), (m1, .inl (kA 0, 148, .inl z)), (m2, .inl (kA 0, 888, .inl h)), (m3, .inl (kA 0, 60, .inl tx)), (m4, .inl (kA 0, 72, .inl pt)), (m5, .inl (kA 0, 148, .inl kp))] := hD
    refine lv_aload_n hx hb dX6_worst_27 rfl (lv_at hl 0 rfl) ?_
    refine va_get (ci := 6) (v := .int 1) (C := RX6) (T := TX6) (N := 13) hx hb hts inX6 hown hK hP 0 rfl rfl 5 (by decide) (hts _ q_775) (fun _ h9 => h9) rfl dX6_worst_28 ?_
    refine lv_if_le (tgt := 38) hx hb dX6_worst_31 (by decide) (fun c_5 => ?_) (fun c_5 => ?_)
    · exact absurd c_5 (by decide)
    · skip
      replace c_5 := nge_l c_5
      refine lv_iconst (v := 0) hx hb dX6_worst_34 (by decide) ?_
      refine lv_goto (tgt := 44) hx hb dX6_worst_35 (by decide) ?_
      have hP : va_P D vwCl [(m0, .inr (6, [.ref m1, .int st, .ref m2, .int len, .ref m3, .int 1, .int wo, .ref m4, .int rd, .int nu, .int du, .ref m5, .long hs])), (m1, .inl (kA 0, 148, .inl z)), (m2, .inl (kA 0, 888, .inl h)), (m3, .inl (kA 0, 60, .inl tx)), (m4, .inl (kA 0, 72, .inl pt)), (m5, .inl (kA 0, 148, .inl kp))] _ := hP.sub [0, 1, 2, 3, 4, 5] rfl
      exact end_fi hx hb hrt hlk hP hS (by have hT : coT p0 p1 = 1 := (by rw [coT, if_neg (by rw [c_1]; decide)]); rw [hT, if_neg (by decide)]) (fun hq => by have hT : coT p0 p1 = 1 := (by rw [coT, if_neg (by rw [c_1]; decide)]); rw [hT]; exact hq) dX6_worst_44
