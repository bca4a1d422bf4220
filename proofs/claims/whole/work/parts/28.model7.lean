theorem hd_X6_takesSign : yX6_takesSign.cls ≠ "java/lang/invoke/MethodHandle" ∧ yX6_takesSign.cls ≠ "java/lang/invoke/VarHandle" ∧ (parseMethodDescriptor yX6_takesSign.desc).map (fun d => d.parameters.length) = some 1 := by decide +kernel
set_option maxRecDepth 100000 in
set_option maxHeartbeats 4000000 in
theorem m_X6_takesSign (l : Launch) (D : va_G) (kA : Nat → Nat) (m0 : Nat) (m1 : Nat) (m2 : Nat) (m3 : Nat) (m4 : Nat) (m5 : Nat) (z : Nat → Int32) (h : Nat → Int32) (tx : Nat → Int32) (pt : Nat → Int32) (kp : Nat → Int32) (st : Int32) (len : Int32) (th : Int32) (wo : Int32) (rd : Int32) (nu : Int32) (du : Int32) (hs : Int64) (nr : Nat) (p0 : Int32) (hrd : rd = nI nr) (hnr : nr < 23) : Met l yX6_takesSign (Cond.code yX6_takesSign cX6_takesSign 2 (some .boolean) :: AW) ({ frames := 0, cells := 0, slots := 0, locals := 0 } : Room) (Pz [.ref m0, .int p0] D (TY kA) [(m0, .inr (6, [.ref m1, .int st, .ref m2, .int len, .ref m3, .int th, .int wo, .ref m4, .int rd, .int nu, .int du, .ref m5, .long hs])), (m1, .inl (kA 0, 148, .inl z)), (m2, .inl (kA 0, 888, .inl h)), (m3, .inl (kA 0, 60, .inl tx)), (m4, .inl (kA 0, 72, .inl pt)), (m5, .inl (kA 0, 148, .inl kp))]) (fQ (some (.int (bI (sgB p0)))) D [(m0, .inr (6, [.ref m1, .int st, .ref m2, .int len, .ref m3, .int th, .int wo, .ref m4, .int rd, .int nu, .int du, .ref m5, .long hs])), (m1, .inl (kA 0, 148, .inl z)), (m2, .inl (kA 0, 888, .inl h)), (m3, .inl (kA 0, 60, .inl tx)), (m4, .inl (kA 0, 72, .inl pt)), (m5, .inl (kA 0, 148, .inl kp))] [(m0, .inr (6, [.ref m1, .int st, .ref m2, .int len, .ref m3, .int th, .int wo, .ref m4, .int rd, .int nu, .int (sgD p0), .ref m5, .long hs])), (m1, .inl (kA 0, 148, .inl z)), (m2, .inl (kA 0, 888, .inl h)), (m3, .inl (kA 0, 60, .inl tx)), (m4, .inl (kA 0, 72, .inl (upd pt (3 * nr + 1) p0))), (m5, .inl (kA 0, 148, .inl kp))]) 0 0 (Aw [(m0, .inr (6, [.ref m1, .int st, .ref m2, .int len, .ref m3, .int th, .int wo, .ref m4, .int rd, .int nu, .int du, .ref m5, .long hs])), (m1, .inl (kA 0, 148, .inl z)), (m2, .inl (kA 0, 888, .inl h)), (m3, .inl (kA 0, 60, .inl tx)), (m4, .inl (kA 0, 72, .inl pt)), (m5, .inl (kA 0, 148, .inl kp))]) := by
  refine MetZ (by decide +kernel) (Nat.le_of_ble_eq_true rfl) ?_
  intro p e s m below meth c ls hx hb hrt hts hown hml hlk hnm hP hK hD hS hl
  have hl : lv_has ls 2 [(0, .ref m0), (1, .int p0)] := hl
  refine lv_aload_n hx hb dX6_takesSign_0 rfl (lv_at hl 0 rfl) ?_
  refine va_get (ci := 6) (v := .ref m4) (C := RX6) (T := TX6) (N := 13) hx hb hts inX6 hown hK hP 0 rfl rfl 7 (by decide) (hts _ q_777) (fun _ h9 => h9) rfl dX6_takesSign_1 ?_
  refine lv_iconst (v := 3) hx hb dX6_takesSign_4 (by decide) ?_
  refine lv_aload_n hx hb dX6_takesSign_5 rfl (lv_at hl 0 rfl) ?_
  refine va_get (ci := 6) (v := .int rd) (C := RX6) (T := TX6) (N := 13) hx hb hts inX6 hown hK hP 0 rfl rfl 8 (by decide) (hts _ q_778) (fun _ h9 => h9) rfl dX6_takesSign_6 ?_
  refine lv_imul hx hb dX6_takesSign_9 ?_
  refine lv_iconst (v := 1) hx hb dX6_takesSign_10 (by decide) ?_
  refine lv_iadd hx hb dX6_takesSign_11 ?_
  refine lv_iload_n hx hb dX6_takesSign_12 rfl (lv_at hl 1 rfl) ?_
  refine va_iast (f := pt) hx hb hK hP hD hS 4 0 rfl rfl (in_nI (ix31 hrd) (by omega) (by decide)) dX6_takesSign_13 (fun H locs hP hD hS => ?_)
  have hP : va_P D vwCl [(m0, .inr (6, [.ref m1, .int st, .ref m2, .int len, .ref m3, .int th, .int wo, .ref m4, .int rd, .int nu, .int du, .ref m5, .long hs])), (m1, .inl (kA 0, 148, .inl z)), (m2, .inl (kA 0, 888, .inl h)), (m3, .inl (kA 0, 60, .inl tx)), (m4, .inl (kA 0, 72, .inl (upd pt ((3 * rd) + 1).toNatClampNeg p0))), (m5, .inl (kA 0, 148, .inl kp))] H := hP
  have hD : va_D (Aw [(m0, .inr (6, [.ref m1, .int st, .ref m2, .int len, .ref m3, .int th, .int wo, .ref m4, .int rd, .int nu, .int du, .ref m5, .long hs])), (m1, .inl (kA 0, 148, .inl z)), (m2, .inl (kA 0, 888, .inl h)), (m3, .inl (kA 0, 60, .inl tx)), (m4, .inl (kA 0, 72, .inl pt)), (m5, .inl (kA 0, 148, .inl kp))]) [(m0, .inr (6, [.ref m1, .int st, .ref m2, .int len, .ref m3, .int th, .int wo, .ref m4, .int rd, .int nu, .int du, .ref m5, .long hs])), (m1, .inl (kA 0, 148, .inl z)), (m2, .inl (kA 0, 888, .inl h)), (m3, .inl (kA 0, 60, .inl tx)), (m4, .inl (kA 0, 72, .inl (upd pt ((3 * rd) + 1).toNatClampNeg p0))), (m5, .inl (kA 0, 148, .inl kp))] := hD
  refine lv_aload_n hx hb dX6_takesSign_14 rfl (lv_at hl 0 rfl) ?_
  refine lv_iload_n hx hb dX6_takesSign_15 rfl (lv_at hl 1 rfl) ?_
  refine lv_bipush (v := 104) hx hb dX6_takesSign_16 (by decide) ?_
  refine lv_icmp_eq (tgt := 27) hx hb dX6_takesSign_18 (by decide) (fun c_1 => ?_) (fun c_1 => ?_)
  · skip
    refine lv_iconst (v := 3) hx hb dX6_takesSign_27 (by decide) ?_
    refine lv_goto (tgt := 32) hx hb dX6_takesSign_28 (by decide) ?_
    refine va_put (ci := 6) (v := .int 3) (ty := tyX6 10) (C := RX6) (T := TX6) (N := 13) hx hb hts inX6 tyX6 tyX6_ok nmX6 hown hK hP hD hS 0 rfl rfl 10 (by decide) (hts _ q_780) (fun _ h9 => h9) rfl (tyX6_ok 10 (by decide)) rfl rfl (Nat.le_of_ble_eq_true rfl) dX6_takesSign_32 (fun H locs hP hD hS => ?_)
    have hP : va_P D vwCl [(m0, .inr (6, [.ref m1, .int st, .ref m2, .int len, .ref m3, .int th, .int wo, .ref m4, .int rd, .int nu, .int 3, .ref m5, .long hs])), (m1, .inl (kA 0, 148, .inl z)), (m2, .inl (kA 0, 888, .inl h)), (m3, .inl (kA 0, 60, .inl tx)), (m4, .inl (kA 0, 72, .inl (upd pt ((3 * rd) + 1).toNatClampNeg p0))), (m5, .inl (kA 0, 148, .inl kp))] H := hP
    have hD : va_D (Aw [(m0, .inr (6, [.ref m1, .int st, .ref m2, .int len, .ref m3, .int th, .int wo, .ref m4, .int rd, .int nu, .int du, .ref m5, .long hs])), (m1, .inl (kA 0, 148, .inl z)), (m2, .inl (kA 0, 888, .inl h)), (m3, .inl (kA 0, 60, .inl tx)), (m4, .inl (kA 0, 72, .inl pt)), (m5, .inl (kA 0, 148, .inl kp))]) [(m0, .inr (6, [.ref m1, .int st, .ref m2, .int len, .ref m3, .int th, .int wo, .ref m4, .int rd, .int nu, .int 3, .ref m5, .long hs])), (m1, .inl (kA 0, 148, .inl z)), (m2, .inl (kA 0, 888, .inl h)), (m3, .inl (kA 0, 60, .inl tx)), (m4, .inl (kA 0, 72, .inl (upd pt ((3 * rd) + 1).toNatClampNeg p0))), (m5, .inl (kA 0, 148, .inl kp))] := hD
    refine lv_iload_n hx hb dX6_takesSign_35 rfl (lv_at hl 1 rfl) ?_
    refine lv_bipush (v := 43) hx hb dX6_takesSign_36 (by decide) ?_
    refine lv_icmp_eq (tgt := 65) hx hb dX6_takesSign_38 (by decide) (fun c_2 => ?_) (fun c_2 => ?_)
    · skip
      refine lv_iconst (v := 1) hx hb dX6_takesSign_65 (by decide) ?_
      refine lv_goto (tgt := 70) hx hb dX6_takesSign_66 (by decide) ?_
      have hP : va_P D vwCl [(m0, .inr (6, [.ref m1, .int st, .ref m2, .int len, .ref m3, .int th, .int wo, .ref m4, .int rd, .int nu, .int 3, .ref m5, .long hs])), (m1, .inl (kA 0, 148, .inl z)), (m2, .inl (kA 0, 888, .inl h)), (m3, .inl (kA 0, 60, .inl tx)), (m4, .inl (kA 0, 72, .inl (upd pt ((3 * rd) + 1).toNatClampNeg p0))), (m5, .inl (kA 0, 148, .inl kp))] _ := hP.sub [0, 1, 2, 3, 4, 5] rfl
      exact end_fz hx hb hrt hlk (by decide) hP hS (by rw [sgB, if_pos c_2]; rfl) (fun hq => by rw [clamp_j (ix31 hrd) (by omega)] at hq; rw [sgD, if_pos c_1]; exact hq) dX6_takesSign_70
    · skip
      refine lv_iload_n hx hb dX6_takesSign_41 rfl (lv_at hl 1 rfl) ?_
      refine lv_bipush (v := 45) hx hb dX6_takesSign_42 (by decide) ?_
      refine lv_icmp_eq (tgt := 65) hx hb dX6_takesSign_44 (by decide) (fun c_3 => ?_) (fun c_3 => ?_)
      · skip
        refine lv_iconst (v := 1) hx hb dX6_takesSign_65 (by decide) ?_
        refine lv_goto (tgt := 70) hx hb dX6_takesSign_66 (by decide) ?_
        have hP : va_P D vwCl [(m0, .inr (6, [.ref m1, .int st, .ref m2, .int len, .ref m3, .int th, .int wo, .ref m4, .int rd, .int nu, .int 3, .ref m5, .long hs])), (m1, .inl (kA 0, 148, .inl z)), (m2, .inl (kA 0, 888, .inl h)), (m3, .inl (kA 0, 60, .inl tx)), (m4, .inl (kA 0, 72, .inl (upd pt ((3 * rd) + 1).toNatClampNeg p0))), (m5, .inl (kA 0, 148, .inl kp))] _ := hP.sub [0, 1, 2, 3, 4, 5] rfl
        exact end_fz hx hb hrt hlk (by decide) hP hS (by rw [sgB, if_neg c_2, if_pos c_3]; rfl) (fun hq => by rw [clamp_j (ix31 hrd) (by omega)] at hq; rw [sgD, if_pos c_1]; exact hq) dX6_takesSign_70
      · skip
        refine lv_iload_n hx hb dX6_takesSign_47 rfl (lv_at hl 1 rfl) ?_
        refine lv_bipush (v := 61) hx hb dX6_takesSign_48 (by decide) ?_
        refine lv_icmp_eq (tgt := 65) hx hb dX6_takesSign_50 (by decide) (fun c_4 => ?_) (fun c_4 => ?_)
        · skip
          refine lv_iconst (v := 1) hx hb dX6_takesSign_65 (by decide) ?_
          refine lv_goto (tgt := 70) hx hb dX6_takesSign_66 (by decide) ?_
          have hP : va_P D vwCl [(m0, .inr (6, [.ref m1, .int st, .ref m2, .int len, .ref m3, .int th, .int wo, .ref m4, .int rd, .int nu, .int 3, .ref m5, .long hs])), (m1, .inl (kA 0, 148, .inl z)), (m2, .inl (kA 0, 888, .inl h)), (m3, .inl (kA 0, 60, .inl tx)), (m4, .inl (kA 0, 72, .inl (upd pt ((3 * rd) + 1).toNatClampNeg p0))), (m5, .inl (kA 0, 148, .inl kp))] _ := hP.sub [0, 1, 2, 3, 4, 5] rfl
          exact end_fz hx hb hrt hlk (by decide) hP hS (by rw [sgB, if_neg c_2, if_neg c_3, if_pos c_4]; rfl) (fun hq => by rw [clamp_j (ix31 hrd) (by omega)] at hq; rw [sgD, if_pos c_1]; exact hq) dX6_takesSign_70
        · skip
          refine lv_iload_n hx hb dX6_takesSign_53 rfl (lv_at hl 1 rfl) ?_
          refine lv_bipush (v := 104) hx hb dX6_takesSign_54 (by decide) ?_
          refine lv_icmp_eq (tgt := 65) hx hb dX6_takesSign_56 (by decide) (fun c_5 => ?_) (fun c_5 => ?_)
          · skip
            refine lv_iconst (v := 1) hx hb dX6_takesSign_65 (by decide) ?_
            refine lv_goto (tgt := 70) hx hb dX6_takesSign_66 (by decide) ?_
            have hP : va_P D vwCl [(m0, .inr (6, [.ref m1, .int st, .ref m2, .int len, .ref m3, .int th, .int wo, .ref m4, .int rd, .int nu, .int 3, .ref m5, .long hs])), (m1, .inl (kA 0, 148, .inl z)), (m2, .inl (kA 0, 888, .inl h)), (m3, .inl (kA 0, 60, .inl tx)), (m4, .inl (kA 0, 72, .inl (upd pt ((3 * rd) + 1).toNatClampNeg p0))), (m5, .inl (kA 0, 148, .inl kp))] _ := hP.sub [0, 1, 2, 3, 4, 5] rfl
            exact end_fz hx hb hrt hlk (by decide) hP hS (by rw [sgB, if_neg c_2, if_neg c_3, if_neg c_4, if_pos c_5]; rfl) (fun hq => by rw [clamp_j (ix31 hrd) (by omega)] at hq; rw [sgD, if_pos c_5]; exact hq) dX6_takesSign_70
          · exact absurd c_1 c_5
  · skip
    refine lv_iload_n hx hb dX6_takesSign_21 rfl (lv_at hl 1 rfl) ?_
    refine lv_bipush (v := 103) hx hb dX6_takesSign_22 (by decide) ?_
    refine lv_icmp_ne (tgt := 31) hx hb dX6_takesSign_24 (by decide) (fun c_6 => ?_) (fun c_6 => ?_)
    · skip
      refine lv_iconst (v := 2) hx hb dX6_takesSign_31 (by decide) ?_
      refine va_put (ci := 6) (v := .int 2) (ty := tyX6 10) (C := RX6) (T := TX6) (N := 13) hx hb hts inX6 tyX6 tyX6_ok nmX6 hown hK hP hD hS 0 rfl rfl 10 (by decide) (hts _ q_780) (fun _ h9 => h9) rfl (tyX6_ok 10 (by decide)) rfl rfl (Nat.le_of_ble_eq_true rfl) dX6_takesSign_32 (fun H locs hP hD hS => ?_)
      have hP : va_P D vwCl [(m0, .inr (6, [.ref m1, .int st, .ref m2, .int len, .ref m3, .int th, .int wo, .ref m4, .int rd, .int nu, .int 2, .ref m5, .long hs])), (m1, .inl (kA 0, 148, .inl z)), (m2, .inl (kA 0, 888, .inl h)), (m3, .inl (kA 0, 60, .inl tx)), (m4, .inl (kA 0, 72, .inl (upd pt ((3 * rd) + 1).toNatClampNeg p0))), (m5, .inl (kA 0, 148, .inl kp))] H := hP
      have hD : va_D (Aw [(m0, .inr (6, [.ref m1, .int st, .ref m2, .int len, .ref m3, .int th, .int wo, .ref m4, .int rd, .int nu, .int du, .ref m5, .long hs])), (m1, .inl (kA 0, 148, .inl z)), (m2, .inl (kA 0, 888, .inl h)), (m3, .inl (kA 0, 60, .inl tx)), (m4, .inl (kA 0, 72, .inl pt)), (m5, .inl (kA 0, 148, .inl kp))]) [(m0, .inr (6, [.ref m1, .int st, .ref m2, .int len, .ref m3, .int th, .int wo, .ref m4, .int rd, .int nu, .int 2, .ref m5, .long hs])), (m1, .inl (kA 0, 148, .inl z)), (m2, .inl (kA 0, 888, .inl h)), (m3, .inl (kA 0, 60, .inl tx)), (m4, .inl (kA 0, 72, .inl (upd pt ((3 * rd) + 1).toNatClampNeg p0))), (m5, .inl (kA 0, 148, .inl kp))] := hD
      refine lv_iload_n hx hb dX6_takesSign_35 rfl (lv_at hl 1 rfl) ?_
      refine lv_bipush (v := 43) hx hb dX6_takesSign_36 (by decide) ?_
      refine lv_icmp_eq (tgt := 65) hx hb dX6_takesSign_38 (by decide) (fun c_7 => ?_) (fun c_7 => ?_)
      · skip
        refine lv_iconst (v := 1) hx hb dX6_takesSign_65 (by decide) ?_
        refine lv_goto (tgt := 70) hx hb dX6_takesSign_66 (by decide) ?_
        have hP : va_P D vwCl [(m0, .inr (6, [.ref m1, .int st, .ref m2, .int len, .ref m3, .int th, .int wo, .ref m4, .int rd, .int nu, .int 2, .ref m5, .long hs])), (m1, .inl (kA 0, 148, .inl z)), (m2, .inl (kA 0, 888, .inl h)), (m3, .inl (kA 0, 60, .inl tx)), (m4, .inl (kA 0, 72, .inl (upd pt ((3 * rd) + 1).toNatClampNeg p0))), (m5, .inl (kA 0, 148, .inl kp))] _ := hP.sub [0, 1, 2, 3, 4, 5] rfl
        exact end_fz hx hb hrt hlk (by decide) hP hS (by rw [sgB, if_pos c_7]; rfl) (fun hq => by rw [clamp_j (ix31 hrd) (by omega)] at hq; rw [sgD, if_neg c_1, if_neg c_6]; exact hq) dX6_takesSign_70
      · skip
        refine lv_iload_n hx hb dX6_takesSign_41 rfl (lv_at hl 1 rfl) ?_
        refine lv_bipush (v := 45) hx hb dX6_takesSign_42 (by decide) ?_
        refine lv_icmp_eq (tgt := 65) hx hb dX6_takesSign_44 (by decide) (fun c_8 => ?_) (fun c_8 => ?_)
        · skip
          refine lv_iconst (v := 1) hx hb dX6_takesSign_65 (by decide) ?_
          refine lv_goto (tgt := 70) hx hb dX6_takesSign_66 (by decide) ?_
          have hP : va_P D vwCl [(m0, .inr (6, [.ref m1, .int st, .ref m2, .int len, .ref m3, .int th, .int wo, .ref m4, .int rd, .int nu, .int 2, .ref m5, .long hs])), (m1, .inl (kA 0, 148, .inl z)), (m2, .inl (kA 0, 888, .inl h)), (m3, .inl (kA 0, 60, .inl tx)), (m4, .inl (kA 0, 72, .inl (upd pt ((3 * rd) + 1).toNatClampNeg p0))), (m5, .inl (kA 0, 148, .inl kp))] _ := hP.sub [0, 1, 2, 3, 4, 5] rfl
          exact end_fz hx hb hrt hlk (by decide) hP hS (by rw [sgB, if_neg c_7, if_pos c_8]; rfl) (fun hq => by rw [clamp_j (ix31 hrd) (by omega)] at hq; rw [sgD, if_neg c_1, if_neg c_6]; exact hq) dX6_takesSign_70
        · skip
          refine lv_iload_n hx hb dX6_takesSign_47 rfl (lv_at hl 1 rfl) ?_
          refine lv_bipush (v := 61) hx hb dX6_takesSign_48 (by decide) ?_
          refine lv_icmp_eq (tgt := 65) hx hb dX6_takesSign_50 (by decide) (fun c_9 => ?_) (fun c_9 => ?_)
          · skip
            refine lv_iconst (v := 1) hx hb dX6_takesSign_65 (by decide) ?_
            refine lv_goto (tgt := 70) hx hb dX6_takesSign_66 (by decide) ?_
            have hP : va_P D vwCl [(m0, .inr (6, [.ref m1, .int st, .ref m2, .int len, .ref m3, .int th, .int wo, .ref m4, .int rd, .int nu, .int 2, .ref m5, .long hs])), (m1, .inl (kA 0, 148, .inl z)), (m2, .inl (kA 0, 888, .inl h)), (m3, .inl (kA 0, 60, .inl tx)), (m4, .inl (kA 0, 72, .inl (upd pt ((3 * rd) + 1).toNatClampNeg p0))), (m5, .inl (kA 0, 148, .inl kp))] _ := hP.sub [0, 1, 2, 3, 4, 5] rfl
            exact end_fz hx hb hrt hlk (by decide) hP hS (by rw [sgB, if_neg c_7, if_neg c_8, if_pos c_9]; rfl) (fun hq => by rw [clamp_j (ix31 hrd) (by omega)] at hq; rw [sgD, if_neg c_1, if_neg c_6]; exact hq) dX6_takesSign_70
          · skip
            refine lv_iload_n hx hb dX6_takesSign_53 rfl (lv_at hl 1 rfl) ?_
            refine lv_bipush (v := 104) hx hb dX6_takesSign_54 (by decide) ?_
            refine lv_icmp_eq (tgt := 65) hx hb dX6_takesSign_56 (by decide) (fun c_10 => ?_) (fun c_10 => ?_)
            · exact absurd c_10 c_1
            · skip
              refine lv_iload_n hx hb dX6_takesSign_59 rfl (lv_at hl 1 rfl) ?_
              refine lv_bipush (v := 103) hx hb dX6_takesSign_60 (by decide) ?_
              refine lv_icmp_ne (tgt := 69) hx hb dX6_takesSign_62 (by decide) (fun c_11 => ?_) (fun c_11 => ?_)
              · skip
                refine lv_iconst (v := 0) hx hb dX6_takesSign_69 (by decide) ?_
                have hP : va_P D vwCl [(m0, .inr (6, [.ref m1, .int st, .ref m2, .int len, .ref m3, .int th, .int wo, .ref m4, .int rd, .int nu, .int 2, .ref m5, .long hs])), (m1, .inl (kA 0, 148, .inl z)), (m2, .inl (kA 0, 888, .inl h)), (m3, .inl (kA 0, 60, .inl tx)), (m4, .inl (kA 0, 72, .inl (upd pt ((3 * rd) + 1).toNatClampNeg p0))), (m5, .inl (kA 0, 148, .inl kp))] _ := hP.sub [0, 1, 2, 3, 4, 5] rfl
                exact end_fz hx hb hrt hlk (by decide) hP hS (by rw [sgB, if_neg c_7, if_neg c_8, if_neg c_9, if_neg c_10, if_neg c_11]; rfl) (fun hq => by rw [clamp_j (ix31 hrd) (by omega)] at hq; rw [sgD, if_neg c_10, if_neg c_11]; exact hq) dX6_takesSign_70
              · exact absurd c_11 c_6
    · skip
      refine lv_iconst (v := 3) hx hb dX6_takesSign_27 (by decide) ?_
      refine lv_goto (tgt := 32) hx hb dX6_takesSign_28 (by decide) ?_
      refine va_put (ci := 6) (v := .int 3) (ty := tyX6 10) (C := RX6) (T := TX6) (N := 13) hx hb hts inX6 tyX6 tyX6_ok nmX6 hown hK hP hD hS 0 rfl rfl 10 (by decide) (hts _ q_780) (fun _ h9 => h9) rfl (tyX6_ok 10 (by decide)) rfl rfl (Nat.le_of_ble_eq_true rfl) dX6_takesSign_32 (fun H locs hP hD hS => ?_)
      have hP : va_P D vwCl [(m0, .inr (6, [.ref m1, .int st, .ref m2, .int len, .ref m3, .int th, .int wo, .ref m4, .int rd, .int nu, .int 3, .ref m5, .long hs])), (m1, .inl (kA 0, 148, .inl z)), (m2, .inl (kA 0, 888, .inl h)), (m3, .inl (kA 0, 60, .inl tx)), (m4, .inl (kA 0, 72, .inl (upd pt ((3 * rd) + 1).toNatClampNeg p0))), (m5, .inl (kA 0, 148, .inl kp))] H := hP
      have hD : va_D (Aw [(m0, .inr (6, [.ref m1, .int st, .ref m2, .int len, .ref m3, .int th, .int wo, .ref m4, .int rd, .int nu, .int du, .ref m5, .long hs])), (m1, .inl (kA 0, 148, .inl z)), (m2, .inl (kA 0, 888, .inl h)), (m3, .inl (kA 0, 60, .inl tx)), (m4, .inl (kA 0, 72, .inl pt)), (m5, .inl (kA 0, 148, .inl kp))]) [(m0, .inr (6, [.ref m1, .int st, .ref m2, .int len, .ref m3, .int th, .int wo, .ref m4, .int rd, .int nu, .int 3, .ref m5, .long hs])), (m1, .inl (kA 0, 148, .inl z)), (m2, .inl (kA 0, 888, .inl h)), (m3, .inl (kA 0, 60, .inl tx)), (m4, .inl (kA 0, 72, .inl (upd pt ((3 * rd) + 1).toNatClampNeg p0))), (m5, .inl (kA 0, 148, .inl kp))] := hD
      refine lv_iload_n hx hb dX6_takesSign_35 rfl (lv_at hl 1 rfl) ?_
      refine lv_bipush (v := 43) hx hb dX6_takesSign_36 (by decide) ?_
      refine lv_icmp_eq (tgt := 65) hx hb dX6_takesSign_38 (by decide) (fun c_12 => ?_) (fun c_12 => ?_)
      · skip
        refine lv_iconst (v := 1) hx hb dX6_takesSign_65 (by decide) ?_
        refine lv_goto (tgt := 70) hx hb dX6_takesSign_66 (by decide) ?_
        have hP : va_P D vwCl [(m0, .inr (6, [.ref m1, .int st, .ref m2, .int len, .ref m3, .int th, .int wo, .ref m4, .int rd, .int nu, .int 3, .ref m5, .long hs])), (m1, .inl (kA 0, 148, .inl z)), (m2, .inl (kA 0, 888, .inl h)), (m3, .inl (kA 0, 60, .inl tx)), (m4, .inl (kA 0, 72, .inl (upd pt ((3 * rd) + 1).toNatClampNeg p0))), (m5, .inl (kA 0, 148, .inl kp))] _ := hP.sub [0, 1, 2, 3, 4, 5] rfl
        exact end_fz hx hb hrt hlk (by decide) hP hS (by rw [sgB, if_pos c_12]; rfl) (fun hq => by rw [clamp_j (ix31 hrd) (by omega)] at hq; rw [sgD, if_neg c_1, if_pos c_6]; exact hq) dX6_takesSign_70
      · skip
        refine lv_iload_n hx hb dX6_takesSign_41 rfl (lv_at hl 1 rfl) ?_
        refine lv_bipush (v := 45) hx hb dX6_takesSign_42 (by decide) ?_
        refine lv_icmp_eq (tgt := 65) hx hb dX6_takesSign_44 (by decide) (fun c_13 => ?_) (fun c_13 => ?_)
        · skip
          refine lv_iconst (v := 1) hx hb dX6_takesSign_65 (by decide) ?_
          refine lv_goto (tgt := 70) hx hb dX6_takesSign_66 (by decide) ?_
          have hP : va_P D vwCl [(m0, .inr (6, [.ref m1, .int st, .ref m2, .int len, .ref m3, .int th, .int wo, .ref m4, .int rd, .int nu, .int 3, .ref m5, .long hs])), (m1, .inl (kA 0, 148, .inl z)), (m2, .inl (kA 0, 888, .inl h)), (m3, .inl (kA 0, 60, .inl tx)), (m4, .inl (kA 0, 72, .inl (upd pt ((3 * rd) + 1).toNatClampNeg p0))), (m5, .inl (kA 0, 148, .inl kp))] _ := hP.sub [0, 1, 2, 3, 4, 5] rfl
          exact end_fz hx hb hrt hlk (by decide) hP hS (by rw [sgB, if_neg c_12, if_pos c_13]; rfl) (fun hq => by rw [clamp_j (ix31 hrd) (by omega)] at hq; rw [sgD, if_neg c_1, if_pos c_6]; exact hq) dX6_takesSign_70
        · skip
          refine lv_iload_n hx hb dX6_takesSign_47 rfl (lv_at hl 1 rfl) ?_
          refine lv_bipush (v := 61) hx hb dX6_takesSign_48 (by decide) ?_
          refine lv_icmp_eq (tgt := 65) hx hb dX6_takesSign_50 (by decide) (fun c_14 => ?_) (fun c_14 => ?_)
          · skip
            refine lv_iconst (v := 1) hx hb dX6_takesSign_65 (by decide) ?_
            refine lv_goto (tgt := 70) hx hb dX6_takesSign_66 (by decide) ?_
            have hP : va_P D vwCl [(m0, .inr (6, [.ref m1, .int st, .ref m2, .int len, .ref m3, .int th, .int wo, .ref m4, .int rd, .int nu, .int 3, .ref m5, .long hs])), (m1, .inl (kA 0, 148, .inl z)), (m2, .inl (kA 0, 888, .inl h)), (m3, .inl (kA 0, 60, .inl tx)), (m4, .inl (kA 0, 72, .inl (upd pt ((3 * rd) + 1).toNatClampNeg p0))), (m5, .inl (kA 0, 148, .inl kp))] _ := hP.sub [0, 1, 2, 3, 4, 5] rfl
            exact end_fz hx hb hrt hlk (by decide) hP hS (by rw [sgB, if_neg c_12, if_neg c_13, if_pos c_14]; rfl) (fun hq => by rw [clamp_j (ix31 hrd) (by omega)] at hq; rw [sgD, if_neg c_1, if_pos c_6]; exact hq) dX6_takesSign_70
          · skip
            refine lv_iload_n hx hb dX6_takesSign_53 rfl (lv_at hl 1 rfl) ?_
            refine lv_bipush (v := 104) hx hb dX6_takesSign_54 (by decide) ?_
            refine lv_icmp_eq (tgt := 65) hx hb dX6_takesSign_56 (by decide) (fun c_15 => ?_) (fun c_15 => ?_)
            · exact absurd c_15 c_1
            · skip
              refine lv_iload_n hx hb dX6_takesSign_59 rfl (lv_at hl 1 rfl) ?_
              refine lv_bipush (v := 103) hx hb dX6_takesSign_60 (by decide) ?_
              refine lv_icmp_ne (tgt := 69) hx hb dX6_takesSign_62 (by decide) (fun c_16 => ?_) (fun c_16 => ?_)
              · exact absurd c_6 c_16
              · skip
                refine lv_iconst (v := 1) hx hb dX6_takesSign_65 (by decide) ?_
                refine lv_goto (tgt := 70) hx hb dX6_takesSign_66 (by decide) ?_
                have hP : va_P D vwCl [(m0, .inr (6, [.ref m1, .int st, .ref m2, .int len, .ref m3, .int th, .int wo, .ref m4, .int rd, .int nu, .int 3, .ref m5, .long hs])), (m1, .inl (kA 0, 148, .inl z)), (m2, .inl (kA 0, 888, .inl h)), (m3, .inl (kA 0, 60, .inl tx)), (m4, .inl (kA 0, 72, .inl (upd pt ((3 * rd) + 1).toNatClampNeg p0))), (m5, .inl (kA 0, 148, .inl kp))] _ := hP.sub [0, 1, 2, 3, 4, 5] rfl
                exact end_fz hx hb hrt hlk (by decide) hP hS (by rw [sgB, if_neg c_12, if_neg c_13, if_neg c_14, if_neg c_15, if_pos c_16]; rfl) (fun hq => by rw [clamp_j (ix31 hrd) (by omega)] at hq; rw [sgD, if_neg c_15, if_pos c_16]; exact hq) dX6_takesSign_70

theorem hd_X6_takesDigit : yX6_takesDigit.cls ≠ "java/lang/invoke/MethodHandle" ∧ yX6_takesDigit.cls ≠ "java/lang/invoke/VarHandle" ∧ (parseMethodDescriptor yX6_takesDigit.desc).map (fun d => d.parameters.length) = some 1 := by decide +kernel
set_option maxRecDepth 100000 in
set_option maxHeartbeats 4000000 in
theorem m_X6_takesDigit (l : Launch) (D : va_G) (kA : Nat → Nat) (m0 : Nat) (m1 : Nat) (m2 : Nat) (m3 : Nat) (m4 : Nat) (m5 : Nat) (z : Nat → Int32) (h : Nat → Int32) (tx : Nat → Int32) (pt : Nat → Int32) (kp : Nat → Int32) (st : Int32) (len : Int32) (th : Int32) (wo : Int32) (rd : Int32) (nu : Int32) (du : Int32) (hs : Int64) (nr : Nat) (p0 : Int32) (hrd : rd = nI nr) (hnr : nr < 23) : Met l yX6_takesDigit (Cond.code yX6_takesDigit cX6_takesDigit 5 (some .boolean) :: AW) ({ frames := 1, cells := 0, slots := 0, locals := 22 } : Room) (Pz [.ref m0, .int p0] D (TY kA) [(m0, .inr (6, [.ref m1, .int st, .ref m2, .int len, .ref m3, .int th, .int wo, .ref m4, .int rd, .int nu, .int du, .ref m5, .long hs])), (m1, .inl (kA 0, 148, .inl z)), (m2, .inl (kA 0, 888, .inl h)), (m3, .inl (kA 0, 60, .inl tx)), (m4, .inl (kA 0, 72, .inl pt)), (m5, .inl (kA 0, 148, .inl kp))]) (fQ (some (.int (bI (dgB pt nr nu p0)))) D [(m0, .inr (6, [.ref m1, .int st, .ref m2, .int len, .ref m3, .int th, .int wo, .ref m4, .int rd, .int nu, .int du, .ref m5, .long hs])), (m1, .inl (kA 0, 148, .inl z)), (m2, .inl (kA 0, 888, .inl h)), (m3, .inl (kA 0, 60, .inl tx)), (m4, .inl (kA 0, 72, .inl pt)), (m5, .inl (kA 0, 148, .inl kp))] [(m0, .inr (6, [.ref m1, .int st, .ref m2, .int len, .ref m3, .int th, .int wo, .ref m4, .int rd, .int (if dgB pt nr nu p0 = true then dgV nu p0 else nu), .int du, .ref m5, .long hs])), (m1, .inl (kA 0, 148, .inl z)), (m2, .inl (kA 0, 888, .inl h)), (m3, .inl (kA 0, 60, .inl tx)), (m4, .inl (kA 0, 72, .inl pt)), (m5, .inl (kA 0, 148, .inl kp))]) 0 0 (Aw [(m0, .inr (6, [.ref m1, .int st, .ref m2, .int len, .ref m3, .int th, .int wo, .ref m4, .int rd, .int nu, .int du, .ref m5, .long hs])), (m1, .inl (kA 0, 148, .inl z)), (m2, .inl (kA 0, 888, .inl h)), (m3, .inl (kA 0, 60, .inl tx)), (m4, .inl (kA 0, 72, .inl pt)), (m5, .inl (kA 0, 148, .inl kp))]) := by
  refine MetZ (by decide +kernel) (Nat.le_of_ble_eq_true rfl) ?_
  intro p e s m below meth c ls hx hb hrt hts hown hml hlk hnm hP hK hD hS hl
  have hl : lv_has ls 5 [(0, .ref m0), (1, .int p0)] := hl
  refine lv_aload_n hx hb dX6_takesDigit_0 rfl (lv_at hl 0 rfl) ?_
  refine va_get (ci := 6) (v := .ref m4) (C := RX6) (T := TX6) (N := 13) hx hb hts inX6 hown hK hP 0 rfl rfl 7 (by decide) (hts _ q_777) (fun _ h9 => h9) rfl dX6_takesDigit_1 ?_
  refine lv_iconst (v := 3) hx hb dX6_takesDigit_4 (by decide) ?_
  refine lv_aload_n hx hb dX6_takesDigit_5 rfl (lv_at hl 0 rfl) ?_
  refine va_get (ci := 6) (v := .int rd) (C := RX6) (T := TX6) (N := 13) hx hb hts inX6 hown hK hP 0 rfl rfl 8 (by decide) (hts _ q_778) (fun _ h9 => h9) rfl dX6_takesDigit_6 ?_
  refine lv_imul hx hb dX6_takesDigit_9 ?_
  refine lv_iconst (v := 1) hx hb dX6_takesDigit_10 (by decide) ?_
  refine lv_iadd hx hb dX6_takesDigit_11 ?_
  refine va_iald (f := pt) hx hb hK hP 4 0 rfl rfl (in_nI (ix31 hrd) (by omega) (by decide)) dX6_takesDigit_12 ?_
  refine lv_bipush (v := 61) hx hb dX6_takesDigit_13 (by decide) ?_
  have jn_15_0 : ∀ v : Int32, v = (if (pt ((3 * rd) + 1).toNatClampNeg) = 61 then 1 else 0) → W p l e ({ frames := 1, cells := 0, slots := 0, locals := 22 } : Room) s m [.ref m0, .int p0].toArray below meth c s.heap [] 0 0 (MQ below (fQ (some (.int (bI (dgB pt nr nu p0)))) D [(m0, .inr (6, [.ref m1, .int st, .ref m2, .int len, .ref m3, .int th, .int wo, .ref m4, .int rd, .int nu, .int du, .ref m5, .long hs])), (m1, .inl (kA 0, 148, .inl z)), (m2, .inl (kA 0, 888, .inl h)), (m3, .inl (kA 0, 60, .inl tx)), (m4, .inl (kA 0, 72, .inl pt)), (m5, .inl (kA 0, 148, .inl kp))] [(m0, .inr (6, [.ref m1, .int st, .ref m2, .int len, .ref m3, .int th, .int wo, .ref m4, .int rd, .int (if dgB pt nr nu p0 = true then dgV nu p0 else nu), .int du, .ref m5, .long hs])), (m1, .inl (kA 0, 148, .inl z)), (m2, .inl (kA 0, 888, .inl h)), (m3, .inl (kA 0, 60, .inl tx)), (m4, .inl (kA 0, 72, .inl pt)), (m5, .inl (kA 0, 148, .inl kp))]) [.ref m0, .int p0].toArray s 0 0 (Aw [(m0, .inr (6, [.ref m1, .int st, .ref m2, .int len, .ref m3, .int th, .int wo, .ref m4, .int rd, .int nu, .int du, .ref m5, .long hs])), (m1, .inl (kA 0, 148, .inl z)), (m2, .inl (kA 0, 888, .inl h)), (m3, .inl (kA 0, 60, .inl tx)), (m4, .inl (kA 0, 72, .inl pt)), (m5, .inl (kA 0, 148, .inl kp))])) (F0 m 23 ls (.int v :: [])) := by
    intro v ev
    rw [eqB_if, clamp_j (ix31 hrd) (by omega)] at ev; subst ev
    refine lv_istore_n (lv' := [(2, .int (bI (eqB (pt (3 * nr + 1)) 61))), (0, .ref m0), (1, .int p0)]) hx hb dX6_takesDigit_23 rfl hl (by decide) rfl (fun ls hl => ?_)
    refine lv_aload_n hx hb dX6_takesDigit_24 rfl (lv_at hl 1 rfl) ?_
    refine va_get (ci := 6) (v := .int nu) (C := RX6) (T := TX6) (N := 13) hx hb hts inX6 hown hK hP 0 rfl rfl 9 (by decide) (hts _ q_779) (fun _ h9 => h9) rfl dX6_takesDigit_25 ?_
    refine lv_iconst (v := (-1)) hx hb dX6_takesDigit_28 (by decide) ?_
    have jn_29_1 : ∀ v : Int32, v = (if nu = (-1) then p0 else (10 * nu) + p0) → W p l e ({ frames := 1, cells := 0, slots := 0, locals := 22 } : Room) s m [.ref m0, .int p0].toArray below meth c s.heap [] 0 0 (MQ below (fQ (some (.int (bI (dgB pt nr nu p0)))) D [(m0, .inr (6, [.ref m1, .int st, .ref m2, .int len, .ref m3, .int th, .int wo, .ref m4, .int rd, .int nu, .int du, .ref m5, .long hs])), (m1, .inl (kA 0, 148, .inl z)), (m2, .inl (kA 0, 888, .inl h)), (m3, .inl (kA 0, 60, .inl tx)), (m4, .inl (kA 0, 72, .inl pt)), (m5, .inl (kA 0, 148, .inl kp))] [(m0, .inr (6, [.ref m1, .int st, .ref m2, .int len, .ref m3, .int th, .int wo, .ref m4, .int rd, .int (if dgB pt nr nu p0 = true then dgV nu p0 else nu), .int du, .ref m5, .long hs])), (m1, .inl (kA 0, 148, .inl z)), (m2, .inl (kA 0, 888, .inl h)), (m3, .inl (kA 0, 60, .inl tx)), (m4, .inl (kA 0, 72, .inl pt)), (m5, .inl (kA 0, 148, .inl kp))]) [.ref m0, .int p0].toArray s 0 0 (Aw [(m0, .inr (6, [.ref m1, .int st, .ref m2, .int len, .ref m3, .int th, .int wo, .ref m4, .int rd, .int nu, .int du, .ref m5, .long hs])), (m1, .inl (kA 0, 148, .inl z)), (m2, .inl (kA 0, 888, .inl h)), (m3, .inl (kA 0, 60, .inl tx)), (m4, .inl (kA 0, 72, .inl pt)), (m5, .inl (kA 0, 148, .inl kp))])) (F0 m 45 ls (.int v :: [])) := by
      intro v ev
      obtain rfl : v = dgV nu p0 := ev
      refine lv_istore_n (lv' := [(3, .int (dgV nu p0)), (2, .int (bI (eqB (pt (3 * nr + 1)) 61))), (0, .ref m0), (1, .int p0)]) hx hb dX6_takesDigit_45 rfl hl (by decide) rfl (fun ls hl => ?_)
      refine lv_iload_n hx hb dX6_takesDigit_46 rfl (lv_at hl 3 rfl) ?_
      refine lv_iconst (v := 0) hx hb dX6_takesDigit_47 (by decide) ?_
      refine lv_bipush (v := 9) hx hb dX6_takesDigit_48 (by decide) ?_
      refine cs_p (runS (As := [.int p0, .int 0, .int 9]) (rest := []) ⟨hx, hb, hml, hown, hts⟩ (m_X6_within l D kA p0 0 9 ) q_818 q_819 q_7 q_820 hd_X6_within ⟨rfl, rfl⟩ ⟨Nat.le_of_ble_eq_true rfl, Nat.le_of_ble_eq_true rfl⟩ hK (ws := []) (hP.sub [] rfl) (hD.sub [] (by decide) rfl) rfl hl.1 rfl (Nat.le_of_ble_eq_true rfl) dX6_takesDigit_50 ⟨Nat.zero_le _, Nat.zero_le _⟩) ?_
      refine lv_if_eq (tgt := 94) hx hb dX6_takesDigit_53 (by decide) (fun c_3 => ?_) (fun c_3 => ?_)
      · skip
        replace c_3 := bI_0.mp c_3
        refine lv_iconst (v := 0) hx hb dX6_takesDigit_94 (by decide) ?_
        refine lv_istore (lv' := [(4, .int 0), (3, .int (dgV nu p0)), (2, .int (bI (eqB (pt (3 * nr + 1)) 61))), (0, .ref m0), (1, .int p0)]) hx hb dX6_takesDigit_95 hl (by decide) rfl (fun ls hl => ?_)
        refine lv_aload_n hx hb dX6_takesDigit_97 rfl (lv_at hl 3 rfl) ?_
        refine lv_iload hx hb dX6_takesDigit_98 (lv_at hl 0 rfl) ?_
        refine lv_if_eq (tgt := 107) hx hb dX6_takesDigit_100 (by decide) (fun c_4 => ?_) (fun c_4 => ?_)
        · skip
          refine lv_aload_n hx hb dX6_takesDigit_107 rfl (lv_at hl 3 rfl) ?_
          refine va_get (ci := 6) (v := .int nu) (C := RX6) (T := TX6) (N := 13) hx hb hts inX6 hown hK hP 0 rfl rfl 9 (by decide) (hts _ q_779) (fun _ h9 => h9) rfl dX6_takesDigit_108 ?_
          refine va_put (ci := 6) (v := .int nu) (ty := tyX6 9) (C := RX6) (T := TX6) (N := 13) hx hb hts inX6 tyX6 tyX6_ok nmX6 hown hK hP hD hS 0 rfl rfl 9 (by decide) (hts _ q_779) (fun _ h9 => h9) rfl (tyX6_ok 9 (by decide)) rfl rfl (Nat.le_of_ble_eq_true rfl) dX6_takesDigit_111 (fun H locs hP hD hS => ?_)
          have hP : va_P D vwCl [(m0, .inr (6, [.ref m1, .int st, .ref m2, .int len, .ref m3, .int th, .int wo, .ref m4, .int rd, .int nu, .int du, .ref m5, .long hs])), (m1, .inl (kA 0, 148, .inl z)), (m2, .inl (kA 0, 888, .inl h)), (m3, .inl (kA 0, 60, .inl tx)), (m4, .inl (kA 0, 72, .inl pt)), (m5, .inl (kA 0, 148, .inl kp))] H := hP
          have hD : va_D (Aw [(m0, .inr (6, [.ref m1, .int st, .ref m2, .int len, .ref m3, .int th, .int wo, .ref m4, .int rd, .int nu, .int du, .ref m5, .long hs])), (m1, .inl (kA 0, 148, .inl z)), (m2, .inl (kA 0, 888, .inl h)), (m3, .inl (kA 0, 60, .inl tx)), (m4, .inl (kA 0, 72, .inl pt)), (m5, .inl (kA 0, 148, .inl kp))]) [(m0, .inr (6, [.ref m1, .int st, .ref m2, .int len, .ref m3, .int th, .int wo, .ref m4, .int rd, .int nu, .int du, .ref m5, .long hs])), (m1, .inl (kA 0, 148, .inl z)), (m2, .inl (kA 0, 888, .inl h)), (m3, .inl (kA 0, 60, .inl tx)), (m4, .inl (kA 0, 72, .inl pt)), (m5, .inl (kA 0, 148, .inl kp))] := hD
          refine lv_iload hx hb dX6_takesDigit_114 (lv_at hl 0 rfl) ?_
          have hP : va_P D vwCl [(m0, .inr (6, [.ref m1, .int st, .ref m2, .int len, .ref m3, .int th, .int wo, .ref m4, .int rd, .int nu, .int du, .ref m5, .long hs])), (m1, .inl (kA 0, 148, .inl z)), (m2, .inl (kA 0, 888, .inl h)), (m3, .inl (kA 0, 60, .inl tx)), (m4, .inl (kA 0, 72, .inl pt)), (m5, .inl (kA 0, 148, .inl kp))] _ := hP.sub [0, 1, 2, 3, 4, 5] rfl
          exact end_fz hx hb hrt hlk (by decide) hP hS (by rw [dgB, if_neg (by rw [c_3]; decide)]; rfl) (fun hq => by have hd : dgB pt nr nu p0 = false := (by rw [dgB, if_neg (by rw [c_3]; decide)]); simp only [hd, if_true, Bool.false_eq_true, if_false]; exact hq) dX6_takesDigit_116
        · exact absurd c_4 (by decide)
      · skip
        replace c_3 := bI_n0 c_3
        refine lv_aload_n hx hb dX6_takesDigit_56 rfl (lv_at hl 2 rfl) ?_
        refine va_get (ci := 6) (v := .int nu) (C := RX6) (T := TX6) (N := 13) hx hb hts inX6 hown hK hP 0 rfl rfl 9 (by decide) (hts _ q_779) (fun _ h9 => h9) rfl dX6_takesDigit_57 ?_
        refine lv_if_eq (tgt := 94) hx hb dX6_takesDigit_60 (by decide) (fun c_5 => ?_) (fun c_5 => ?_)
        · skip
          refine lv_iconst (v := 0) hx hb dX6_takesDigit_94 (by decide) ?_
          refine lv_istore (lv' := [(4, .int 0), (3, .int (dgV nu p0)), (2, .int (bI (eqB (pt (3 * nr + 1)) 61))), (0, .ref m0), (1, .int p0)]) hx hb dX6_takesDigit_95 hl (by decide) rfl (fun ls hl => ?_)
          refine lv_aload_n hx hb dX6_takesDigit_97 rfl (lv_at hl 3 rfl) ?_
          refine lv_iload hx hb dX6_takesDigit_98 (lv_at hl 0 rfl) ?_
          refine lv_if_eq (tgt := 107) hx hb dX6_takesDigit_100 (by decide) (fun c_6 => ?_) (fun c_6 => ?_)
          · skip
            refine lv_aload_n hx hb dX6_takesDigit_107 rfl (lv_at hl 3 rfl) ?_
            refine va_get (ci := 6) (v := .int nu) (C := RX6) (T := TX6) (N := 13) hx hb hts inX6 hown hK hP 0 rfl rfl 9 (by decide) (hts _ q_779) (fun _ h9 => h9) rfl dX6_takesDigit_108 ?_
            refine va_put (ci := 6) (v := .int nu) (ty := tyX6 9) (C := RX6) (T := TX6) (N := 13) hx hb hts inX6 tyX6 tyX6_ok nmX6 hown hK hP hD hS 0 rfl rfl 9 (by decide) (hts _ q_779) (fun _ h9 => h9) rfl (tyX6_ok 9 (by decide)) rfl rfl (Nat.le_of_ble_eq_true rfl) dX6_takesDigit_111 (fun H locs hP hD hS => ?_)
            have hP : va_P D vwCl [(m0, .inr (6, [.ref m1, .int st, .ref m2, .int len, .ref m3, .int th, .int wo, .ref m4, .int rd, .int nu, .int du, .ref m5, .long hs])), (m1, .inl (kA 0, 148, .inl z)), (m2, .inl (kA 0, 888, .inl h)), (m3, .inl (kA 0, 60, .inl tx)), (m4, .inl (kA 0, 72, .inl pt)), (m5, .inl (kA 0, 148, .inl kp))] H := hP
            have hD : va_D (Aw [(m0, .inr (6, [.ref m1, .int st, .ref m2, .int len, .ref m3, .int th, .int wo, .ref m4, .int rd, .int nu, .int du, .ref m5, .long hs])), (m1, .inl (kA 0, 148, .inl z)), (m2, .inl (kA 0, 888, .inl h)), (m3, .inl (kA 0, 60, .inl tx)), (m4, .inl (kA 0, 72, .inl pt)), (m5, .inl (kA 0, 148, .inl kp))]) [(m0, .inr (6, [.ref m1, .int st, .ref m2, .int len, .ref m3, .int th, .int wo, .ref m4, .int rd, .int nu, .int du, .ref m5, .long hs])), (m1, .inl (kA 0, 148, .inl z)), (m2, .inl (kA 0, 888, .inl h)), (m3, .inl (kA 0, 60, .inl tx)), (m4, .inl (kA 0, 72, .inl pt)), (m5, .inl (kA 0, 148, .inl kp))] := hD
            refine lv_iload hx hb dX6_takesDigit_114 (lv_at hl 0 rfl) ?_
            have hP : va_P D vwCl [(m0, .inr (6, [.ref m1, .int st, .ref m2, .int len, .ref m3, .int th, .int wo, .ref m4, .int rd, .int nu, .int du, .ref m5, .long hs])), (m1, .inl (kA 0, 148, .inl z)), (m2, .inl (kA 0, 888, .inl h)), (m3, .inl (kA 0, 60, .inl tx)), (m4, .inl (kA 0, 72, .inl pt)), (m5, .inl (kA 0, 148, .inl kp))] _ := hP.sub [0, 1, 2, 3, 4, 5] rfl
            exact end_fz hx hb hrt hlk (by decide) hP hS (by rw [dgB, if_pos c_3, if_pos c_5]; rfl) (fun hq => by have hd : dgB pt nr nu p0 = false := (by rw [dgB, if_pos c_3, if_pos c_5]); simp only [hd, if_true, Bool.false_eq_true, if_false]; exact hq) dX6_takesDigit_116
          · exact absurd c_6 (by decide)
        · skip
          refine lv_iload_n hx hb dX6_takesDigit_63 rfl (lv_at hl 0 rfl) ?_
          refine lv_iload_n hx hb dX6_takesDigit_64 rfl (lv_at hl 1 rfl) ?_
          refine lv_if_eq (tgt := 72) hx hb dX6_takesDigit_65 (by decide) (fun c_7 => ?_) (fun c_7 => ?_)
          · skip
            replace c_7 := bI_0.mp c_7
            refine lv_iconst (v := 1) hx hb dX6_takesDigit_72 (by decide) ?_
            refine lv_iload_n hx hb dX6_takesDigit_73 rfl (lv_at hl 1 rfl) ?_
            refine lv_if_eq (tgt := 82) hx hb dX6_takesDigit_74 (by decide) (fun c_8 => ?_) (fun c_8 => ?_)
            · skip
              replace c_8 := bI_0.mp c_8
              refine lv_bipush (v := 24) hx hb dX6_takesDigit_82 (by decide) ?_
              refine cs_p (runS (As := [.int (dgV nu p0), .int 1, .int 24]) (rest := []) ⟨hx, hb, hml, hown, hts⟩ (m_X6_within l D kA (dgV nu p0) 1 24 ) q_818 q_819 q_7 q_820 hd_X6_within ⟨rfl, rfl⟩ ⟨Nat.le_of_ble_eq_true rfl, Nat.le_of_ble_eq_true rfl⟩ hK (ws := []) (hP.sub [] rfl) (hD.sub [] (by decide) rfl) rfl hl.1 rfl (Nat.le_of_ble_eq_true rfl) dX6_takesDigit_84 ⟨Nat.zero_le _, Nat.zero_le _⟩) ?_
              refine lv_if_eq (tgt := 94) hx hb dX6_takesDigit_87 (by decide) (fun c_9 => ?_) (fun c_9 => ?_)
              · skip
                replace c_9 := bI_0.mp c_9
                refine lv_iconst (v := 0) hx hb dX6_takesDigit_94 (by decide) ?_
                refine lv_istore (lv' := [(4, .int 0), (3, .int (dgV nu p0)), (2, .int (bI (eqB (pt (3 * nr + 1)) 61))), (0, .ref m0), (1, .int p0)]) hx hb dX6_takesDigit_95 hl (by decide) rfl (fun ls hl => ?_)
                refine lv_aload_n hx hb dX6_takesDigit_97 rfl (lv_at hl 3 rfl) ?_
                refine lv_iload hx hb dX6_takesDigit_98 (lv_at hl 0 rfl) ?_
                refine lv_if_eq (tgt := 107) hx hb dX6_takesDigit_100 (by decide) (fun c_10 => ?_) (fun c_10 => ?_)
                · skip
                  refine lv_aload_n hx hb dX6_takesDigit_107 rfl (lv_at hl 3 rfl) ?_
                  refine va_get (ci := 6) (v := .int nu) (C := RX6) (T := TX6) (N := 13) hx hb hts inX6 hown hK hP 0 rfl rfl 9 (by decide) (hts _ q_779) (fun _ h9 => h9) rfl dX6_takesDigit_108 ?_
                  refine va_put (ci := 6) (v := .int nu) (ty := tyX6 9) (C := RX6) (T := TX6) (N := 13) hx hb hts inX6 tyX6 tyX6_ok nmX6 hown hK hP hD hS 0 rfl rfl 9 (by decide) (hts _ q_779) (fun _ h9 => h9) rfl (tyX6_ok 9 (by decide)) rfl rfl (Nat.le_of_ble_eq_true rfl) dX6_takesDigit_111 (fun H locs hP hD hS => ?_)
                  have hP : va_P D vwCl [(m0, .inr (6, [.ref m1, .int st, .ref m2, .int len, .ref m3, .int th, .int wo, .ref m4, .int rd, .int nu, .int du, .ref m5, .long hs])), (m1, .inl (kA 0, 148, .inl z)), (m2, .inl (kA 0, 888, .inl h)), (m3, .inl (kA 0, 60, .inl tx)), (m4, .inl (kA 0, 72, .inl pt)), (m5, .inl (kA 0, 148, .inl kp))] H := hP
                  have hD : va_D (Aw [(m0, .inr (6, [.ref m1, .int st, .ref m2, .int len, .ref m3, .int th, .int wo, .ref m4, .int rd, .int nu, .int du, .ref m5, .long hs])), (m1, .inl (kA 0, 148, .inl z)), (m2, .inl (kA 0, 888, .inl h)), (m3, .inl (kA 0, 60, .inl tx)), (m4, .inl (kA 0, 72, .inl pt)), (m5, .inl (kA 0, 148, .inl kp))]) [(m0, .inr (6, [.ref m1, .int st, .ref m2, .int len, .ref m3, .int th, .int wo, .ref m4, .int rd, .int nu, .int du, .ref m5, .long hs])), (m1, .inl (kA 0, 148, .inl z)), (m2, .inl (kA 0, 888, .inl h)), (m3, .inl (kA 0, 60, .inl tx)), (m4, .inl (kA 0, 72, .inl pt)), (m5, .inl (kA 0, 148, .inl kp))] := hD
                  refine lv_iload hx hb dX6_takesDigit_114 (lv_at hl 0 rfl) ?_
                  have hP : va_P D vwCl [(m0, .inr (6, [.ref m1, .int st, .ref m2, .int len, .ref m3, .int th, .int wo, .ref m4, .int rd, .int nu, .int du, .ref m5, .long hs])), (m1, .inl (kA 0, 148, .inl z)), (m2, .inl (kA 0, 888, .inl h)), (m3, .inl (kA 0, 60, .inl tx)), (m4, .inl (kA 0, 72, .inl pt)), (m5, .inl (kA 0, 148, .inl kp))] _ := hP.sub [0, 1, 2, 3, 4, 5] rfl
                  exact end_fz hx hb hrt hlk (by decide) hP hS (by rw [dgB, if_pos c_3, if_neg c_5, if_neg (by rw [c_7]; decide), if_neg (by rw [c_9]; decide)]; rfl) (fun hq => by have hd : dgB pt nr nu p0 = false := (by rw [dgB, if_pos c_3, if_neg c_5, if_neg (by rw [c_7]; decide), if_neg (by rw [c_9]; decide)]); simp only [hd, if_true, Bool.false_eq_true, if_false]; exact hq) dX6_takesDigit_116
                · exact absurd c_10 (by decide)
              · skip
                replace c_9 := bI_n0 c_9
                refine lv_iconst (v := 1) hx hb dX6_takesDigit_90 (by decide) ?_
                refine lv_goto (tgt := 95) hx hb dX6_takesDigit_91 (by decide) ?_
                refine lv_istore (lv' := [(4, .int 1), (3, .int (dgV nu p0)), (2, .int (bI (eqB (pt (3 * nr + 1)) 61))), (0, .ref m0), (1, .int p0)]) hx hb dX6_takesDigit_95 hl (by decide) rfl (fun ls hl => ?_)
                refine lv_aload_n hx hb dX6_takesDigit_97 rfl (lv_at hl 3 rfl) ?_
                refine lv_iload hx hb dX6_takesDigit_98 (lv_at hl 0 rfl) ?_
                refine lv_if_eq (tgt := 107) hx hb dX6_takesDigit_100 (by decide) (fun c_11 => ?_) (fun c_11 => ?_)
                · exact absurd c_11 (by decide)
                · skip
                  refine lv_iload_n hx hb dX6_takesDigit_103 rfl (lv_at hl 1 rfl) ?_
                  refine lv_goto (tgt := 111) hx hb dX6_takesDigit_104 (by decide) ?_
                  refine va_put (ci := 6) (v := .int (dgV nu p0)) (ty := tyX6 9) (C := RX6) (T := TX6) (N := 13) hx hb hts inX6 tyX6 tyX6_ok nmX6 hown hK hP hD hS 0 rfl rfl 9 (by decide) (hts _ q_779) (fun _ h9 => h9) rfl (tyX6_ok 9 (by decide)) rfl rfl (Nat.le_of_ble_eq_true rfl) dX6_takesDigit_111 (fun H locs hP hD hS => ?_)
                  have hP : va_P D vwCl [(m0, .inr (6, [.ref m1, .int st, .ref m2, .int len, .ref m3, .int th, .int wo, .ref m4, .int rd, .int (dgV nu p0), .int du, .ref m5, .long hs])), (m1, .inl (kA 0, 148, .inl z)), (m2, .inl (kA 0, 888, .inl h)), (m3, .inl (kA 0, 60, .inl tx)), (m4, .inl (kA 0, 72, .inl pt)), (m5, .inl (kA 0, 148, .inl kp))] H := hP
                  have hD : va_D (Aw [(m0, .inr (6, [.ref m1, .int st, .ref m2, .int len, .ref m3, .int th, .int wo, .ref m4, .int rd, .int nu, .int du, .ref m5, .long hs])), (m1, .inl (kA 0, 148, .inl z)), (m2, .inl (kA 0, 888, .inl h)), (m3, .inl (kA 0, 60, .inl tx)), (m4, .inl (kA 0, 72, .inl pt)), (m5, .inl (kA 0, 148, .inl kp))]) [(m0, .inr (6, [.ref m1, .int st, .ref m2, .int len, .ref m3, .int th, .int wo, .ref m4, .int rd, .int (dgV nu p0), .int du, .ref m5, .long hs])), (m1, .inl (kA 0, 148, .inl z)), (m2, .inl (kA 0, 888, .inl h)), (m3, .inl (kA 0, 60, .inl tx)), (m4, .inl (kA 0, 72, .inl pt)), (m5, .inl (kA 0, 148, .inl kp))] := hD
                  refine lv_iload hx hb dX6_takesDigit_114 (lv_at hl 0 rfl) ?_
                  have hP : va_P D vwCl [(m0, .inr (6, [.ref m1, .int st, .ref m2, .int len, .ref m3, .int th, .int wo, .ref m4, .int rd, .int (dgV nu p0), .int du, .ref m5, .long hs])), (m1, .inl (kA 0, 148, .inl z)), (m2, .inl (kA 0, 888, .inl h)), (m3, .inl (kA 0, 60, .inl tx)), (m4, .inl (kA 0, 72, .inl pt)), (m5, .inl (kA 0, 148, .inl kp))] _ := hP.sub [0, 1, 2, 3, 4, 5] rfl
                  exact end_fz hx hb hrt hlk (by decide) hP hS (by rw [dgB, if_pos c_3, if_neg c_5, if_neg (by rw [c_7]; decide), if_pos c_9]; rfl) (fun hq => by have hd : dgB pt nr nu p0 = true := (by rw [dgB, if_pos c_3, if_neg c_5, if_neg (by rw [c_7]; decide), if_pos c_9]); simp only [hd, if_true, Bool.false_eq_true, if_false]; exact hq) dX6_takesDigit_116
            · exact absurd (bI_n0 c_8) (by rw [c_7]; decide)
          · skip
            replace c_7 := bI_n0 c_7
            refine lv_iconst (v := 0) hx hb dX6_takesDigit_68 (by decide) ?_
            refine lv_goto (tgt := 73) hx hb dX6_takesDigit_69 (by decide) ?_
            refine lv_iload_n hx hb dX6_takesDigit_73 rfl (lv_at hl 1 rfl) ?_
            refine lv_if_eq (tgt := 82) hx hb dX6_takesDigit_74 (by decide) (fun c_12 => ?_) (fun c_12 => ?_)
            · exact absurd (bI_0.mp c_12) (by rw [c_7]; decide)
            · skip
              replace c_12 := bI_n0 c_12
              refine lv_bipush (v := 23) hx hb dX6_takesDigit_77 (by decide) ?_
              refine lv_goto (tgt := 84) hx hb dX6_takesDigit_79 (by decide) ?_
              refine cs_p (runS (As := [.int (dgV nu p0), .int 0, .int 23]) (rest := []) ⟨hx, hb, hml, hown, hts⟩ (m_X6_within l D kA (dgV nu p0) 0 23 ) q_818 q_819 q_7 q_820 hd_X6_within ⟨rfl, rfl⟩ ⟨Nat.le_of_ble_eq_true rfl, Nat.le_of_ble_eq_true rfl⟩ hK (ws := []) (hP.sub [] rfl) (hD.sub [] (by decide) rfl) rfl hl.1 rfl (Nat.le_of_ble_eq_true rfl) dX6_takesDigit_84 ⟨Nat.zero_le _, Nat.zero_le _⟩) ?_
              refine lv_if_eq (tgt := 94) hx hb dX6_takesDigit_87 (by decide) (fun c_13 => ?_) (fun c_13 => ?_)
              · skip
                replace c_13 := bI_0.mp c_13
                refine lv_iconst (v := 0) hx hb dX6_takesDigit_94 (by decide) ?_
                refine lv_istore (lv' := [(4, .int 0), (3, .int (dgV nu p0)), (2, .int (bI (eqB (pt (3 * nr + 1)) 61))), (0, .ref m0), (1, .int p0)]) hx hb dX6_takesDigit_95 hl (by decide) rfl (fun ls hl => ?_)
                refine lv_aload_n hx hb dX6_takesDigit_97 rfl (lv_at hl 3 rfl) ?_
                refine lv_iload hx hb dX6_takesDigit_98 (lv_at hl 0 rfl) ?_
                refine lv_if_eq (tgt := 107) hx hb dX6_takesDigit_100 (by decide) (fun c_14 => ?_) (fun c_14 => ?_)
                · skip
                  refine lv_aload_n hx hb dX6_takesDigit_107 rfl (lv_at hl 3 rfl) ?_
                  refine va_get (ci := 6) (v := .int nu) (C := RX6) (T := TX6) (N := 13) hx hb hts inX6 hown hK hP 0 rfl rfl 9 (by decide) (hts _ q_779) (fun _ h9 => h9) rfl dX6_takesDigit_108 ?_
                  refine va_put (ci := 6) (v := .int nu) (ty := tyX6 9) (C := RX6) (T := TX6) (N := 13) hx hb hts inX6 tyX6 tyX6_ok nmX6 hown hK hP hD hS 0 rfl rfl 9 (by decide) (hts _ q_779) (fun _ h9 => h9) rfl (tyX6_ok 9 (by decide)) rfl rfl (Nat.le_of_ble_eq_true rfl) dX6_takesDigit_111 (fun H locs hP hD hS => ?_)
                  have hP : va_P D vwCl [(m0, .inr (6, [.ref m1, .int st, .ref m2, .int len, .ref m3, .int th, .int wo, .ref m4, .int rd, .int nu, .int du, .ref m5, .long hs])), (m1, .inl (kA 0, 148, .inl z)), (m2, .inl (kA 0, 888, .inl h)), (m3, .inl (kA 0, 60, .inl tx)), (m4, .inl (kA 0, 72, .inl pt)), (m5, .inl (kA 0, 148, .inl kp))] H := hP
                  have hD : va_D (Aw [(m0, .inr (6, [.ref m1, .int st, .ref m2, .int len, .ref m3, .int th, .int wo, .ref m4, .int rd, .int nu, .int du, .ref m5, .long hs])), (m1, .inl (kA 0, 148, .inl z)), (m2, .inl (kA 0, 888, .inl h)), (m3, .inl (kA 0, 60, .inl tx)), (m4, .inl (kA 0, 72, .inl pt)), (m5, .inl (kA 0, 148, .inl kp))]) [(m0, .inr (6, [.ref m1, .int st, .ref m2, .int len, .ref m3, .int th, .int wo, .ref m4, .int rd, .int nu, .int du, .ref m5, .long hs])), (m1, .inl (kA 0, 148, .inl z)), (m2, .inl (kA 0, 888, .inl h)), (m3, .inl (kA 0, 60, .inl tx)), (m4, .inl (kA 0, 72, .inl pt)), (m5, .inl (kA 0, 148, .inl kp))] := hD
                  refine lv_iload hx hb dX6_takesDigit_114 (lv_at hl 0 rfl) ?_
                  have hP : va_P D vwCl [(m0, .inr (6, [.ref m1, .int st, .ref m2, .int len, .ref m3, .int th, .int wo, .ref m4, .int rd, .int nu, .int du, .ref m5, .long hs])), (m1, .inl (kA 0, 148, .inl z)), (m2, .inl (kA 0, 888, .inl h)), (m3, .inl (kA 0, 60, .inl tx)), (m4, .inl (kA 0, 72, .inl pt)), (m5, .inl (kA 0, 148, .inl kp))] _ := hP.sub [0, 1, 2, 3, 4, 5] rfl
                  exact end_fz hx hb hrt hlk (by decide) hP hS (by rw [dgB, if_pos c_3, if_neg c_5, if_pos c_7, if_neg (by rw [c_13]; decide)]; rfl) (fun hq => by have hd : dgB pt nr nu p0 = false := (by rw [dgB, if_pos c_3, if_neg c_5, if_pos c_7, if_neg (by rw [c_13]; decide)]); simp only [hd, if_true, Bool.false_eq_true, if_false]; exact hq) dX6_takesDigit_116
                · exact absurd c_14 (by decide)
              · skip
                replace c_13 := bI_n0 c_13
                refine lv_iconst (v := 1) hx hb dX6_takesDigit_90 (by decide) ?_
                refine lv_goto (tgt := 95) hx hb dX6_takesDigit_91 (by decide) ?_
                refine lv_istore (lv' := [(4, .int 1), (3, .int (dgV nu p0)), (2, .int (bI (eqB (pt (3 * nr + 1)) 61))), (0, .ref m0), (1, .int p0)]) hx hb dX6_takesDigit_95 hl (by decide) rfl (fun ls hl => ?_)
                refine lv_aload_n hx hb dX6_takesDigit_97 rfl (lv_at hl 3 rfl) ?_
                refine lv_iload hx hb dX6_takesDigit_98 (lv_at hl 0 rfl) ?_
                refine lv_if_eq (tgt := 107) hx hb dX6_takesDigit_100 (by decide) (fun c_15 => ?_) (fun c_15 => ?_)
                · exact absurd c_15 (by decide)
                · skip
                  refine lv_iload_n hx hb dX6_takesDigit_103 rfl (lv_at hl 1 rfl) ?_
                  refine lv_goto (tgt := 111) hx hb dX6_takesDigit_104 (by decide) ?_
                  refine va_put (ci := 6) (v := .int (dgV nu p0)) (ty := tyX6 9) (C := RX6) (T := TX6) (N := 13) hx hb hts inX6 tyX6 tyX6_ok nmX6 hown hK hP hD hS 0 rfl rfl 9 (by decide) (hts _ q_779) (fun _ h9 => h9) rfl (tyX6_ok 9 (by decide)) rfl rfl (Nat.le_of_ble_eq_true rfl) dX6_takesDigit_111 (fun H locs hP hD hS => ?_)
                  have hP : va_P D vwCl [(m0, .inr (6, [.ref m1, .int st, .ref m2, .int len, .ref m3, .int th, .int wo, .ref m4, .int rd, .int (dgV nu p0), .int du, .ref m5, .long hs])), (m1, .inl (kA 0, 148, .inl z)), (m2, .inl (kA 0, 888, .inl h)), (m3, .inl (kA 0, 60, .inl tx)), (m4, .inl (kA 0, 72, .inl pt)), (m5, .inl (kA 0, 148, .inl kp))] H := hP
                  have hD : va_D (Aw [(m0, .inr (6, [.ref m1, .int st, .ref m2, .int len, .ref m3, .int th, .int wo, .ref m4, .int rd, .int nu, .int du, .ref m5, .long hs])), (m1, .inl (kA 0, 148, .inl z)), (m2, .inl (kA 0, 888, .inl h)), (m3, .inl (kA 0, 60, .inl tx)), (m4, .inl (kA 0, 72, .inl pt)), (m5, .inl (kA 0, 148, .inl kp))]) [(m0, .inr (6, [.ref m1, .int st, .ref m2, .int len, .ref m3, .int th, .int wo, .ref m4, .int rd, .int (dgV nu p0), .int du, .ref m5, .long hs])), (m1, .inl (kA 0, 148, .inl z)), (m2, .inl (kA 0, 888, .inl h)), (m3, .inl (kA 0, 60, .inl tx)), (m4, .inl (kA 0, 72, .inl pt)), (m5, .inl (kA 0, 148, .inl kp))] := hD
                  refine lv_iload hx hb dX6_takesDigit_114 (lv_at hl 0 rfl) ?_
                  have hP : va_P D vwCl [(m0, .inr (6, [.ref m1, .int st, .ref m2, .int len, .ref m3, .int th, .int wo, .ref m4, .int rd, .int (dgV nu p0), .int du, .ref m5, .long hs])), (m1, .inl (kA 0, 148, .inl z)), (m2, .inl (kA 0, 888, .inl h)), (m3, .inl (kA 0, 60, .inl tx)), (m4, .inl (kA 0, 72, .inl pt)), (m5, .inl (kA 0, 148, .inl kp))] _ := hP.sub [0, 1, 2, 3, 4, 5] rfl
                  exact end_fz hx hb hrt hlk (by decide) hP hS (by rw [dgB, if_pos c_3, if_neg c_5, if_pos c_7, if_pos c_13]; rfl) (fun hq => by have hd : dgB pt nr nu p0 = true := (by rw [dgB, if_pos c_3, if_neg c_5, if_pos c_7, if_pos c_13]); simp only [hd, if_true, Bool.false_eq_true, if_false]; exact hq) dX6_takesDigit_116
    refine lv_icmp_ne (tgt := 36) hx hb dX6_takesDigit_29 (by decide) (fun c_16 => ?_) (fun c_16 => ?_)
    · skip
      refine lv_bipush (v := 10) hx hb dX6_takesDigit_36 (by decide) ?_
      refine lv_aload_n hx hb dX6_takesDigit_38 rfl (lv_at hl 1 rfl) ?_
      refine va_get (ci := 6) (v := .int nu) (C := RX6) (T := TX6) (N := 13) hx hb hts inX6 hown hK hP 0 rfl rfl 9 (by decide) (hts _ q_779) (fun _ h9 => h9) rfl dX6_takesDigit_39 ?_
      refine lv_imul hx hb dX6_takesDigit_42 ?_
      refine lv_iload_n hx hb dX6_takesDigit_43 rfl (lv_at hl 2 rfl) ?_
      refine lv_iadd hx hb dX6_takesDigit_44 ?_
      exact jn_29_1 _ (by rw [if_neg c_16])
    · skip
      refine lv_iload_n hx hb dX6_takesDigit_32 rfl (lv_at hl 2 rfl) ?_
      refine lv_goto (tgt := 45) hx hb dX6_takesDigit_33 (by decide) ?_
      exact jn_29_1 _ (by rw [if_pos c_16])
  refine lv_icmp_ne (tgt := 22) hx hb dX6_takesDigit_15 (by decide) (fun c_17 => ?_) (fun c_17 => ?_)
  · skip
    refine lv_iconst (v := 0) hx hb dX6_takesDigit_22 (by decide) ?_
    exact jn_15_0 _ (by rw [if_neg c_17])
  · skip
    refine lv_iconst (v := 1) hx hb dX6_takesDigit_18 (by decide) ?_
    refine lv_goto (tgt := 23) hx hb dX6_takesDigit_19 (by decide) ?_
    exact jn_15_0 _ (by rw [if_pos c_17])

theorem hd_X6_isEnded : yX6_isEnded.cls ≠ "java/lang/invoke/MethodHandle" ∧ yX6_isEnded.cls ≠ "java/lang/invoke/VarHandle" ∧ (parseMethodDescriptor yX6_isEnded.desc).map (fun d => d.parameters.length) = some 0 := by decide +kernel
set_option maxRecDepth 100000 in
set_option maxHeartbeats 4000000 in
theorem m_X6_isEnded (l : Launch) (D : va_G) (kA : Nat → Nat) (m0 : Nat) (m1 : Nat) (m2 : Nat) (m3 : Nat) (m4 : Nat) (m5 : Nat) (z : Nat → Int32) (h : Nat → Int32) (tx : Nat → Int32) (pt : Nat → Int32) (kp : Nat → Int32) (st : Int32) (len : Int32) (th : Int32) (wo : Int32) (rd : Int32) (nu : Int32) (du : Int32) (hs : Int64) : Met l yX6_isEnded (Cond.code yX6_isEnded cX6_isEnded 1 (some .boolean) :: AW) ({ frames := 0, cells := 0, slots := 0, locals := 0 } : Room) (Pz [.ref m0] D (TY kA) [(m0, .inr (6, [.ref m1, .int st, .ref m2, .int len, .ref m3, .int th, .int wo, .ref m4, .int rd, .int nu, .int du, .ref m5, .long hs])), (m1, .inl (kA 0, 148, .inl z)), (m2, .inl (kA 0, 888, .inl h)), (m3, .inl (kA 0, 60, .inl tx)), (m4, .inl (kA 0, 72, .inl pt)), (m5, .inl (kA 0, 148, .inl kp))]) (pQ (some (.int (bI (edB nu du))))) 0 0 (fun _ => False) := by
  refine MetZ (by decide +kernel) (Nat.le_of_ble_eq_true rfl) ?_
  intro p e s m below meth c ls hx hb hrt hts hown hml hlk hnm hP hK hD hS hl
  have hl : lv_has ls 1 [(0, .ref m0)] := hl
  refine lv_aload_n hx hb dX6_isEnded_0 rfl (lv_at hl 0 rfl) ?_
  refine va_get (ci := 6) (v := .int du) (C := RX6) (T := TX6) (N := 13) hx hb hts inX6 hown hK hP 0 rfl rfl 10 (by decide) (hts _ q_780) (fun _ h9 => h9) rfl dX6_isEnded_1 ?_
  refine lv_iconst (v := 3) hx hb dX6_isEnded_4 (by decide) ?_
  refine lv_icmp_eq (tgt := 24) hx hb dX6_isEnded_5 (by decide) (fun c_1 => ?_) (fun c_1 => ?_)
  · skip
    refine lv_iconst (v := 1) hx hb dX6_isEnded_24 (by decide) ?_
    refine lv_goto (tgt := 29) hx hb dX6_isEnded_25 (by decide) ?_
    exact end_pz hx hb hrt hlk (by decide) (by rw [edB, if_pos c_1]; rfl) dX6_isEnded_29
  · skip
    refine lv_aload_n hx hb dX6_isEnded_8 rfl (lv_at hl 0 rfl) ?_
    refine va_get (ci := 6) (v := .int du) (C := RX6) (T := TX6) (N := 13) hx hb hts inX6 hown hK hP 0 rfl rfl 10 (by decide) (hts _ q_780) (fun _ h9 => h9) rfl dX6_isEnded_9 ?_
    refine lv_iconst (v := 2) hx hb dX6_isEnded_12 (by decide) ?_
    refine lv_icmp_ne (tgt := 28) hx hb dX6_isEnded_13 (by decide) (fun c_2 => ?_) (fun c_2 => ?_)
    · skip
      refine lv_iconst (v := 0) hx hb dX6_isEnded_28 (by decide) ?_
      exact end_pz hx hb hrt hlk (by decide) (by rw [edB, if_neg c_1, if_neg c_2]; rfl) dX6_isEnded_29
    · skip
      refine lv_aload_n hx hb dX6_isEnded_16 rfl (lv_at hl 0 rfl) ?_
      refine va_get (ci := 6) (v := .int nu) (C := RX6) (T := TX6) (N := 13) hx hb hts inX6 hown hK hP 0 rfl rfl 9 (by decide) (hts _ q_779) (fun _ h9 => h9) rfl dX6_isEnded_17 ?_
      refine lv_iconst (v := (-1)) hx hb dX6_isEnded_20 (by decide) ?_
      refine lv_icmp_eq (tgt := 28) hx hb dX6_isEnded_21 (by decide) (fun c_3 => ?_) (fun c_3 => ?_)
      · skip
        refine lv_iconst (v := 0) hx hb dX6_isEnded_28 (by decide) ?_
        exact end_pz hx hb hrt hlk (by decide) (by rw [edB, if_neg c_1, if_pos c_2, if_pos c_3]; rfl) dX6_isEnded_29
      · skip
        refine lv_iconst (v := 1) hx hb dX6_isEnded_24 (by decide) ?_
        refine lv_goto (tgt := 29) hx hb dX6_isEnded_25 (by decide) ?_
        exact end_pz hx hb hrt hlk (by decide) (by rw [edB, if_neg c_1, if_pos c_2, if_neg c_3]; rfl) dX6_isEnded_29

theorem hd_X6_endCommand : yX6_endCommand.cls ≠ "java/lang/invoke/MethodHandle" ∧ yX6_endCommand.cls ≠ "java/lang/invoke/VarHandle" ∧ (parseMethodDescriptor yX6_endCommand.desc).map (fun d => d.parameters.length) = some 0 := by decide +kernel
set_option maxRecDepth 100000 in
set_option maxHeartbeats 4000000 in
theorem m_X6_endCommand (l : Launch) (D : va_G) (kA : Nat → Nat) (m0 : Nat) (m1 : Nat) (m2 : Nat) (m3 : Nat) (m4 : Nat) (m5 : Nat) (z : Nat → Int32) (h : Nat → Int32) (tx : Nat → Int32) (pt : Nat → Int32) (kp : Nat → Int32) (st : Int32) (len : Int32) (th : Int32) (wo : Int32) (rd : Int32) (nu : Int32) (du : Int32) (hs : Int64) (nr : Nat) (hrd : rd = nI nr) (hnr : nr < 23) : Met l yX6_endCommand (Cond.code yX6_endCommand cX6_endCommand 1 none :: AW) ({ frames := 0, cells := 0, slots := 0, locals := 0 } : Room) (Pz [.ref m0] D (TY kA) [(m0, .inr (6, [.ref m1, .int st, .ref m2, .int len, .ref m3, .int th, .int wo, .ref m4, .int rd, .int nu, .int du, .ref m5, .long hs])), (m1, .inl (kA 0, 148, .inl z)), (m2, .inl (kA 0, 888, .inl h)), (m3, .inl (kA 0, 60, .inl tx)), (m4, .inl (kA 0, 72, .inl pt)), (m5, .inl (kA 0, 148, .inl kp))]) (fQ none D [(m0, .inr (6, [.ref m1, .int st, .ref m2, .int len, .ref m3, .int th, .int wo, .ref m4, .int rd, .int nu, .int du, .ref m5, .long hs])), (m1, .inl (kA 0, 148, .inl z)), (m2, .inl (kA 0, 888, .inl h)), (m3, .inl (kA 0, 60, .inl tx)), (m4, .inl (kA 0, 72, .inl pt)), (m5, .inl (kA 0, 148, .inl kp))] [(m0, .inr (6, [.ref m1, .int st, .ref m2, .int len, .ref m3, .int th, .int wo, .ref m4, .int (nI (nr + 1)), .int (-1), .int 0, .ref m5, .long hs])), (m1, .inl (kA 0, 148, .inl z)), (m2, .inl (kA 0, 888, .inl h)), (m3, .inl (kA 0, 60, .inl tx)), (m4, .inl (kA 0, 72, .inl (upd pt (3 * nr + 2) nu))), (m5, .inl (kA 0, 148, .inl kp))]) 0 0 (Aw [(m0, .inr (6, [.ref m1, .int st, .ref m2, .int len, .ref m3, .int th, .int wo, .ref m4, .int rd, .int nu, .int du, .ref m5, .long hs])), (m1, .inl (kA 0, 148, .inl z)), (m2, .inl (kA 0, 888, .inl h)), (m3, .inl (kA 0, 60, .inl tx)), (m4, .inl (kA 0, 72, .inl pt)), (m5, .inl (kA 0, 148, .inl kp))]) := by
  refine MetZ (by decide +kernel) (Nat.le_of_ble_eq_true rfl) ?_
  intro p e s m below meth c ls hx hb hrt hts hown hml hlk hnm hP hK hD hS hl
  have hl : lv_has ls 1 [(0, .ref m0)] := hl
  refine lv_aload_n hx hb dX6_endCommand_0 rfl (lv_at hl 0 rfl) ?_
  refine va_get (ci := 6) (v := .ref m4) (C := RX6) (T := TX6) (N := 13) hx hb hts inX6 hown hK hP 0 rfl rfl 7 (by decide) (hts _ q_777) (fun _ h9 => h9) rfl dX6_endCommand_1 ?_
  refine lv_iconst (v := 3) hx hb dX6_endCommand_4 (by decide) ?_
  refine lv_aload_n hx hb dX6_endCommand_5 rfl (lv_at hl 0 rfl) ?_
  refine va_get (ci := 6) (v := .int rd) (C := RX6) (T := TX6) (N := 13) hx hb hts inX6 hown hK hP 0 rfl rfl 8 (by decide) (hts _ q_778) (fun _ h9 => h9) rfl dX6_endCommand_6 ?_
  refine lv_imul hx hb dX6_endCommand_9 ?_
  refine lv_iconst (v := 2) hx hb dX6_endCommand_10 (by decide) ?_
  refine lv_iadd hx hb dX6_endCommand_11 ?_
  refine lv_aload_n hx hb dX6_endCommand_12 rfl (lv_at hl 0 rfl) ?_
  refine va_get (ci := 6) (v := .int nu) (C := RX6) (T := TX6) (N := 13) hx hb hts inX6 hown hK hP 0 rfl rfl 9 (by decide) (hts _ q_779) (fun _ h9 => h9) rfl dX6_endCommand_13 ?_
  refine va_iast (f := pt) hx hb hK hP hD hS 4 0 rfl rfl (in_nI (ix32 hrd) (by omega) (by decide)) dX6_endCommand_16 (fun H locs hP hD hS => ?_)
  have hP : va_P D vwCl [(m0, .inr (6, [.ref m1, .int st, .ref m2, .int len, .ref m3, .int th, .int wo, .ref m4, .int rd, .int nu, .int du, .ref m5, .long hs])), (m1, .inl (kA 0, 148, .inl z)), (m2, .inl (kA 0, 888, .inl h)), (m3, .inl (kA 0, 60, .inl tx)), (m4, .inl (kA 0, 72, .inl (upd pt ((3 * rd) + 2).toNatClampNeg nu))), (m5, .inl (kA 0, 148, .inl kp))] H := hP
  have hD : va_D (Aw [(m0, .inr (6, [.ref m1, .int st, .ref m2, .int len, .ref m3, .int th, .int wo, .ref m4, .int rd, .int nu, .int du, .ref m5, .long hs])), (m1, .inl (kA 0, 148, .inl z)), (m2, .inl (kA 0, 888, .inl h)), (m3, .inl (kA 0, 60, .inl tx)), (m4, .inl (kA 0, 72, .inl pt)), (m5, .inl (kA 0, 148, .inl kp))]) [(m0, .inr (6, [.ref m1, .int st, .ref m2, .int len, .ref m3, .int th, .int wo, .ref m4, .int rd, .int nu, .int du, .ref m5, .long hs])), (m1, .inl (kA 0, 148, .inl z)), (m2, .inl (kA 0, 888, .inl h)), (m3, .inl (kA 0, 60, .inl tx)), (m4, .inl (kA 0, 72, .inl (upd pt ((3 * rd) + 2).toNatClampNeg nu))), (m5, .inl (kA 0, 148, .inl kp))] := hD
  refine lv_aload_n hx hb dX6_endCommand_17 rfl (lv_at hl 0 rfl) ?_
  refine lv_dup hx hb dX6_endCommand_18 rfl ?_
  refine va_get (ci := 6) (v := .int rd) (C := RX6) (T := TX6) (N := 13) hx hb hts inX6 hown hK hP 0 rfl rfl 8 (by decide) (hts _ q_778) (fun _ h9 => h9) rfl dX6_endCommand_19 ?_
  refine lv_iconst (v := 1) hx hb dX6_endCommand_22 (by decide) ?_
  refine lv_iadd hx hb dX6_endCommand_23 ?_
  refine va_put (ci := 6) (v := .int (rd + 1)) (ty := tyX6 8) (C := RX6) (T := TX6) (N := 13) hx hb hts inX6 tyX6 tyX6_ok nmX6 hown hK hP hD hS 0 rfl rfl 8 (by decide) (hts _ q_778) (fun _ h9 => h9) rfl (tyX6_ok 8 (by decide)) rfl rfl (Nat.le_of_ble_eq_true rfl) dX6_endCommand_24 (fun H locs hP hD hS => ?_)
  have hP : va_P D vwCl [(m0, .inr (6, [.ref m1, .int st, .ref m2, .int len, .ref m3, .int th, .int wo, .ref m4, .int (rd + 1), .int nu, .int du, .ref m5, .long hs])), (m1, .inl (kA 0, 148, .inl z)), (m2, .inl (kA 0, 888, .inl h)), (m3, .inl (kA 0, 60, .inl tx)), (m4, .inl (kA 0, 72, .inl (upd pt ((3 * rd) + 2).toNatClampNeg nu))), (m5, .inl (kA 0, 148, .inl kp))] H := hP
  have hD : va_D (Aw [(m0, .inr (6, [.ref m1, .int st, .ref m2, .int len, .ref m3, .int th, .int wo, .ref m4, .int rd, .int nu, .int du, .ref m5, .long hs])), (m1, .inl (kA 0, 148, .inl z)), (m2, .inl (kA 0, 888, .inl h)), (m3, .inl (kA 0, 60, .inl tx)), (m4, .inl (kA 0, 72, .inl pt)), (m5, .inl (kA 0, 148, .inl kp))]) [(m0, .inr (6, [.ref m1, .int st, .ref m2, .int len, .ref m3, .int th, .int wo, .ref m4, .int (rd + 1), .int nu, .int du, .ref m5, .long hs])), (m1, .inl (kA 0, 148, .inl z)), (m2, .inl (kA 0, 888, .inl h)), (m3, .inl (kA 0, 60, .inl tx)), (m4, .inl (kA 0, 72, .inl (upd pt ((3 * rd) + 2).toNatClampNeg nu))), (m5, .inl (kA 0, 148, .inl kp))] := hD
  refine lv_aload_n hx hb dX6_endCommand_27 rfl (lv_at hl 0 rfl) ?_
  refine lv_iconst (v := (-1)) hx hb dX6_endCommand_28 (by decide) ?_
  refine va_put (ci := 6) (v := .int (-1)) (ty := tyX6 9) (C := RX6) (T := TX6) (N := 13) hx hb hts inX6 tyX6 tyX6_ok nmX6 hown hK hP hD hS 0 rfl rfl 9 (by decide) (hts _ q_779) (fun _ h9 => h9) rfl (tyX6_ok 9 (by decide)) rfl rfl (Nat.le_of_ble_eq_true rfl) dX6_endCommand_29 (fun H locs hP hD hS => ?_)
  have hP : va_P D vwCl [(m0, .inr (6, [.ref m1, .int st, .ref m2, .int len, .ref m3, .int th, .int wo, .ref m4, .int (rd + 1), .int (-1), .int du, .ref m5, .long hs])), (m1, .inl (kA 0, 148, .inl z)), (m2, .inl (kA 0, 888, .inl h)), (m3, .inl (kA 0, 60, .inl tx)), (m4, .inl (kA 0, 72, .inl (upd pt ((3 * rd) + 2).toNatClampNeg nu))), (m5, .inl (kA 0, 148, .inl kp))] H := hP
  have hD : va_D (Aw [(m0, .inr (6, [.ref m1, .int st, .ref m2, .int len, .ref m3, .int th, .int wo, .ref m4, .int rd, .int nu, .int du, .ref m5, .long hs])), (m1, .inl (kA 0, 148, .inl z)), (m2, .inl (kA 0, 888, .inl h)), (m3, .inl (kA 0, 60, .inl tx)), (m4, .inl (kA 0, 72, .inl pt)), (m5, .inl (kA 0, 148, .inl kp))]) [(m0, .inr (6, [.ref m1, .int st, .ref m2, .int len, .ref m3, .int th, .int wo, .ref m4, .int (rd + 1), .int (-1), .int du, .ref m5, .long hs])), (m1, .inl (kA 0, 148, .inl z)), (m2, .inl (kA 0, 888, .inl h)), (m3, .inl (kA 0, 60, .inl tx)), (m4, .inl (kA 0, 72, .inl (upd pt ((3 * rd) + 2).toNatClampNeg nu))), (m5, .inl (kA 0, 148, .inl kp))] := hD
  refine lv_aload_n hx hb dX6_endCommand_32 rfl (lv_at hl 0 rfl) ?_
  refine lv_iconst (v := 0) hx hb dX6_endCommand_33 (by decide) ?_
  refine va_put (ci := 6) (v := .int 0) (ty := tyX6 10) (C := RX6) (T := TX6) (N := 13) hx hb hts inX6 tyX6 tyX6_ok nmX6 hown hK hP hD hS 0 rfl rfl 10 (by decide) (hts _ q_780) (fun _ h9 => h9) rfl (tyX6_ok 10 (by decide)) rfl rfl (Nat.le_of_ble_eq_true rfl) dX6_endCommand_34 (fun H locs hP hD hS => ?_)
  have hP : va_P D vwCl [(m0, .inr (6, [.ref m1, .int st, .ref m2, .int len, .ref m3, .int th, .int wo, .ref m4, .int (rd + 1), .int (-1), .int 0, .ref m5, .long hs])), (m1, .inl (kA 0, 148, .inl z)), (m2, .inl (kA 0, 888, .inl h)), (m3, .inl (kA 0, 60, .inl tx)), (m4, .inl (kA 0, 72, .inl (upd pt ((3 * rd) + 2).toNatClampNeg nu))), (m5, .inl (kA 0, 148, .inl kp))] H := hP
  have hD : va_D (Aw [(m0, .inr (6, [.ref m1, .int st, .ref m2, .int len, .ref m3, .int th, .int wo, .ref m4, .int rd, .int nu, .int du, .ref m5, .long hs])), (m1, .inl (kA 0, 148, .inl z)), (m2, .inl (kA 0, 888, .inl h)), (m3, .inl (kA 0, 60, .inl tx)), (m4, .inl (kA 0, 72, .inl pt)), (m5, .inl (kA 0, 148, .inl kp))]) [(m0, .inr (6, [.ref m1, .int st, .ref m2, .int len, .ref m3, .int th, .int wo, .ref m4, .int (rd + 1), .int (-1), .int 0, .ref m5, .long hs])), (m1, .inl (kA 0, 148, .inl z)), (m2, .inl (kA 0, 888, .inl h)), (m3, .inl (kA 0, 60, .inl tx)), (m4, .inl (kA 0, 72, .inl (upd pt ((3 * rd) + 2).toNatClampNeg nu))), (m5, .inl (kA 0, 148, .inl kp))] := hD
  have hP : va_P D vwCl [(m0, .inr (6, [.ref m1, .int st, .ref m2, .int len, .ref m3, .int th, .int wo, .ref m4, .int (rd + 1), .int (-1), .int 0, .ref m5, .long hs])), (m1, .inl (kA 0, 148, .inl z)), (m2, .inl (kA 0, 888, .inl h)), (m3, .inl (kA 0, 60, .inl tx)), (m4, .inl (kA 0, 72, .inl (upd pt ((3 * rd) + 2).toNatClampNeg nu))), (m5, .inl (kA 0, 148, .inl kp))] _ := hP.sub [0, 1, 2, 3, 4, 5] rfl
  exact end_fv hx hb hrt hlk hP hS (fun hq => by rw [clamp_j (ix32 hrd) (by omega), hrd, nI_1] at hq; exact hq) dX6_endCommand_37

theorem hd_X6_takes : yX6_takes.cls ≠ "java/lang/invoke/MethodHandle" ∧ yX6_takes.cls ≠ "java/lang/invoke/VarHandle" ∧ (parseMethodDescriptor yX6_takes.desc).map (fun d => d.parameters.length) = some 1 := by decide +kernel
set_option maxRecDepth 100000 in
set_option maxHeartbeats 4000000 in
theorem m_X6_takes (l : Launch) (D : va_G) (kA : Nat → Nat) (m0 : Nat) (m1 : Nat) (m2 : Nat) (m3 : Nat) (m4 : Nat) (m5 : Nat) (z : Nat → Int32) (h : Nat → Int32) (tx : Nat → Int32) (pt : Nat → Int32) (kp : Nat → Int32) (st : Int32) (len : Int32) (th : Int32) (wo : Int32) (rd : Int32) (nu : Int32) (du : Int32) (hs : Int64) (nr : Nat) (p0 : Int32) (hrd : rd = nI nr) (hnr : nr < 23) : Met l yX6_takes (Cond.code yX6_takes cX6_takes 2 (some .boolean) :: AW) ({ frames := 2, cells := 0, slots := 0, locals := 46 } : Room) (Pz [.ref m0, .int p0] D (TY kA) [(m0, .inr (6, [.ref m1, .int st, .ref m2, .int len, .ref m3, .int th, .int wo, .ref m4, .int rd, .int nu, .int du, .ref m5, .long hs])), (m1, .inl (kA 0, 148, .inl z)), (m2, .inl (kA 0, 888, .inl h)), (m3, .inl (kA 0, 60, .inl tx)), (m4, .inl (kA 0, 72, .inl pt)), (m5, .inl (kA 0, 148, .inl kp))]) (fQ (some (.int (bI (tkM (pt, nr, nu, du) p0).1))) D [(m0, .inr (6, [.ref m1, .int st, .ref m2, .int len, .ref m3, .int th, .int wo, .ref m4, .int rd, .int nu, .int du, .ref m5, .long hs])), (m1, .inl (kA 0, 148, .inl z)), (m2, .inl (kA 0, 888, .inl h)), (m3, .inl (kA 0, 60, .inl tx)), (m4, .inl (kA 0, 72, .inl pt)), (m5, .inl (kA 0, 148, .inl kp))] [(m0, .inr (6, [.ref m1, .int st, .ref m2, .int len, .ref m3, .int th, .int wo, .ref m4, .int (nI (tkM (pt, nr, nu, du) p0).2.2.1), .int ((tkM (pt, nr, nu, du) p0).2.2.2.1), .int ((tkM (pt, nr, nu, du) p0).2.2.2.2), .ref m5, .long hs])), (m1, .inl (kA 0, 148, .inl z)), (m2, .inl (kA 0, 888, .inl h)), (m3, .inl (kA 0, 60, .inl tx)), (m4, .inl (kA 0, 72, .inl ((tkM (pt, nr, nu, du) p0).2.1))), (m5, .inl (kA 0, 148, .inl kp))]) 0 0 (Aw [(m0, .inr (6, [.ref m1, .int st, .ref m2, .int len, .ref m3, .int th, .int wo, .ref m4, .int rd, .int nu, .int du, .ref m5, .long hs])), (m1, .inl (kA 0, 148, .inl z)), (m2, .inl (kA 0, 888, .inl h)), (m3, .inl (kA 0, 60, .inl tx)), (m4, .inl (kA 0, 72, .inl pt)), (m5, .inl (kA 0, 148, .inl kp))]) := by
  refine MetZ (by decide +kernel) (Nat.le_of_ble_eq_true rfl) ?_
  intro p e s m below meth c ls hx hb hrt hts hown hml hlk hnm hP hK hD hS hl
  have hl : lv_has ls 2 [(0, .ref m0), (1, .int p0)] := hl
  refine lv_aload_n hx hb dX6_takes_0 rfl (lv_at hl 0 rfl) ?_
  refine va_get (ci := 6) (v := .int du) (C := RX6) (T := TX6) (N := 13) hx hb hts inX6 hown hK hP 0 rfl rfl 10 (by decide) (hts _ q_780) (fun _ h9 => h9) rfl dX6_takes_1 ?_
  refine lv_if_ne (tgt := 36) hx hb dX6_takes_4 (by decide) (fun c_1 => ?_) (fun c_1 => ?_)
  · skip
    refine lv_aload_n hx hb dX6_takes_36 rfl (lv_at hl 0 rfl) ?_
    refine va_get (ci := 6) (v := .int du) (C := RX6) (T := TX6) (N := 13) hx hb hts inX6 hown hK hP 0 rfl rfl 10 (by decide) (hts _ q_780) (fun _ h9 => h9) rfl dX6_takes_37 ?_
    refine lv_iconst (v := 1) hx hb dX6_takes_40 (by decide) ?_
    refine lv_icmp_ne (tgt := 50) hx hb dX6_takes_41 (by decide) (fun c_2 => ?_) (fun c_2 => ?_)
    · skip
      refine lv_iload_n hx hb dX6_takes_50 rfl (lv_at hl 1 rfl) ?_
      refine lv_bipush (v := 59) hx hb dX6_takes_51 (by decide) ?_
      refine lv_icmp_ne (tgt := 69) hx hb dX6_takes_53 (by decide) (fun c_3 => ?_) (fun c_3 => ?_)
      · skip
        refine lv_aload_n hx hb dX6_takes_69 rfl (lv_at hl 0 rfl) ?_
        refine va_get (ci := 6) (v := .int du) (C := RX6) (T := TX6) (N := 13) hx hb hts inX6 hown hK hP 0 rfl rfl 10 (by decide) (hts _ q_780) (fun _ h9 => h9) rfl dX6_takes_70 ?_
        refine lv_iconst (v := 2) hx hb dX6_takes_73 (by decide) ?_
        refine lv_icmp_ne (tgt := 92) hx hb dX6_takes_74 (by decide) (fun c_4 => ?_) (fun c_4 => ?_)
        · skip
          refine lv_iconst (v := 0) hx hb dX6_takes_92 (by decide) ?_
          have hP : va_P D vwCl [(m0, .inr (6, [.ref m1, .int st, .ref m2, .int len, .ref m3, .int th, .int wo, .ref m4, .int rd, .int nu, .int du, .ref m5, .long hs])), (m1, .inl (kA 0, 148, .inl z)), (m2, .inl (kA 0, 888, .inl h)), (m3, .inl (kA 0, 60, .inl tx)), (m4, .inl (kA 0, 72, .inl pt)), (m5, .inl (kA 0, 148, .inl kp))] _ := hP.sub [0, 1, 2, 3, 4, 5] rfl
          exact end_fz hx hb hrt hlk (by decide) hP hS (by have hT : tkM (pt, nr, nu, du) p0 = (false, pt, nr, nu, du) := (by unfold tkM; simp only []; rw [if_neg c_1, if_neg c_2, if_neg c_3, tkX, if_neg c_4]); rw [hT]; rfl) (fun hq => by have hT : tkM (pt, nr, nu, du) p0 = (false, pt, nr, nu, du) := (by unfold tkM; simp only []; rw [if_neg c_1, if_neg c_2, if_neg c_3, tkX, if_neg c_4]); rw [hT]; rw [hrd] at hq; exact hq) dX6_takes_93
        · skip
          refine lv_aload_n hx hb dX6_takes_77 rfl (lv_at hl 0 rfl) ?_
          refine lv_iload_n hx hb dX6_takes_78 rfl (lv_at hl 1 rfl) ?_
          refine lv_bipush (v := 48) hx hb dX6_takes_79 (by decide) ?_
          refine lv_isub hx hb dX6_takes_81 ?_
          refine cs_fs (runV (As := [.int (p0 - 48)]) (rest := []) ⟨hx, hb, hml, hown, hts⟩ (m_X6_takesDigit l D kA m0 m1 m2 m3 m4 m5 z h tx pt kp st len th wo rd nu du hs nr (p0 - 48) (hrd) (hnr)) q_976 q_978 qp_46 q_7 q_979 hd_X6_takesDigit ⟨rfl, rfl⟩ ⟨Nat.le_of_ble_eq_true rfl, Nat.le_of_ble_eq_true rfl⟩ hK (ws := [(m0, .inr (6, [.ref m1, .int st, .ref m2, .int len, .ref m3, .int th, .int wo, .ref m4, .int rd, .int nu, .int du, .ref m5, .long hs])), (m1, .inl (kA 0, 148, .inl z)), (m2, .inl (kA 0, 888, .inl h)), (m3, .inl (kA 0, 60, .inl tx)), (m4, .inl (kA 0, 72, .inl pt)), (m5, .inl (kA 0, 148, .inl kp))]) (hP.sub [0, 1, 2, 3, 4, 5] rfl) (hD.sub [0, 1, 2, 3, 4, 5] (by decide) rfl) 0 (ci := 6) (C := RX6) (T := TX6) (N := 13) rfl rfl rfl hl.1 rfl (Nat.le_of_ble_eq_true rfl) dX6_takes_82 ⟨Nat.zero_le _, Nat.zero_le _⟩) hS (aw_sub hD (isC := [0, 1, 2, 3, 4, 5]) rfl) (fun H locs hP1 hk1 hS => ?_)
          obtain ⟨hP, hD⟩ := jn (wr := []) (w1 := [(m0, .inr (6, [.ref m1, .int st, .ref m2, .int len, .ref m3, .int th, .int wo, .ref m4, .int rd, .int (if dgB pt nr nu (p0 - 48) = true then dgV nu (p0 - 48) else nu), .int du, .ref m5, .long hs])), (m1, .inl (kA 0, 148, .inl z)), (m2, .inl (kA 0, 888, .inl h)), (m3, .inl (kA 0, 60, .inl tx)), (m4, .inl (kA 0, 72, .inl pt)), (m5, .inl (kA 0, 148, .inl kp))]) hP hD [0, 1, 2, 3, 4, 5] [] rfl rfl (by decide) hk1 hP1 rfl
          have hP : va_P D vwCl [(m0, .inr (6, [.ref m1, .int st, .ref m2, .int len, .ref m3, .int th, .int wo, .ref m4, .int rd, .int (if dgB pt nr nu (p0 - 48) = true then dgV nu (p0 - 48) else nu), .int du, .ref m5, .long hs])), (m1, .inl (kA 0, 148, .inl z)), (m2, .inl (kA 0, 888, .inl h)), (m3, .inl (kA 0, 60, .inl tx)), (m4, .inl (kA 0, 72, .inl pt)), (m5, .inl (kA 0, 148, .inl kp))] H := hP
          have hD : va_D (Aw [(m0, .inr (6, [.ref m1, .int st, .ref m2, .int len, .ref m3, .int th, .int wo, .ref m4, .int rd, .int nu, .int du, .ref m5, .long hs])), (m1, .inl (kA 0, 148, .inl z)), (m2, .inl (kA 0, 888, .inl h)), (m3, .inl (kA 0, 60, .inl tx)), (m4, .inl (kA 0, 72, .inl pt)), (m5, .inl (kA 0, 148, .inl kp))]) [(m0, .inr (6, [.ref m1, .int st, .ref m2, .int len, .ref m3, .int th, .int wo, .ref m4, .int rd, .int (if dgB pt nr nu (p0 - 48) = true then dgV nu (p0 - 48) else nu), .int du, .ref m5, .long hs])), (m1, .inl (kA 0, 148, .inl z)), (m2, .inl (kA 0, 888, .inl h)), (m3, .inl (kA 0, 60, .inl tx)), (m4, .inl (kA 0, 72, .inl pt)), (m5, .inl (kA 0, 148, .inl kp))] := hD
          refine lv_if_eq (tgt := 92) hx hb dX6_takes_85 (by decide) (fun c_5 => ?_) (fun c_5 => ?_)
          · skip
            replace c_5 := bI_0.mp c_5
            refine lv_iconst (v := 0) hx hb dX6_takes_92 (by decide) ?_
            have hP : va_P D vwCl [(m0, .inr (6, [.ref m1, .int st, .ref m2, .int len, .ref m3, .int th, .int wo, .ref m4, .int rd, .int (if dgB pt nr nu (p0 - 48) = true then dgV nu (p0 - 48) else nu), .int du, .ref m5, .long hs])), (m1, .inl (kA 0, 148, .inl z)), (m2, .inl (kA 0, 888, .inl h)), (m3, .inl (kA 0, 60, .inl tx)), (m4, .inl (kA 0, 72, .inl pt)), (m5, .inl (kA 0, 148, .inl kp))] _ := hP.sub [0, 1, 2, 3, 4, 5] rfl
            exact end_fz hx hb hrt hlk (by decide) hP hS (by have hT : tkM (pt, nr, nu, du) p0 = (false, pt, nr, nu, du) := (by unfold tkM; simp only []; rw [if_neg c_1, if_neg c_2, if_neg c_3, tkX, if_pos c_4, if_neg (by rw [c_5]; decide)]); rw [hT]; rfl) (fun hq => by have hT : tkM (pt, nr, nu, du) p0 = (false, pt, nr, nu, du) := (by unfold tkM; simp only []; rw [if_neg c_1, if_neg c_2, if_neg c_3, tkX, if_pos c_4, if_neg (by rw [c_5]; decide)]); simp only [c_5, if_true, Bool.false_eq_true, if_false] at hq; rw [hT]; rw [hrd] at hq; exact hq) dX6_takes_93
          · skip
            replace c_5 := bI_n0 c_5
            refine lv_iconst (v := 1) hx hb dX6_takes_88 (by decide) ?_
            refine lv_goto (tgt := 93) hx hb dX6_takes_89 (by decide) ?_
            have hP : va_P D vwCl [(m0, .inr (6, [.ref m1, .int st, .ref m2, .int len, .ref m3, .int th, .int wo, .ref m4, .int rd, .int (if dgB pt nr nu (p0 - 48) = true then dgV nu (p0 - 48) else nu), .int du, .ref m5, .long hs])), (m1, .inl (kA 0, 148, .inl z)), (m2, .inl (kA 0, 888, .inl h)), (m3, .inl (kA 0, 60, .inl tx)), (m4, .inl (kA 0, 72, .inl pt)), (m5, .inl (kA 0, 148, .inl kp))] _ := hP.sub [0, 1, 2, 3, 4, 5] rfl
            exact end_fz hx hb hrt hlk (by decide) hP hS (by have hT : tkM (pt, nr, nu, du) p0 = (true, pt, nr, dgV nu (p0 - 48), du) := (by unfold tkM; simp only []; rw [if_neg c_1, if_neg c_2, if_neg c_3, tkX, if_pos c_4, if_pos c_5]); rw [hT]; rfl) (fun hq => by have hT : tkM (pt, nr, nu, du) p0 = (true, pt, nr, dgV nu (p0 - 48), du) := (by unfold tkM; simp only []; rw [if_neg c_1, if_neg c_2, if_neg c_3, tkX, if_pos c_4, if_pos c_5]); simp only [c_5, if_true, Bool.false_eq_true, if_false] at hq; rw [hT]; rw [hrd] at hq; exact hq) dX6_takes_93
      · skip
        refine lv_aload_n hx hb dX6_takes_56 rfl (lv_at hl 0 rfl) ?_
        refine cs_p (runV (As := []) (rest := []) ⟨hx, hb, hml, hown, hts⟩ (m_X6_isEnded l D kA m0 m1 m2 m3 m4 m5 z h tx pt kp st len th wo rd nu du hs ) q_968 q_970 qp_44 q_7 q_971 hd_X6_isEnded ⟨rfl, rfl⟩ ⟨Nat.le_of_ble_eq_true rfl, Nat.le_of_ble_eq_true rfl⟩ hK (ws := [(m0, .inr (6, [.ref m1, .int st, .ref m2, .int len, .ref m3, .int th, .int wo, .ref m4, .int rd, .int nu, .int du, .ref m5, .long hs])), (m1, .inl (kA 0, 148, .inl z)), (m2, .inl (kA 0, 888, .inl h)), (m3, .inl (kA 0, 60, .inl tx)), (m4, .inl (kA 0, 72, .inl pt)), (m5, .inl (kA 0, 148, .inl kp))]) (hP.sub [0, 1, 2, 3, 4, 5] rfl) (hD.sub [0, 1, 2, 3, 4, 5] (by decide) rfl) 0 (ci := 6) (C := RX6) (T := TX6) (N := 13) rfl rfl rfl hl.1 rfl (Nat.le_of_ble_eq_true rfl) dX6_takes_57 ⟨Nat.zero_le _, Nat.zero_le _⟩) ?_
        refine lv_if_eq (tgt := 69) hx hb dX6_takes_60 (by decide) (fun c_6 => ?_) (fun c_6 => ?_)
        · skip
          replace c_6 := bI_0.mp c_6
          refine lv_aload_n hx hb dX6_takes_69 rfl (lv_at hl 0 rfl) ?_
          refine va_get (ci := 6) (v := .int du) (C := RX6) (T := TX6) (N := 13) hx hb hts inX6 hown hK hP 0 rfl rfl 10 (by decide) (hts _ q_780) (fun _ h9 => h9) rfl dX6_takes_70 ?_
          refine lv_iconst (v := 2) hx hb dX6_takes_73 (by decide) ?_
          refine lv_icmp_ne (tgt := 92) hx hb dX6_takes_74 (by decide) (fun c_7 => ?_) (fun c_7 => ?_)
          · skip
            refine lv_iconst (v := 0) hx hb dX6_takes_92 (by decide) ?_
            have hP : va_P D vwCl [(m0, .inr (6, [.ref m1, .int st, .ref m2, .int len, .ref m3, .int th, .int wo, .ref m4, .int rd, .int nu, .int du, .ref m5, .long hs])), (m1, .inl (kA 0, 148, .inl z)), (m2, .inl (kA 0, 888, .inl h)), (m3, .inl (kA 0, 60, .inl tx)), (m4, .inl (kA 0, 72, .inl pt)), (m5, .inl (kA 0, 148, .inl kp))] _ := hP.sub [0, 1, 2, 3, 4, 5] rfl
            exact end_fz hx hb hrt hlk (by decide) hP hS (by have hT : tkM (pt, nr, nu, du) p0 = (false, pt, nr, nu, du) := (by unfold tkM; simp only []; rw [if_neg c_1, if_neg c_2, if_pos c_3, if_neg (by rw [c_6]; decide), tkX, if_neg c_7]); rw [hT]; rfl) (fun hq => by have hT : tkM (pt, nr, nu, du) p0 = (false, pt, nr, nu, du) := (by unfold tkM; simp only []; rw [if_neg c_1, if_neg c_2, if_pos c_3, if_neg (by rw [c_6]; decide), tkX, if_neg c_7]); rw [hT]; rw [hrd] at hq; exact hq) dX6_takes_93
          · skip
            refine lv_aload_n hx hb dX6_takes_77 rfl (lv_at hl 0 rfl) ?_
            refine lv_iload_n hx hb dX6_takes_78 rfl (lv_at hl 1 rfl) ?_
            refine lv_bipush (v := 48) hx hb dX6_takes_79 (by decide) ?_
            refine lv_isub hx hb dX6_takes_81 ?_
            refine cs_fs (runV (As := [.int (p0 - 48)]) (rest := []) ⟨hx, hb, hml, hown, hts⟩ (m_X6_takesDigit l D kA m0 m1 m2 m3 m4 m5 z h tx pt kp st len th wo rd nu du hs nr (p0 - 48) (hrd) (hnr)) q_976 q_978 qp_46 q_7 q_979 hd_X6_takesDigit ⟨rfl, rfl⟩ ⟨Nat.le_of_ble_eq_true rfl, Nat.le_of_ble_eq_true rfl⟩ hK (ws := [(m0, .inr (6, [.ref m1, .int st, .ref m2, .int len, .ref m3, .int th, .int wo, .ref m4, .int rd, .int nu, .int du, .ref m5, .long hs])), (m1, .inl (kA 0, 148, .inl z)), (m2, .inl (kA 0, 888, .inl h)), (m3, .inl (kA 0, 60, .inl tx)), (m4, .inl (kA 0, 72, .inl pt)), (m5, .inl (kA 0, 148, .inl kp))]) (hP.sub [0, 1, 2, 3, 4, 5] rfl) (hD.sub [0, 1, 2, 3, 4, 5] (by decide) rfl) 0 (ci := 6) (C := RX6) (T := TX6) (N := 13) rfl rfl rfl hl.1 rfl (Nat.le_of_ble_eq_true rfl) dX6_takes_82 ⟨Nat.zero_le _, Nat.zero_le _⟩) hS (aw_sub hD (isC := [0, 1, 2, 3, 4, 5]) rfl) (fun H locs hP1 hk1 hS => ?_)
            obtain ⟨hP, hD⟩ := jn (wr := []) (w1 := [(m0, .inr (6, [.ref m1, .int st, .ref m2, .int len, .ref m3, .int th, .int wo, .ref m4, .int rd, .int (if dgB pt nr nu (p0 - 48) = true then dgV nu (p0 - 48) else nu), .int du, .ref m5, .long hs])), (m1, .inl (kA 0, 148, .inl z)), (m2, .inl (kA 0, 888, .inl h)), (m3, .inl (kA 0, 60, .inl tx)), (m4, .inl (kA 0, 72, .inl pt)), (m5, .inl (kA 0, 148, .inl kp))]) hP hD [0, 1, 2, 3, 4, 5] [] rfl rfl (by decide) hk1 hP1 rfl
            have hP : va_P D vwCl [(m0, .inr (6, [.ref m1, .int st, .ref m2, .int len, .ref m3, .int th, .int wo, .ref m4, .int rd, .int (if dgB pt nr nu (p0 - 48) = true then dgV nu (p0 - 48) else nu), .int du, .ref m5, .long hs])), (m1, .inl (kA 0, 148, .inl z)), (m2, .inl (kA 0, 888, .inl h)), (m3, .inl (kA 0, 60, .inl tx)), (m4, .inl (kA 0, 72, .inl pt)), (m5, .inl (kA 0, 148, .inl kp))] H := hP
            have hD : va_D (Aw [(m0, .inr (6, [.ref m1, .int st, .ref m2, .int len, .ref m3, .int th, .int wo, .ref m4, .int rd, .int nu, .int du, .ref m5, .long hs])), (m1, .inl (kA 0, 148, .inl z)), (m2, .inl (kA 0, 888, .inl h)), (m3, .inl (kA 0, 60, .inl tx)), (m4, .inl (kA 0, 72, .inl pt)), (m5, .inl (kA 0, 148, .inl kp))]) [(m0, .inr (6, [.ref m1, .int st, .ref m2, .int len, .ref m3, .int th, .int wo, .ref m4, .int rd, .int (if dgB pt nr nu (p0 - 48) = true then dgV nu (p0 - 48) else nu), .int du, .ref m5, .long hs])), (m1, .inl (kA 0, 148, .inl z)), (m2, .inl (kA 0, 888, .inl h)), (m3, .inl (kA 0, 60, .inl tx)), (m4, .inl (kA 0, 72, .inl pt)), (m5, .inl (kA 0, 148, .inl kp))] := hD
            refine lv_if_eq (tgt := 92) hx hb dX6_takes_85 (by decide) (fun c_8 => ?_) (fun c_8 => ?_)
            · skip
              replace c_8 := bI_0.mp c_8
              refine lv_iconst (v := 0) hx hb dX6_takes_92 (by decide) ?_
              have hP : va_P D vwCl [(m0, .inr (6, [.ref m1, .int st, .ref m2, .int len, .ref m3, .int th, .int wo, .ref m4, .int rd, .int (if dgB pt nr nu (p0 - 48) = true then dgV nu (p0 - 48) else nu), .int du, .ref m5, .long hs])), (m1, .inl (kA 0, 148, .inl z)), (m2, .inl (kA 0, 888, .inl h)), (m3, .inl (kA 0, 60, .inl tx)), (m4, .inl (kA 0, 72, .inl pt)), (m5, .inl (kA 0, 148, .inl kp))] _ := hP.sub [0, 1, 2, 3, 4, 5] rfl
              exact end_fz hx hb hrt hlk (by decide) hP hS (by have hT : tkM (pt, nr, nu, du) p0 = (false, pt, nr, nu, du) := (by unfold tkM; simp only []; rw [if_neg c_1, if_neg c_2, if_pos c_3, if_neg (by rw [c_6]; decide), tkX, if_pos c_7, if_neg (by rw [c_8]; decide)]); rw [hT]; rfl) (fun hq => by have hT : tkM (pt, nr, nu, du) p0 = (false, pt, nr, nu, du) := (by unfold tkM; simp only []; rw [if_neg c_1, if_neg c_2, if_pos c_3, if_neg (by rw [c_6]; decide), tkX, if_pos c_7, if_neg (by rw [c_8]; decide)]); simp only [c_8, if_true, Bool.false_eq_true, if_false] at hq; rw [hT]; rw [hrd] at hq; exact hq) dX6_takes_93
            · skip
              replace c_8 := bI_n0 c_8
              refine lv_iconst (v := 1) hx hb dX6_takes_88 (by decide) ?_
              refine lv_goto (tgt := 93) hx hb dX6_takes_89 (by decide) ?_
              have hP : va_P D vwCl [(m0, .inr (6, [.ref m1, .int st, .ref m2, .int len, .ref m3, .int th, .int wo, .ref m4, .int rd, .int (if dgB pt nr nu (p0 - 48) = true then dgV nu (p0 - 48) else nu), .int du, .ref m5, .long hs])), (m1, .inl (kA 0, 148, .inl z)), (m2, .inl (kA 0, 888, .inl h)), (m3, .inl (kA 0, 60, .inl tx)), (m4, .inl (kA 0, 72, .inl pt)), (m5, .inl (kA 0, 148, .inl kp))] _ := hP.sub [0, 1, 2, 3, 4, 5] rfl
              exact end_fz hx hb hrt hlk (by decide) hP hS (by have hT : tkM (pt, nr, nu, du) p0 = (true, pt, nr, dgV nu (p0 - 48), du) := (by unfold tkM; simp only []; rw [if_neg c_1, if_neg c_2, if_pos c_3, if_neg (by rw [c_6]; decide), tkX, if_pos c_7, if_pos c_8]); rw [hT]; rfl) (fun hq => by have hT : tkM (pt, nr, nu, du) p0 = (true, pt, nr, dgV nu (p0 - 48), du) := (by unfold tkM; simp only []; rw [if_neg c_1, if_neg c_2, if_pos c_3, if_neg (by rw [c_6]; decide), tkX, if_pos c_7, if_pos c_8]); simp only [c_8, if_true, Bool.false_eq_true, if_false] at hq; rw [hT]; rw [hrd] at hq; exact hq) dX6_takes_93
        · skip
          replace c_6 := bI_n0 c_6
          refine lv_aload_n hx hb dX6_takes_63 rfl (lv_at hl 0 rfl) ?_
          refine cs_fn (runV (As := []) (rest := []) ⟨hx, hb, hml, hown, hts⟩ (m_X6_endCommand l D kA m0 m1 m2 m3 m4 m5 z h tx pt kp st len th wo rd nu du hs nr (hrd) (hnr)) q_972 q_974 qp_45 q_7 q_975 hd_X6_endCommand ⟨rfl, rfl⟩ ⟨Nat.le_of_ble_eq_true rfl, Nat.le_of_ble_eq_true rfl⟩ hK (ws := [(m0, .inr (6, [.ref m1, .int st, .ref m2, .int len, .ref m3, .int th, .int wo, .ref m4, .int rd, .int nu, .int du, .ref m5, .long hs])), (m1, .inl (kA 0, 148, .inl z)), (m2, .inl (kA 0, 888, .inl h)), (m3, .inl (kA 0, 60, .inl tx)), (m4, .inl (kA 0, 72, .inl pt)), (m5, .inl (kA 0, 148, .inl kp))]) (hP.sub [0, 1, 2, 3, 4, 5] rfl) (hD.sub [0, 1, 2, 3, 4, 5] (by decide) rfl) 0 (ci := 6) (C := RX6) (T := TX6) (N := 13) rfl rfl rfl hl.1 rfl (Nat.le_of_ble_eq_true rfl) dX6_takes_64 ⟨Nat.zero_le _, Nat.zero_le _⟩) hS (aw_sub hD (isC := [0, 1, 2, 3, 4, 5]) rfl) (fun H locs hP1 hk1 hS => ?_)
          obtain ⟨hP, hD⟩ := jn (wr := []) (w1 := [(m0, .inr (6, [.ref m1, .int st, .ref m2, .int len, .ref m3, .int th, .int wo, .ref m4, .int (nI (nr + 1)), .int (-1), .int 0, .ref m5, .long hs])), (m1, .inl (kA 0, 148, .inl z)), (m2, .inl (kA 0, 888, .inl h)), (m3, .inl (kA 0, 60, .inl tx)), (m4, .inl (kA 0, 72, .inl (upd pt (3 * nr + 2) nu))), (m5, .inl (kA 0, 148, .inl kp))]) hP hD [0, 1, 2, 3, 4, 5] [] rfl rfl (by decide) hk1 hP1 rfl
          have hP : va_P D vwCl [(m0, .inr (6, [.ref m1, .int st, .ref m2, .int len, .ref m3, .int th, .int wo, .ref m4, .int (nI (nr + 1)), .int (-1), .int 0, .ref m5, .long hs])), (m1, .inl (kA 0, 148, .inl z)), (m2, .inl (kA 0, 888, .inl h)), (m3, .inl (kA 0, 60, .inl tx)), (m4, .inl (kA 0, 72, .inl (upd pt (3 * nr + 2) nu))), (m5, .inl (kA 0, 148, .inl kp))] H := hP
          have hD : va_D (Aw [(m0, .inr (6, [.ref m1, .int st, .ref m2, .int len, .ref m3, .int th, .int wo, .ref m4, .int rd, .int nu, .int du, .ref m5, .long hs])), (m1, .inl (kA 0, 148, .inl z)), (m2, .inl (kA 0, 888, .inl h)), (m3, .inl (kA 0, 60, .inl tx)), (m4, .inl (kA 0, 72, .inl pt)), (m5, .inl (kA 0, 148, .inl kp))]) [(m0, .inr (6, [.ref m1, .int st, .ref m2, .int len, .ref m3, .int th, .int wo, .ref m4, .int (nI (nr + 1)), .int (-1), .int 0, .ref m5, .long hs])), (m1, .inl (kA 0, 148, .inl z)), (m2, .inl (kA 0, 888, .inl h)), (m3, .inl (kA 0, 60, .inl tx)), (m4, .inl (kA 0, 72, .inl (upd pt (3 * nr + 2) nu))), (m5, .inl (kA 0, 148, .inl kp))] := hD
          refine lv_iconst (v := 1) hx hb dX6_takes_67 (by decide) ?_
          have hP : va_P D vwCl [(m0, .inr (6, [.ref m1, .int st, .ref m2, .int len, .ref m3, .int th, .int wo, .ref m4, .int (nI (nr + 1)), .int (-1), .int 0, .ref m5, .long hs])), (m1, .inl (kA 0, 148, .inl z)), (m2, .inl (kA 0, 888, .inl h)), (m3, .inl (kA 0, 60, .inl tx)), (m4, .inl (kA 0, 72, .inl (upd pt (3 * nr + 2) nu))), (m5, .inl (kA 0, 148, .inl kp))] _ := hP.sub [0, 1, 2, 3, 4, 5] rfl
          exact end_fz hx hb hrt hlk (by decide) hP hS (by have hT : tkM (pt, nr, nu, du) p0 = (true, upd pt (3 * nr + 2) nu, nr + 1, -1, 0) := (by unfold tkM; simp only []; rw [if_neg c_1, if_neg c_2, if_pos c_3, if_pos c_6]); rw [hT]; rfl) (fun hq => by have hT : tkM (pt, nr, nu, du) p0 = (true, upd pt (3 * nr + 2) nu, nr + 1, -1, 0) := (by unfold tkM; simp only []; rw [if_neg c_1, if_neg c_2, if_pos c_3, if_pos c_6]); rw [hT]; exact hq) dX6_takes_68
    · skip
      refine lv_aload_n hx hb dX6_takes_44 rfl (lv_at hl 0 rfl) ?_
      refine lv_iload_n hx hb dX6_takes_45 rfl (lv_at hl 1 rfl) ?_
      refine cs_fs (runV (As := [.int p0]) (rest := []) ⟨hx, hb, hml, hown, hts⟩ (m_X6_takesSign l D kA m0 m1 m2 m3 m4 m5 z h tx pt kp st len th wo rd nu du hs nr p0 (hrd) (hnr)) q_964 q_966 qp_43 q_7 q_967 hd_X6_takesSign ⟨rfl, rfl⟩ ⟨Nat.le_of_ble_eq_true rfl, Nat.le_of_ble_eq_true rfl⟩ hK (ws := [(m0, .inr (6, [.ref m1, .int st, .ref m2, .int len, .ref m3, .int th, .int wo, .ref m4, .int rd, .int nu, .int du, .ref m5, .long hs])), (m1, .inl (kA 0, 148, .inl z)), (m2, .inl (kA 0, 888, .inl h)), (m3, .inl (kA 0, 60, .inl tx)), (m4, .inl (kA 0, 72, .inl pt)), (m5, .inl (kA 0, 148, .inl kp))]) (hP.sub [0, 1, 2, 3, 4, 5] rfl) (hD.sub [0, 1, 2, 3, 4, 5] (by decide) rfl) 0 (ci := 6) (C := RX6) (T := TX6) (N := 13) rfl rfl rfl hl.1 rfl (Nat.le_of_ble_eq_true rfl) dX6_takes_46 ⟨Nat.zero_le _, Nat.zero_le _⟩) hS (aw_sub hD (isC := [0, 1, 2, 3, 4, 5]) rfl) (fun H locs hP1 hk1 hS => ?_)
      obtain ⟨hP, hD⟩ := jn (wr := []) (w1 := [(m0, .inr (6, [.ref m1, .int st, .ref m2, .int len, .ref m3, .int th, .int wo, .ref m4, .int rd, .int nu, .int (sgD p0), .ref m5, .long hs])), (m1, .inl (kA 0, 148, .inl z)), (m2, .inl (kA 0, 888, .inl h)), (m3, .inl (kA 0, 60, .inl tx)), (m4, .inl (kA 0, 72, .inl (upd pt (3 * nr + 1) p0))), (m5, .inl (kA 0, 148, .inl kp))]) hP hD [0, 1, 2, 3, 4, 5] [] rfl rfl (by decide) hk1 hP1 rfl
      have hP : va_P D vwCl [(m0, .inr (6, [.ref m1, .int st, .ref m2, .int len, .ref m3, .int th, .int wo, .ref m4, .int rd, .int nu, .int (sgD p0), .ref m5, .long hs])), (m1, .inl (kA 0, 148, .inl z)), (m2, .inl (kA 0, 888, .inl h)), (m3, .inl (kA 0, 60, .inl tx)), (m4, .inl (kA 0, 72, .inl (upd pt (3 * nr + 1) p0))), (m5, .inl (kA 0, 148, .inl kp))] H := hP
      have hD : va_D (Aw [(m0, .inr (6, [.ref m1, .int st, .ref m2, .int len, .ref m3, .int th, .int wo, .ref m4, .int rd, .int nu, .int du, .ref m5, .long hs])), (m1, .inl (kA 0, 148, .inl z)), (m2, .inl (kA 0, 888, .inl h)), (m3, .inl (kA 0, 60, .inl tx)), (m4, .inl (kA 0, 72, .inl pt)), (m5, .inl (kA 0, 148, .inl kp))]) [(m0, .inr (6, [.ref m1, .int st, .ref m2, .int len, .ref m3, .int th, .int wo, .ref m4, .int rd, .int nu, .int (sgD p0), .ref m5, .long hs])), (m1, .inl (kA 0, 148, .inl z)), (m2, .inl (kA 0, 888, .inl h)), (m3, .inl (kA 0, 60, .inl tx)), (m4, .inl (kA 0, 72, .inl (upd pt (3 * nr + 1) p0))), (m5, .inl (kA 0, 148, .inl kp))] := hD
      have hP : va_P D vwCl [(m0, .inr (6, [.ref m1, .int st, .ref m2, .int len, .ref m3, .int th, .int wo, .ref m4, .int rd, .int nu, .int (sgD p0), .ref m5, .long hs])), (m1, .inl (kA 0, 148, .inl z)), (m2, .inl (kA 0, 888, .inl h)), (m3, .inl (kA 0, 60, .inl tx)), (m4, .inl (kA 0, 72, .inl (upd pt (3 * nr + 1) p0))), (m5, .inl (kA 0, 148, .inl kp))] _ := hP.sub [0, 1, 2, 3, 4, 5] rfl
      exact end_fz hx hb hrt hlk (nz_bI _) hP hS (by have hT : tkM (pt, nr, nu, du) p0 = (sgB p0, upd pt (3 * nr + 1) p0, nr, nu, sgD p0) := (by unfold tkM; simp only []; rw [if_neg c_1, if_pos c_2]); rw [hT]) (fun hq => by have hT : tkM (pt, nr, nu, du) p0 = (sgB p0, upd pt (3 * nr + 1) p0, nr, nu, sgD p0) := (by unfold tkM; simp only []; rw [if_neg c_1, if_pos c_2]); rw [hT]; rw [hrd] at hq; exact hq) dX6_takes_49
  · skip
    refine lv_aload_n hx hb dX6_takes_7 rfl (lv_at hl 0 rfl) ?_
    refine va_get (ci := 6) (v := .ref m4) (C := RX6) (T := TX6) (N := 13) hx hb hts inX6 hown hK hP 0 rfl rfl 7 (by decide) (hts _ q_777) (fun _ h9 => h9) rfl dX6_takes_8 ?_
    refine lv_iconst (v := 3) hx hb dX6_takes_11 (by decide) ?_
    refine lv_aload_n hx hb dX6_takes_12 rfl (lv_at hl 0 rfl) ?_
    refine va_get (ci := 6) (v := .int rd) (C := RX6) (T := TX6) (N := 13) hx hb hts inX6 hown hK hP 0 rfl rfl 8 (by decide) (hts _ q_778) (fun _ h9 => h9) rfl dX6_takes_13 ?_
    refine lv_imul hx hb dX6_takes_16 ?_
    refine lv_iload_n hx hb dX6_takes_17 rfl (lv_at hl 1 rfl) ?_
    refine lv_bipush (v := 97) hx hb dX6_takes_18 (by decide) ?_
    refine lv_isub hx hb dX6_takes_20 ?_
    refine va_iast (f := pt) hx hb hK hP hD hS 4 0 rfl rfl (in_nI (ix3 hrd) (by omega) (by decide)) dX6_takes_21 (fun H locs hP hD hS => ?_)
    have hP : va_P D vwCl [(m0, .inr (6, [.ref m1, .int st, .ref m2, .int len, .ref m3, .int th, .int wo, .ref m4, .int rd, .int nu, .int du, .ref m5, .long hs])), (m1, .inl (kA 0, 148, .inl z)), (m2, .inl (kA 0, 888, .inl h)), (m3, .inl (kA 0, 60, .inl tx)), (m4, .inl (kA 0, 72, .inl (upd pt (3 * rd).toNatClampNeg (p0 - 97)))), (m5, .inl (kA 0, 148, .inl kp))] H := hP
    have hD : va_D (Aw [(m0, .inr (6, [.ref m1, .int st, .ref m2, .int len, .ref m3, .int th, .int wo, .ref m4, .int rd, .int nu, .int du, .ref m5, .long hs])), (m1, .inl (kA 0, 148, .inl z)), (m2, .inl (kA 0, 888, .inl h)), (m3, .inl (kA 0, 60, .inl tx)), (m4, .inl (kA 0, 72, .inl pt)), (m5, .inl (kA 0, 148, .inl kp))]) [(m0, .inr (6, [.ref m1, .int st, .ref m2, .int len, .ref m3, .int th, .int wo, .ref m4, .int rd, .int nu, .int du, .ref m5, .long hs])), (m1, .inl (kA 0, 148, .inl z)), (m2, .inl (kA 0, 888, .inl h)), (m3, .inl (kA 0, 60, .inl tx)), (m4, .inl (kA 0, 72, .inl (upd pt (3 * rd).toNatClampNeg (p0 - 97)))), (m5, .inl (kA 0, 148, .inl kp))] := hD
    refine lv_aload_n hx hb dX6_takes_22 rfl (lv_at hl 0 rfl) ?_
    refine lv_iconst (v := 1) hx hb dX6_takes_23 (by decide) ?_
    refine va_put (ci := 6) (v := .int 1) (ty := tyX6 10) (C := RX6) (T := TX6) (N := 13) hx hb hts inX6 tyX6 tyX6_ok nmX6 hown hK hP hD hS 0 rfl rfl 10 (by decide) (hts _ q_780) (fun _ h9 => h9) rfl (tyX6_ok 10 (by decide)) rfl rfl (Nat.le_of_ble_eq_true rfl) dX6_takes_24 (fun H locs hP hD hS => ?_)
    have hP : va_P D vwCl [(m0, .inr (6, [.ref m1, .int st, .ref m2, .int len, .ref m3, .int th, .int wo, .ref m4, .int rd, .int nu, .int 1, .ref m5, .long hs])), (m1, .inl (kA 0, 148, .inl z)), (m2, .inl (kA 0, 888, .inl h)), (m3, .inl (kA 0, 60, .inl tx)), (m4, .inl (kA 0, 72, .inl (upd pt (3 * rd).toNatClampNeg (p0 - 97)))), (m5, .inl (kA 0, 148, .inl kp))] H := hP
    have hD : va_D (Aw [(m0, .inr (6, [.ref m1, .int st, .ref m2, .int len, .ref m3, .int th, .int wo, .ref m4, .int rd, .int nu, .int du, .ref m5, .long hs])), (m1, .inl (kA 0, 148, .inl z)), (m2, .inl (kA 0, 888, .inl h)), (m3, .inl (kA 0, 60, .inl tx)), (m4, .inl (kA 0, 72, .inl pt)), (m5, .inl (kA 0, 148, .inl kp))]) [(m0, .inr (6, [.ref m1, .int st, .ref m2, .int len, .ref m3, .int th, .int wo, .ref m4, .int rd, .int nu, .int 1, .ref m5, .long hs])), (m1, .inl (kA 0, 148, .inl z)), (m2, .inl (kA 0, 888, .inl h)), (m3, .inl (kA 0, 60, .inl tx)), (m4, .inl (kA 0, 72, .inl (upd pt (3 * rd).toNatClampNeg (p0 - 97)))), (m5, .inl (kA 0, 148, .inl kp))] := hD
    refine lv_iload_n hx hb dX6_takes_27 rfl (lv_at hl 1 rfl) ?_
    refine lv_bipush (v := 97) hx hb dX6_takes_28 (by decide) ?_
    refine lv_bipush (v := 100) hx hb dX6_takes_30 (by decide) ?_
    refine cs_p (runS (As := [.int p0, .int 97, .int 100]) (rest := []) ⟨hx, hb, hml, hown, hts⟩ (m_X6_within l D kA p0 97 100 ) q_818 q_819 q_7 q_820 hd_X6_within ⟨rfl, rfl⟩ ⟨Nat.le_of_ble_eq_true rfl, Nat.le_of_ble_eq_true rfl⟩ hK (ws := []) (hP.sub [] rfl) (hD.sub [] (by decide) rfl) rfl hl.1 rfl (Nat.le_of_ble_eq_true rfl) dX6_takes_32 ⟨Nat.zero_le _, Nat.zero_le _⟩) ?_
    have hP : va_P D vwCl [(m0, .inr (6, [.ref m1, .int st, .ref m2, .int len, .ref m3, .int th, .int wo, .ref m4, .int rd, .int nu, .int 1, .ref m5, .long hs])), (m1, .inl (kA 0, 148, .inl z)), (m2, .inl (kA 0, 888, .inl h)), (m3, .inl (kA 0, 60, .inl tx)), (m4, .inl (kA 0, 72, .inl (upd pt (3 * rd).toNatClampNeg (p0 - 97)))), (m5, .inl (kA 0, 148, .inl kp))] _ := hP.sub [0, 1, 2, 3, 4, 5] rfl
    exact end_fz hx hb hrt hlk (nz_bI _) hP hS (by have hT : tkM (pt, nr, nu, du) p0 = (wiF p0 97 100, upd pt (3 * nr) (p0 - 97), nr, nu, 1) := (by unfold tkM; simp only []; rw [if_pos c_1]); rw [hT]) (fun hq => by have hT : tkM (pt, nr, nu, du) p0 = (wiF p0 97 100, upd pt (3 * nr) (p0 - 97), nr, nu, 1) := (by unfold tkM; simp only []; rw [if_pos c_1]); rw [clamp_j (ix3 hrd) (by omega)] at hq; rw [hT]; rw [hrd] at hq; exact hq) dX6_takes_35

theorem hd_X6_rightUpTo : yX6_rightUpTo.cls ≠ "java/lang/invoke/MethodHandle" ∧ yX6_rightUpTo.cls ≠ "java/lang/invoke/VarHandle" ∧ (parseMethodDescriptor yX6_rightUpTo.desc).map (fun d => d.parameters.length) = some 0 := by decide +kernel
set_option maxRecDepth 100000 in
set_option maxHeartbeats 4000000 in
theorem m_X6_rightUpTo (l : Launch) (D : va_G) (kA : Nat → Nat) (m0 : Nat) (m1 : Nat) (m2 : Nat) (m3 : Nat) (m4 : Nat) (m5 : Nat) (z : Nat → Int32) (h : Nat → Int32) (tx : Nat → Int32) (pt : Nat → Int32) (kp : Nat → Int32) (st : Int32) (len : Int32) (th : Int32) (wo : Int32) (rd : Int32) (nu : Int32) (du : Int32) (hs : Int64) (n0 : Nat) (hlen : len = nI n0) (hn0 : n0 ≤ 60) : Met l yX6_rightUpTo (Cond.code yX6_rightUpTo cX6_rightUpTo 2 (some .int) :: AW) ({ frames := 3, cells := 0, slots := 0, locals := 67 } : Room) (Pz [.ref m0] D (TY kA) [(m0, .inr (6, [.ref m1, .int st, .ref m2, .int len, .ref m3, .int th, .int wo, .ref m4, .int rd, .int nu, .int du, .ref m5, .long hs])), (m1, .inl (kA 0, 148, .inl z)), (m2, .inl (kA 0, 888, .inl h)), (m3, .inl (kA 0, 60, .inl tx)), (m4, .inl (kA 0, 72, .inl pt)), (m5, .inl (kA 0, 148, .inl kp))]) (fQ (some (.int (nI (rtL tx n0 0 (pt, 0, -1, 0)).1))) D [(m0, .inr (6, [.ref m1, .int st, .ref m2, .int len, .ref m3, .int th, .int wo, .ref m4, .int rd, .int nu, .int du, .ref m5, .long hs])), (m1, .inl (kA 0, 148, .inl z)), (m2, .inl (kA 0, 888, .inl h)), (m3, .inl (kA 0, 60, .inl tx)), (m4, .inl (kA 0, 72, .inl pt)), (m5, .inl (kA 0, 148, .inl kp))] [(m0, .inr (6, [.ref m1, .int st, .ref m2, .int len, .ref m3, .int th, .int wo, .ref m4, .int (nI (rtL tx n0 0 (pt, 0, -1, 0)).2.2.1), .int ((rtL tx n0 0 (pt, 0, -1, 0)).2.2.2.1), .int ((rtL tx n0 0 (pt, 0, -1, 0)).2.2.2.2), .ref m5, .long hs])), (m1, .inl (kA 0, 148, .inl z)), (m2, .inl (kA 0, 888, .inl h)), (m3, .inl (kA 0, 60, .inl tx)), (m4, .inl (kA 0, 72, .inl ((rtL tx n0 0 (pt, 0, -1, 0)).2.1))), (m5, .inl (kA 0, 148, .inl kp))]) 0 0 (Aw [(m0, .inr (6, [.ref m1, .int st, .ref m2, .int len, .ref m3, .int th, .int wo, .ref m4, .int rd, .int nu, .int du, .ref m5, .long hs])), (m1, .inl (kA 0, 148, .inl z)), (m2, .inl (kA 0, 888, .inl h)), (m3, .inl (kA 0, 60, .inl tx)), (m4, .inl (kA 0, 72, .inl pt)), (m5, .inl (kA 0, 148, .inl kp))]) := by
  refine MetZ (by decide +kernel) (Nat.le_of_ble_eq_true rfl) ?_
  intro p e s m below meth c ls hx hb hrt hts hown hml hlk hnm hP hK hD hS hl
  have hl : lv_has ls 2 [(0, .ref m0)] := hl
  refine lv_aload_n hx hb dX6_rightUpTo_0 rfl (lv_at hl 0 rfl) ?_
  refine lv_iconst (v := 0) hx hb dX6_rightUpTo_1 (by decide) ?_
  refine va_put (ci := 6) (v := .int 0) (ty := tyX6 8) (C := RX6) (T := TX6) (N := 13) hx hb hts inX6 tyX6 tyX6_ok nmX6 hown hK hP hD hS 0 rfl rfl 8 (by decide) (hts _ q_778) (fun _ h9 => h9) rfl (tyX6_ok 8 (by decide)) rfl rfl (Nat.le_of_ble_eq_true rfl) dX6_rightUpTo_2 (fun H locs hP hD hS => ?_)
  have hP : va_P D vwCl [(m0, .inr (6, [.ref m1, .int st, .ref m2, .int len, .ref m3, .int th, .int wo, .ref m4, .int 0, .int nu, .int du, .ref m5, .long hs])), (m1, .inl (kA 0, 148, .inl z)), (m2, .inl (kA 0, 888, .inl h)), (m3, .inl (kA 0, 60, .inl tx)), (m4, .inl (kA 0, 72, .inl pt)), (m5, .inl (kA 0, 148, .inl kp))] H := hP
  have hD : va_D (Aw [(m0, .inr (6, [.ref m1, .int st, .ref m2, .int len, .ref m3, .int th, .int wo, .ref m4, .int rd, .int nu, .int du, .ref m5, .long hs])), (m1, .inl (kA 0, 148, .inl z)), (m2, .inl (kA 0, 888, .inl h)), (m3, .inl (kA 0, 60, .inl tx)), (m4, .inl (kA 0, 72, .inl pt)), (m5, .inl (kA 0, 148, .inl kp))]) [(m0, .inr (6, [.ref m1, .int st, .ref m2, .int len, .ref m3, .int th, .int wo, .ref m4, .int 0, .int nu, .int du, .ref m5, .long hs])), (m1, .inl (kA 0, 148, .inl z)), (m2, .inl (kA 0, 888, .inl h)), (m3, .inl (kA 0, 60, .inl tx)), (m4, .inl (kA 0, 72, .inl pt)), (m5, .inl (kA 0, 148, .inl kp))] := hD
  refine lv_aload_n hx hb dX6_rightUpTo_5 rfl (lv_at hl 0 rfl) ?_
  refine lv_iconst (v := (-1)) hx hb dX6_rightUpTo_6 (by decide) ?_
  refine va_put (ci := 6) (v := .int (-1)) (ty := tyX6 9) (C := RX6) (T := TX6) (N := 13) hx hb hts inX6 tyX6 tyX6_ok nmX6 hown hK hP hD hS 0 rfl rfl 9 (by decide) (hts _ q_779) (fun _ h9 => h9) rfl (tyX6_ok 9 (by decide)) rfl rfl (Nat.le_of_ble_eq_true rfl) dX6_rightUpTo_7 (fun H locs hP hD hS => ?_)
  have hP : va_P D vwCl [(m0, .inr (6, [.ref m1, .int st, .ref m2, .int len, .ref m3, .int th, .int wo, .ref m4, .int 0, .int (-1), .int du, .ref m5, .long hs])), (m1, .inl (kA 0, 148, .inl z)), (m2, .inl (kA 0, 888, .inl h)), (m3, .inl (kA 0, 60, .inl tx)), (m4, .inl (kA 0, 72, .inl pt)), (m5, .inl (kA 0, 148, .inl kp))] H := hP
  have hD : va_D (Aw [(m0, .inr (6, [.ref m1, .int st, .ref m2, .int len, .ref m3, .int th, .int wo, .ref m4, .int rd, .int nu, .int du, .ref m5, .long hs])), (m1, .inl (kA 0, 148, .inl z)), (m2, .inl (kA 0, 888, .inl h)), (m3, .inl (kA 0, 60, .inl tx)), (m4, .inl (kA 0, 72, .inl pt)), (m5, .inl (kA 0, 148, .inl kp))]) [(m0, .inr (6, [.ref m1, .int st, .ref m2, .int len, .ref m3, .int th, .int wo, .ref m4, .int 0, .int (-1), .int du, .ref m5, .long hs])), (m1, .inl (kA 0, 148, .inl z)), (m2, .inl (kA 0, 888, .inl h)), (m3, .inl (kA 0, 60, .inl tx)), (m4, .inl (kA 0, 72, .inl pt)), (m5, .inl (kA 0, 148, .inl kp))] := hD
  refine lv_aload_n hx hb dX6_rightUpTo_10 rfl (lv_at hl 0 rfl) ?_
  refine lv_iconst (v := 0) hx hb dX6_rightUpTo_11 (by decide) ?_
  refine va_put (ci := 6) (v := .int 0) (ty := tyX6 10) (C := RX6) (T := TX6) (N := 13) hx hb hts inX6 tyX6 tyX6_ok nmX6 hown hK hP hD hS 0 rfl rfl 10 (by decide) (hts _ q_780) (fun _ h9 => h9) rfl (tyX6_ok 10 (by decide)) rfl rfl (Nat.le_of_ble_eq_true rfl) dX6_rightUpTo_12 (fun H locs hP hD hS => ?_)
  have hP : va_P D vwCl [(m0, .inr (6, [.ref m1, .int st, .ref m2, .int len, .ref m3, .int th, .int wo, .ref m4, .int 0, .int (-1), .int 0, .ref m5, .long hs])), (m1, .inl (kA 0, 148, .inl z)), (m2, .inl (kA 0, 888, .inl h)), (m3, .inl (kA 0, 60, .inl tx)), (m4, .inl (kA 0, 72, .inl pt)), (m5, .inl (kA 0, 148, .inl kp))] H := hP
  have hD : va_D (Aw [(m0, .inr (6, [.ref m1, .int st, .ref m2, .int len, .ref m3, .int th, .int wo, .ref m4, .int rd, .int nu, .int du, .ref m5, .long hs])), (m1, .inl (kA 0, 148, .inl z)), (m2, .inl (kA 0, 888, .inl h)), (m3, .inl (kA 0, 60, .inl tx)), (m4, .inl (kA 0, 72, .inl pt)), (m5, .inl (kA 0, 148, .inl kp))]) [(m0, .inr (6, [.ref m1, .int st, .ref m2, .int len, .ref m3, .int th, .int wo, .ref m4, .int 0, .int (-1), .int 0, .ref m5, .long hs])), (m1, .inl (kA 0, 148, .inl z)), (m2, .inl (kA 0, 888, .inl h)), (m3, .inl (kA 0, 60, .inl tx)), (m4, .inl (kA 0, 72, .inl pt)), (m5, .inl (kA 0, 148, .inl kp))] := hD
  refine lv_iconst (v := 0) hx hb dX6_rightUpTo_15 (by decide) ?_
  refine lv_istore_n (lv' := [(1, .int 0), (0, .ref m0)]) hx hb dX6_rightUpTo_16 rfl hl (by decide) rfl (fun ls hl => ?_)
  have loop_17 : ∀ (n : Nat) (j : Nat) (ptj : Nat → Int32) (nrj : Nat) (nuj : Int32) (duj : Int32) (rdj : Int32) (x1 : Int32) (hj : j + n = n0) (e1 : x1 = nI j) (hr : rdj = nI nrj) (hi : 3 * nrj + prD duj ≤ j) (hres : rtL tx n j (ptj, nrj, nuj, duj) = (rtL tx n0 0 (pt, 0, -1, 0))), ∀ (H : Heap) (locs : List Loc), va_P D vwCl [(m0, .inr (6, [.ref m1, .int st, .ref m2, .int len, .ref m3, .int th, .int wo, .ref m4, .int rdj, .int nuj, .int duj, .ref m5, .long hs])), (m1, .inl (kA 0, 148, .inl z)), (m2, .inl (kA 0, 888, .inl h)), (m3, .inl (kA 0, 60, .inl tx)), (m4, .inl (kA 0, 72, .inl ptj)), (m5, .inl (kA 0, 148, .inl kp))] H → va_D (Aw [(m0, .inr (6, [.ref m1, .int st, .ref m2, .int len, .ref m3, .int th, .int wo, .ref m4, .int rd, .int nu, .int du, .ref m5, .long hs])), (m1, .inl (kA 0, 148, .inl z)), (m2, .inl (kA 0, 888, .inl h)), (m3, .inl (kA 0, 60, .inl tx)), (m4, .inl (kA 0, 72, .inl pt)), (m5, .inl (kA 0, 148, .inl kp))]) [(m0, .inr (6, [.ref m1, .int st, .ref m2, .int len, .ref m3, .int th, .int wo, .ref m4, .int rdj, .int nuj, .int duj, .ref m5, .long hs])), (m1, .inl (kA 0, 148, .inl z)), (m2, .inl (kA 0, 888, .inl h)), (m3, .inl (kA 0, 60, .inl tx)), (m4, .inl (kA 0, 72, .inl ptj)), (m5, .inl (kA 0, 148, .inl kp))] → va_S (Aw [(m0, .inr (6, [.ref m1, .int st, .ref m2, .int len, .ref m3, .int th, .int wo, .ref m4, .int rd, .int nu, .int du, .ref m5, .long hs])), (m1, .inl (kA 0, 148, .inl z)), (m2, .inl (kA 0, 888, .inl h)), (m3, .inl (kA 0, 60, .inl tx)), (m4, .inl (kA 0, 72, .inl pt)), (m5, .inl (kA 0, 148, .inl kp))]) s.heap H locs → ∀ ls : Array Slot, lv_has ls 2 [(0, .ref m0), (1, .int x1)] → W p l e ({ frames := 3, cells := 0, slots := 0, locals := 67 } : Room) s m [.ref m0].toArray below meth c H locs 0 0 (MQ below (fQ (some (.int (nI (rtL tx n0 0 (pt, 0, -1, 0)).1))) D [(m0, .inr (6, [.ref m1, .int st, .ref m2, .int len, .ref m3, .int th, .int wo, .ref m4, .int rd, .int nu, .int du, .ref m5, .long hs])), (m1, .inl (kA 0, 148, .inl z)), (m2, .inl (kA 0, 888, .inl h)), (m3, .inl (kA 0, 60, .inl tx)), (m4, .inl (kA 0, 72, .inl pt)), (m5, .inl (kA 0, 148, .inl kp))] [(m0, .inr (6, [.ref m1, .int st, .ref m2, .int len, .ref m3, .int th, .int wo, .ref m4, .int (nI (rtL tx n0 0 (pt, 0, -1, 0)).2.2.1), .int ((rtL tx n0 0 (pt, 0, -1, 0)).2.2.2.1), .int ((rtL tx n0 0 (pt, 0, -1, 0)).2.2.2.2), .ref m5, .long hs])), (m1, .inl (kA 0, 148, .inl z)), (m2, .inl (kA 0, 888, .inl h)), (m3, .inl (kA 0, 60, .inl tx)), (m4, .inl (kA 0, 72, .inl ((rtL tx n0 0 (pt, 0, -1, 0)).2.1))), (m5, .inl (kA 0, 148, .inl kp))]) [.ref m0].toArray s 0 0 (Aw [(m0, .inr (6, [.ref m1, .int st, .ref m2, .int len, .ref m3, .int th, .int wo, .ref m4, .int rd, .int nu, .int du, .ref m5, .long hs])), (m1, .inl (kA 0, 148, .inl z)), (m2, .inl (kA 0, 888, .inl h)), (m3, .inl (kA 0, 60, .inl tx)), (m4, .inl (kA 0, 72, .inl pt)), (m5, .inl (kA 0, 148, .inl kp))])) (F0 m 17 ls []) := by
    clear hl
    clear hP hD hS
    intro n
    induction n with
    | zero =>
      intro j ptj nrj nuj duj rdj x1 hj e1 hr hi hres H locs hP hD hS ls hl
      refine lv_iload_n hx hb dX6_rightUpTo_17 rfl (lv_at hl 1 rfl) ?_
      refine lv_aload_n hx hb dX6_rightUpTo_18 rfl (lv_at hl 0 rfl) ?_
      refine va_get (ci := 6) (v := .int len) (C := RX6) (T := TX6) (N := 13) hx hb hts inX6 hown hK hP 0 rfl rfl 3 (by decide) (hts _ q_773) (fun _ h9 => h9) rfl dX6_rightUpTo_19 ?_
      refine lv_icmp_ge (tgt := 44) hx hb dX6_rightUpTo_22 (by decide) (fun c_1 => ?_) (fun c_1 => ?_)
      · skip
        replace c_1 := ge_n c_1
        refine lv_iload_n hx hb dX6_rightUpTo_44 rfl (lv_at hl 1 rfl) ?_
        have hP : va_P D vwCl [(m0, .inr (6, [.ref m1, .int st, .ref m2, .int len, .ref m3, .int th, .int wo, .ref m4, .int rdj, .int nuj, .int duj, .ref m5, .long hs])), (m1, .inl (kA 0, 148, .inl z)), (m2, .inl (kA 0, 888, .inl h)), (m3, .inl (kA 0, 60, .inl tx)), (m4, .inl (kA 0, 72, .inl ptj)), (m5, .inl (kA 0, 148, .inl kp))] _ := hP.sub [0, 1, 2, 3, 4, 5] rfl
        exact end_fi hx hb hrt hlk hP hS (by have hE : (rtL tx n0 0 (pt, 0, -1, 0)) = (j, ptj, nrj, nuj, duj) := hres.symm; rw [hE]; exact e1) (fun hq => by have hE : (rtL tx n0 0 (pt, 0, -1, 0)) = (j, ptj, nrj, nuj, duj) := hres.symm; rw [hE]; rw [hr] at hq; exact hq) dX6_rightUpTo_45
      · exact absurd c_1 (fun q => q (cnt_ge (N := n0) e1 hlen.symm (by omega) (by omega)))
    | succ n ih17 =>
      intro j ptj nrj nuj duj rdj x1 hj e1 hr hi hres H locs hP hD hS ls hl
      refine lv_iload_n hx hb dX6_rightUpTo_17 rfl (lv_at hl 1 rfl) ?_
      refine lv_aload_n hx hb dX6_rightUpTo_18 rfl (lv_at hl 0 rfl) ?_
      refine va_get (ci := 6) (v := .int len) (C := RX6) (T := TX6) (N := 13) hx hb hts inX6 hown hK hP 0 rfl rfl 3 (by decide) (hts _ q_773) (fun _ h9 => h9) rfl dX6_rightUpTo_19 ?_
      refine lv_icmp_ge (tgt := 44) hx hb dX6_rightUpTo_22 (by decide) (fun c_2 => ?_) (fun c_2 => ?_)
      · exact absurd c_2 (cnt_nge (N := n0) e1 hlen.symm (by omega) (by omega))
      · skip
        replace c_2 := nge_l c_2
        refine lv_aload_n hx hb dX6_rightUpTo_25 rfl (lv_at hl 0 rfl) ?_
        refine lv_aload_n hx hb dX6_rightUpTo_26 rfl (lv_at hl 0 rfl) ?_
        refine va_get (ci := 6) (v := .ref m3) (C := RX6) (T := TX6) (N := 13) hx hb hts inX6 hown hK hP 0 rfl rfl 4 (by decide) (hts _ q_774) (fun _ h9 => h9) rfl dX6_rightUpTo_27 ?_
        refine lv_iload_n hx hb dX6_rightUpTo_30 rfl (lv_at hl 1 rfl) ?_
        refine va_iald (f := tx) hx hb hK hP 3 0 rfl rfl (in_nI e1 (by omega) (by decide)) dX6_rightUpTo_31 ?_
        refine cs_fs (runV (As := [.int (tx x1.toNatClampNeg)]) (rest := []) ⟨hx, hb, hml, hown, hts⟩ (m_X6_takes l D kA m0 m1 m2 m3 m4 m5 z h tx ptj kp st len th wo rdj nuj duj hs nrj (tx x1.toNatClampNeg) (hr) (by have := Nat.le_add_right (3 * nrj) (prD duj); omega)) q_960 q_962 qp_42 q_7 q_963 hd_X6_takes ⟨rfl, rfl⟩ ⟨Nat.le_of_ble_eq_true rfl, Nat.le_of_ble_eq_true rfl⟩ hK (ws := [(m0, .inr (6, [.ref m1, .int st, .ref m2, .int len, .ref m3, .int th, .int wo, .ref m4, .int rdj, .int nuj, .int duj, .ref m5, .long hs])), (m1, .inl (kA 0, 148, .inl z)), (m2, .inl (kA 0, 888, .inl h)), (m3, .inl (kA 0, 60, .inl tx)), (m4, .inl (kA 0, 72, .inl ptj)), (m5, .inl (kA 0, 148, .inl kp))]) (hP.sub [0, 1, 2, 3, 4, 5] rfl) (hD.sub [0, 1, 2, 3, 4, 5] (by decide) rfl) 0 (ci := 6) (C := RX6) (T := TX6) (N := 13) rfl rfl rfl hl.1 rfl (Nat.le_of_ble_eq_true rfl) dX6_rightUpTo_32 ⟨Nat.zero_le _, Nat.zero_le _⟩) hS (aw_sub hD (isC := [0, 1, 2, 3, 4, 5]) rfl) (fun H locs hP1 hk1 hS => ?_)
        obtain ⟨hP, hD⟩ := jn (wr := []) (w1 := [(m0, .inr (6, [.ref m1, .int st, .ref m2, .int len, .ref m3, .int th, .int wo, .ref m4, .int (nI (tkM (ptj, nrj, nuj, duj) (tx x1.toNatClampNeg)).2.2.1), .int ((tkM (ptj, nrj, nuj, duj) (tx x1.toNatClampNeg)).2.2.2.1), .int ((tkM (ptj, nrj, nuj, duj) (tx x1.toNatClampNeg)).2.2.2.2), .ref m5, .long hs])), (m1, .inl (kA 0, 148, .inl z)), (m2, .inl (kA 0, 888, .inl h)), (m3, .inl (kA 0, 60, .inl tx)), (m4, .inl (kA 0, 72, .inl ((tkM (ptj, nrj, nuj, duj) (tx x1.toNatClampNeg)).2.1))), (m5, .inl (kA 0, 148, .inl kp))]) hP hD [0, 1, 2, 3, 4, 5] [] rfl rfl (by decide) hk1 hP1 rfl
        have hP : va_P D vwCl [(m0, .inr (6, [.ref m1, .int st, .ref m2, .int len, .ref m3, .int th, .int wo, .ref m4, .int (nI (tkM (ptj, nrj, nuj, duj) (tx x1.toNatClampNeg)).2.2.1), .int ((tkM (ptj, nrj, nuj, duj) (tx x1.toNatClampNeg)).2.2.2.1), .int ((tkM (ptj, nrj, nuj, duj) (tx x1.toNatClampNeg)).2.2.2.2), .ref m5, .long hs])), (m1, .inl (kA 0, 148, .inl z)), (m2, .inl (kA 0, 888, .inl h)), (m3, .inl (kA 0, 60, .inl tx)), (m4, .inl (kA 0, 72, .inl ((tkM (ptj, nrj, nuj, duj) (tx x1.toNatClampNeg)).2.1))), (m5, .inl (kA 0, 148, .inl kp))] H := hP
        have hD : va_D (Aw [(m0, .inr (6, [.ref m1, .int st, .ref m2, .int len, .ref m3, .int th, .int wo, .ref m4, .int rd, .int nu, .int du, .ref m5, .long hs])), (m1, .inl (kA 0, 148, .inl z)), (m2, .inl (kA 0, 888, .inl h)), (m3, .inl (kA 0, 60, .inl tx)), (m4, .inl (kA 0, 72, .inl pt)), (m5, .inl (kA 0, 148, .inl kp))]) [(m0, .inr (6, [.ref m1, .int st, .ref m2, .int len, .ref m3, .int th, .int wo, .ref m4, .int (nI (tkM (ptj, nrj, nuj, duj) (tx x1.toNatClampNeg)).2.2.1), .int ((tkM (ptj, nrj, nuj, duj) (tx x1.toNatClampNeg)).2.2.2.1), .int ((tkM (ptj, nrj, nuj, duj) (tx x1.toNatClampNeg)).2.2.2.2), .ref m5, .long hs])), (m1, .inl (kA 0, 148, .inl z)), (m2, .inl (kA 0, 888, .inl h)), (m3, .inl (kA 0, 60, .inl tx)), (m4, .inl (kA 0, 72, .inl ((tkM (ptj, nrj, nuj, duj) (tx x1.toNatClampNeg)).2.1))), (m5, .inl (kA 0, 148, .inl kp))] := hD
        refine lv_if_eq (tgt := 44) hx hb dX6_rightUpTo_35 (by decide) (fun c_3 => ?_) (fun c_3 => ?_)
        · skip
          replace c_3 := bI_0.mp c_3
          refine lv_iload_n hx hb dX6_rightUpTo_44 rfl (lv_at hl 1 rfl) ?_
          have hP : va_P D vwCl [(m0, .inr (6, [.ref m1, .int st, .ref m2, .int len, .ref m3, .int th, .int wo, .ref m4, .int (nI (tkM (ptj, nrj, nuj, duj) (tx x1.toNatClampNeg)).2.2.1), .int ((tkM (ptj, nrj, nuj, duj) (tx x1.toNatClampNeg)).2.2.2.1), .int ((tkM (ptj, nrj, nuj, duj) (tx x1.toNatClampNeg)).2.2.2.2), .ref m5, .long hs])), (m1, .inl (kA 0, 148, .inl z)), (m2, .inl (kA 0, 888, .inl h)), (m3, .inl (kA 0, 60, .inl tx)), (m4, .inl (kA 0, 72, .inl ((tkM (ptj, nrj, nuj, duj) (tx x1.toNatClampNeg)).2.1))), (m5, .inl (kA 0, 148, .inl kp))] _ := hP.sub [0, 1, 2, 3, 4, 5] rfl
          exact end_fi hx hb hrt hlk hP hS (by have hE : (rtL tx n0 0 (pt, 0, -1, 0)) = (j, (tkM (ptj, nrj, nuj, duj) (tx x1.toNatClampNeg)).2) := (by rw [← hres, rtL, if_neg (by rw [← clamp_j e1 (by omega), c_3]; decide), ← clamp_j e1 (by omega)]); rw [hE]; exact e1) (fun hq => by have hE : (rtL tx n0 0 (pt, 0, -1, 0)) = (j, (tkM (ptj, nrj, nuj, duj) (tx x1.toNatClampNeg)).2) := (by rw [← hres, rtL, if_neg (by rw [← clamp_j e1 (by omega), c_3]; decide), ← clamp_j e1 (by omega)]); rw [hE]; exact hq) dX6_rightUpTo_45
        · skip
          replace c_3 := bI_n0 c_3
          refine lv_iinc (v := x1 + 1) (lv' := [(1, .int (x1 + 1)), (0, .ref m0)]) hx hb dX6_rightUpTo_38 hl (k := 1) rfl (by first | rfl | exact congrArg (_ + ·) (by decide)) (by decide) rfl (fun ls hl => ?_)
          refine lv_goto (tgt := 17) hx hb dX6_rightUpTo_41 (by decide) ?_
          exact ih17 (j + 1) ((tkM (ptj, nrj, nuj, duj) (tx x1.toNatClampNeg)).2.1) ((tkM (ptj, nrj, nuj, duj) (tx x1.toNatClampNeg)).2.2.1) ((tkM (ptj, nrj, nuj, duj) (tx x1.toNatClampNeg)).2.2.2.1) ((tkM (ptj, nrj, nuj, duj) (tx x1.toNatClampNeg)).2.2.2.2) (nI (tkM (ptj, nrj, nuj, duj) (tx x1.toNatClampNeg)).2.2.1) (x1 + 1) (by omega) (by rw [e1]; exact nI_1 j) (rfl) (tkM_inv (S := (ptj, nrj, nuj, duj)) c_3 hi) (by rw [← hres, rtL, if_pos (by rw [← clamp_j e1 (by omega)]; exact c_3), ← clamp_j e1 (by omega)]) _ _ (hP.sub [0, 1, 2, 3, 4, 5] rfl) (hD.sub [0, 1, 2, 3, 4, 5] (by decide) rfl) hS ls (lv_sub hl [1, 0] rfl)
  exact loop_17 n0 0 pt 0 (-1) 0 0 0 (by omega) (nI_0.symm) (nI_0.symm) (Nat.le_refl 0) (rfl) _ _ (hP.sub [0, 1, 2, 3, 4, 5] rfl) (hD.sub [0, 1, 2, 3, 4, 5] (by decide) rfl) hS ls (lv_sub hl [1, 0] rfl)

theorem hd_X6_firstError : yX6_firstError.cls ≠ "java/lang/invoke/MethodHandle" ∧ yX6_firstError.cls ≠ "java/lang/invoke/VarHandle" ∧ (parseMethodDescriptor yX6_firstError.desc).map (fun d => d.parameters.length) = some 0 := by decide +kernel
set_option maxRecDepth 100000 in
set_option maxHeartbeats 4000000 in
theorem m_X6_firstError (l : Launch) (D : va_G) (kA : Nat → Nat) (m0 : Nat) (m1 : Nat) (m2 : Nat) (m3 : Nat) (m4 : Nat) (m5 : Nat) (z : Nat → Int32) (h : Nat → Int32) (tx : Nat → Int32) (pt : Nat → Int32) (kp : Nat → Int32) (st : Int32) (len : Int32) (th : Int32) (wo : Int32) (rd : Int32) (nu : Int32) (du : Int32) (hs : Int64) (n0 : Nat) (hlen : len = nI n0) (hn0 : n0 ≤ 60) : Met l yX6_firstError (Cond.code yX6_firstError cX6_firstError 1 (some .int) :: AW) ({ frames := 4, cells := 0, slots := 0, locals := 88 } : Room) (Pz [.ref m0] D (TY kA) [(m0, .inr (6, [.ref m1, .int st, .ref m2, .int len, .ref m3, .int th, .int wo, .ref m4, .int rd, .int nu, .int du, .ref m5, .long hs])), (m1, .inl (kA 0, 148, .inl z)), (m2, .inl (kA 0, 888, .inl h)), (m3, .inl (kA 0, 60, .inl tx)), (m4, .inl (kA 0, 72, .inl pt)), (m5, .inl (kA 0, 148, .inl kp))]) (fQ (some (.int (nI (rtL tx n0 0 (pt, 0, -1, 0)).1))) D [(m0, .inr (6, [.ref m1, .int st, .ref m2, .int len, .ref m3, .int th, .int wo, .ref m4, .int rd, .int nu, .int du, .ref m5, .long hs])), (m1, .inl (kA 0, 148, .inl z)), (m2, .inl (kA 0, 888, .inl h)), (m3, .inl (kA 0, 60, .inl tx)), (m4, .inl (kA 0, 72, .inl pt)), (m5, .inl (kA 0, 148, .inl kp))] [(m0, .inr (6, [.ref m1, .int st, .ref m2, .int len, .ref m3, .int 0, .int wo, .ref m4, .int (nI (rtL tx n0 0 (pt, 0, -1, 0)).2.2.1), .int ((rtL tx n0 0 (pt, 0, -1, 0)).2.2.2.1), .int ((rtL tx n0 0 (pt, 0, -1, 0)).2.2.2.2), .ref m5, .long hs])), (m1, .inl (kA 0, 148, .inl z)), (m2, .inl (kA 0, 888, .inl h)), (m3, .inl (kA 0, 60, .inl tx)), (m4, .inl (kA 0, 72, .inl ((rtL tx n0 0 (pt, 0, -1, 0)).2.1))), (m5, .inl (kA 0, 148, .inl kp))]) 0 0 (Aw [(m0, .inr (6, [.ref m1, .int st, .ref m2, .int len, .ref m3, .int th, .int wo, .ref m4, .int rd, .int nu, .int du, .ref m5, .long hs])), (m1, .inl (kA 0, 148, .inl z)), (m2, .inl (kA 0, 888, .inl h)), (m3, .inl (kA 0, 60, .inl tx)), (m4, .inl (kA 0, 72, .inl pt)), (m5, .inl (kA 0, 148, .inl kp))]) := by
  refine MetZ (by decide +kernel) (Nat.le_of_ble_eq_true rfl) ?_
  intro p e s m below meth c ls hx hb hrt hts hown hml hlk hnm hP hK hD hS hl
  have hl : lv_has ls 1 [(0, .ref m0)] := hl
  refine lv_aload_n hx hb dX6_firstError_0 rfl (lv_at hl 0 rfl) ?_
  refine lv_iconst (v := 0) hx hb dX6_firstError_1 (by decide) ?_
  refine va_put (ci := 6) (v := .int 0) (ty := tyX6 5) (C := RX6) (T := TX6) (N := 13) hx hb hts inX6 tyX6 tyX6_ok nmX6 hown hK hP hD hS 0 rfl rfl 5 (by decide) (hts _ q_775) (fun _ h9 => h9) rfl (tyX6_ok 5 (by decide)) rfl rfl (Nat.le_of_ble_eq_true rfl) dX6_firstError_2 (fun H locs hP hD hS => ?_)
  have hP : va_P D vwCl [(m0, .inr (6, [.ref m1, .int st, .ref m2, .int len, .ref m3, .int 0, .int wo, .ref m4, .int rd, .int nu, .int du, .ref m5, .long hs])), (m1, .inl (kA 0, 148, .inl z)), (m2, .inl (kA 0, 888, .inl h)), (m3, .inl (kA 0, 60, .inl tx)), (m4, .inl (kA 0, 72, .inl pt)), (m5, .inl (kA 0, 148, .inl kp))] H := hP
  have hD : va_D (Aw [(m0, .inr (6, [.ref m1, .int st, .ref m2, .int len, .ref m3, .int th, .int wo, .ref m4, .int rd, .int nu, .int du, .ref m5, .long hs])), (m1, .inl (kA 0, 148, .inl z)), (m2, .inl (kA 0, 888, .inl h)), (m3, .inl (kA 0, 60, .inl tx)), (m4, .inl (kA 0, 72, .inl pt)), (m5, .inl (kA 0, 148, .inl kp))]) [(m0, .inr (6, [.ref m1, .int st, .ref m2, .int len, .ref m3, .int 0, .int wo, .ref m4, .int rd, .int nu, .int du, .ref m5, .long hs])), (m1, .inl (kA 0, 148, .inl z)), (m2, .inl (kA 0, 888, .inl h)), (m3, .inl (kA 0, 60, .inl tx)), (m4, .inl (kA 0, 72, .inl pt)), (m5, .inl (kA 0, 148, .inl kp))] := hD
  refine lv_aload_n hx hb dX6_firstError_5 rfl (lv_at hl 0 rfl) ?_
  refine cs_fs (runV (As := []) (rest := []) ⟨hx, hb, hml, hown, hts⟩ (m_X6_rightUpTo l D kA m0 m1 m2 m3 m4 m5 z h tx pt kp st len 0 wo rd nu du hs n0 (hlen) (hn0)) q_956 q_958 qp_41 q_7 q_959 hd_X6_rightUpTo ⟨rfl, rfl⟩ ⟨Nat.le_of_ble_eq_true rfl, Nat.le_of_ble_eq_true rfl⟩ hK (ws := [(m0, .inr (6, [.ref m1, .int st, .ref m2, .int len, .ref m3, .int 0, .int wo, .ref m4, .int rd, .int nu, .int du, .ref m5, .long hs])), (m1, .inl (kA 0, 148, .inl z)), (m2, .inl (kA 0, 888, .inl h)), (m3, .inl (kA 0, 60, .inl tx)), (m4, .inl (kA 0, 72, .inl pt)), (m5, .inl (kA 0, 148, .inl kp))]) (hP.sub [0, 1, 2, 3, 4, 5] rfl) (hD.sub [0, 1, 2, 3, 4, 5] (by decide) rfl) 0 (ci := 6) (C := RX6) (T := TX6) (N := 13) rfl rfl rfl hl.1 rfl (Nat.le_of_ble_eq_true rfl) dX6_firstError_6 ⟨Nat.zero_le _, Nat.zero_le _⟩) hS (aw_sub hD (isC := [0, 1, 2, 3, 4, 5]) rfl) (fun H locs hP1 hk1 hS => ?_)
  obtain ⟨hP, hD⟩ := jn (wr := []) (w1 := [(m0, .inr (6, [.ref m1, .int st, .ref m2, .int len, .ref m3, .int 0, .int wo, .ref m4, .int (nI (rtL tx n0 0 (pt, 0, -1, 0)).2.2.1), .int ((rtL tx n0 0 (pt, 0, -1, 0)).2.2.2.1), .int ((rtL tx n0 0 (pt, 0, -1, 0)).2.2.2.2), .ref m5, .long hs])), (m1, .inl (kA 0, 148, .inl z)), (m2, .inl (kA 0, 888, .inl h)), (m3, .inl (kA 0, 60, .inl tx)), (m4, .inl (kA 0, 72, .inl ((rtL tx n0 0 (pt, 0, -1, 0)).2.1))), (m5, .inl (kA 0, 148, .inl kp))]) hP hD [0, 1, 2, 3, 4, 5] [] rfl rfl (by decide) hk1 hP1 rfl
  have hP : va_P D vwCl [(m0, .inr (6, [.ref m1, .int st, .ref m2, .int len, .ref m3, .int 0, .int wo, .ref m4, .int (nI (rtL tx n0 0 (pt, 0, -1, 0)).2.2.1), .int ((rtL tx n0 0 (pt, 0, -1, 0)).2.2.2.1), .int ((rtL tx n0 0 (pt, 0, -1, 0)).2.2.2.2), .ref m5, .long hs])), (m1, .inl (kA 0, 148, .inl z)), (m2, .inl (kA 0, 888, .inl h)), (m3, .inl (kA 0, 60, .inl tx)), (m4, .inl (kA 0, 72, .inl ((rtL tx n0 0 (pt, 0, -1, 0)).2.1))), (m5, .inl (kA 0, 148, .inl kp))] H := hP
  have hD : va_D (Aw [(m0, .inr (6, [.ref m1, .int st, .ref m2, .int len, .ref m3, .int th, .int wo, .ref m4, .int rd, .int nu, .int du, .ref m5, .long hs])), (m1, .inl (kA 0, 148, .inl z)), (m2, .inl (kA 0, 888, .inl h)), (m3, .inl (kA 0, 60, .inl tx)), (m4, .inl (kA 0, 72, .inl pt)), (m5, .inl (kA 0, 148, .inl kp))]) [(m0, .inr (6, [.ref m1, .int st, .ref m2, .int len, .ref m3, .int 0, .int wo, .ref m4, .int (nI (rtL tx n0 0 (pt, 0, -1, 0)).2.2.1), .int ((rtL tx n0 0 (pt, 0, -1, 0)).2.2.2.1), .int ((rtL tx n0 0 (pt, 0, -1, 0)).2.2.2.2), .ref m5, .long hs])), (m1, .inl (kA 0, 148, .inl z)), (m2, .inl (kA 0, 888, .inl h)), (m3, .inl (kA 0, 60, .inl tx)), (m4, .inl (kA 0, 72, .inl ((rtL tx n0 0 (pt, 0, -1, 0)).2.1))), (m5, .inl (kA 0, 148, .inl kp))] := hD
  have hP : va_P D vwCl [(m0, .inr (6, [.ref m1, .int st, .ref m2, .int len, .ref m3, .int 0, .int wo, .ref m4, .int (nI (rtL tx n0 0 (pt, 0, -1, 0)).2.2.1), .int ((rtL tx n0 0 (pt, 0, -1, 0)).2.2.2.1), .int ((rtL tx n0 0 (pt, 0, -1, 0)).2.2.2.2), .ref m5, .long hs])), (m1, .inl (kA 0, 148, .inl z)), (m2, .inl (kA 0, 888, .inl h)), (m3, .inl (kA 0, 60, .inl tx)), (m4, .inl (kA 0, 72, .inl ((rtL tx n0 0 (pt, 0, -1, 0)).2.1))), (m5, .inl (kA 0, 148, .inl kp))] _ := hP.sub [0, 1, 2, 3, 4, 5] rfl
  exact end_fi hx hb hrt hlk hP hS (by first | rfl | (simp only [↓reduceIte, bI]; done) | (simp only [↓reduceIte, bI]; rfl) | (simp [bI]; done)) (fun h => h) dX6_firstError_9
