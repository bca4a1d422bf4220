
def ruT (len : Int32) (tx : Nat → Int32) (n0 : Nat) (pt : Nat → Int32) : Int32 := if nI (rtL tx n0 0 (pt, 0, -1, 0)).1 = len then (if edB (rtL tx n0 0 (pt, 0, -1, 0)).2.2.2.1 (rtL tx n0 0 (pt, 0, -1, 0)).2.2.2.2 = true then 0 else 1) else 1

theorem nI_e60 {a b : Nat} {y : Int32} (h : nI a = y) (e : y = nI b) (ha : a ≤ 0 + b) (hb : b ≤ 60) : a = b := by
  have q := congrArg Int32.toNatClampNeg (h.trans e)
  rwa [nI_clamp (by omega), nI_clamp (by omega)] at q
theorem hd_X6_carries : yX6_carries.cls ≠ "java/lang/invoke/MethodHandle" ∧ yX6_carries.cls ≠ "java/lang/invoke/VarHandle" ∧ (parseMethodDescriptor yX6_carries.desc).map (fun d => d.parameters.length) = some 1 := by decide +kernel
set_option maxRecDepth 100000 in
set_option maxHeartbeats 4000000 in
theorem m_X6_carries (l : Launch) (D : va_G) (kA : Nat → Nat) (m0 : Nat) (m1 : Nat) (m2 : Nat) (m3 : Nat) (m4 : Nat) (m5 : Nat) (z : Nat → Int32) (h : Nat → Int32) (tx : Nat → Int32) (pt : Nat → Int32) (kp : Nat → Int32) (st : Int32) (len : Int32) (th : Int32) (wo : Int32) (rd : Int32) (nu : Int32) (du : Int32) (hs : Int64) (p0 : Int32) (P : Nat) (hI : Inv z) (ep : p0 = nI P) (hP : P < 23) (hok : okC (pt (3 * P)) (pt (3 * P + 1)) (pt (3 * P + 2))) (hwo : wo = -1) : Met l yX6_carries (Cond.code yX6_carries cX6_carries 7 (some .boolean) :: AW) ({ frames := 5, cells := 0, slots := 0, locals := 120 } : Room) (Pz [.ref m0, .int p0] D (TY kA) [(m0, .inr (6, [.ref m1, .int st, .ref m2, .int len, .ref m3, .int th, .int wo, .ref m4, .int rd, .int nu, .int du, .ref m5, .long hs])), (m1, .inl (kA 0, 148, .inl z)), (m2, .inl (kA 0, 888, .inl h)), (m3, .inl (kA 0, 60, .inl tx)), (m4, .inl (kA 0, 72, .inl pt)), (m5, .inl (kA 0, 148, .inl kp))]) (fQ (some (.int (bI (caP pt P z).1))) D [(m0, .inr (6, [.ref m1, .int st, .ref m2, .int len, .ref m3, .int th, .int wo, .ref m4, .int rd, .int nu, .int du, .ref m5, .long hs])), (m1, .inl (kA 0, 148, .inl z)), (m2, .inl (kA 0, 888, .inl h)), (m3, .inl (kA 0, 60, .inl tx)), (m4, .inl (kA 0, 72, .inl pt)), (m5, .inl (kA 0, 148, .inl kp))] [(m0, .inr (6, [.ref m1, .int st, .ref m2, .int len, .ref m3, .int th, .int wo, .ref m4, .int rd, .int nu, .int du, .ref m5, .long hs])), (m1, .inl (kA 0, 148, .inl ((caP pt P z).2))), (m2, .inl (kA 0, 888, .inl h)), (m3, .inl (kA 0, 60, .inl tx)), (m4, .inl (kA 0, 72, .inl pt)), (m5, .inl (kA 0, 148, .inl kp))]) 0 0 (Aw [(m0, .inr (6, [.ref m1, .int st, .ref m2, .int len, .ref m3, .int th, .int wo, .ref m4, .int rd, .int nu, .int du, .ref m5, .long hs])), (m1, .inl (kA 0, 148, .inl z)), (m2, .inl (kA 0, 888, .inl h)), (m3, .inl (kA 0, 60, .inl tx)), (m4, .inl (kA 0, 72, .inl pt)), (m5, .inl (kA 0, 148, .inl kp))]) := by
  refine MetZ (by decide +kernel) (Nat.le_of_ble_eq_true rfl) ?_
  intro p e s m below meth c ls hx hb hrt hts hown hml hlk hnm hP hK hD hS hl
  have hl : lv_has ls 7 [(0, .ref m0), (1, .int p0)] := hl
  obtain ⟨ax, hax⟩ : ∃ x : Nat, x = (pt (3 * P)).toNatClampNeg := ⟨_, rfl⟩
  obtain ⟨sg, hsg⟩ : ∃ x : Int32, x = pt (3 * P + 1) := ⟨_, rfl⟩
  obtain ⟨v, hv⟩ : ∃ x : Int32, x = pt (3 * P + 2) := ⟨_, rfl⟩
  have hC : caP pt P z = caF z ax sg v := by unfold caP; rw [hax, hsg, hv]
  rw [← hsg, ← hv] at hok
  have hA := okC_a hok
  rw [← hax] at hA
  have ha : ax < 4 := hA.2
  refine lv_aload_n hx hb dX6_carries_0 rfl (lv_at hl 0 rfl) ?_
  refine va_get (ci := 6) (v := .ref m4) (C := RX6) (T := TX6) (N := 13) hx hb hts inX6 hown hK hP 0 rfl rfl 7 (by decide) (hts _ q_777) (fun _ h9 => h9) rfl dX6_carries_1 ?_
  refine lv_iconst (v := 3) hx hb dX6_carries_4 (by decide) ?_
  refine lv_iload_n hx hb dX6_carries_5 rfl (lv_at hl 1 rfl) ?_
  refine lv_imul hx hb dX6_carries_6 ?_
  refine va_iald (f := pt) hx hb hK hP 4 0 rfl rfl (in_nI (ix3 ep) (by omega) (by decide)) dX6_carries_7 ?_
  refine W_top (v' := .int (nI ax)) (by rw [clamp_j (ix3 ep) (by omega)]; exact congrArg Value.int hA.1) ?_
  refine lv_istore_n (lv' := [(2, .int (nI ax)), (0, .ref m0), (1, .int p0)]) hx hb dX6_carries_8 rfl hl (by decide) rfl (fun ls hl => ?_)
  refine lv_aload_n hx hb dX6_carries_9 rfl (lv_at hl 1 rfl) ?_
  refine va_get (ci := 6) (v := .ref m4) (C := RX6) (T := TX6) (N := 13) hx hb hts inX6 hown hK hP 0 rfl rfl 7 (by decide) (hts _ q_777) (fun _ h9 => h9) rfl dX6_carries_10 ?_
  refine lv_iconst (v := 3) hx hb dX6_carries_13 (by decide) ?_
  refine lv_iload_n hx hb dX6_carries_14 rfl (lv_at hl 2 rfl) ?_
  refine lv_imul hx hb dX6_carries_15 ?_
  refine lv_iconst (v := 1) hx hb dX6_carries_16 (by decide) ?_
  refine lv_iadd hx hb dX6_carries_17 ?_
  refine va_iald (f := pt) hx hb hK hP 4 0 rfl rfl (in_nI (ix31 ep) (by omega) (by decide)) dX6_carries_18 ?_
  refine W_top (v' := .int (sg)) (by rw [clamp_j (ix31 ep) (by omega)]; exact congrArg Value.int hsg.symm) ?_
  refine lv_istore_n (lv' := [(3, .int sg), (2, .int (nI ax)), (0, .ref m0), (1, .int p0)]) hx hb dX6_carries_19 rfl hl (by decide) rfl (fun ls hl => ?_)
  refine lv_aload_n hx hb dX6_carries_20 rfl (lv_at hl 2 rfl) ?_
  refine va_get (ci := 6) (v := .ref m4) (C := RX6) (T := TX6) (N := 13) hx hb hts inX6 hown hK hP 0 rfl rfl 7 (by decide) (hts _ q_777) (fun _ h9 => h9) rfl dX6_carries_21 ?_
  refine lv_iconst (v := 3) hx hb dX6_carries_24 (by decide) ?_
  refine lv_iload_n hx hb dX6_carries_25 rfl (lv_at hl 3 rfl) ?_
  refine lv_imul hx hb dX6_carries_26 ?_
  refine lv_iconst (v := 2) hx hb dX6_carries_27 (by decide) ?_
  refine lv_iadd hx hb dX6_carries_28 ?_
  refine va_iald (f := pt) hx hb hK hP 4 0 rfl rfl (in_nI (ix32 ep) (by omega) (by decide)) dX6_carries_29 ?_
  refine W_top (v' := .int (v)) (by rw [clamp_j (ix32 ep) (by omega)]; exact congrArg Value.int hv.symm) ?_
  refine lv_istore (lv' := [(4, .int v), (3, .int sg), (2, .int (nI ax)), (0, .ref m0), (1, .int p0)]) hx hb dX6_carries_30 hl (by decide) rfl (fun ls hl => ?_)
  refine lv_iload_n hx hb dX6_carries_32 rfl (lv_at hl 1 rfl) ?_
  refine lv_bipush (v := 104) hx hb dX6_carries_33 (by decide) ?_
  refine lv_icmp_eq (tgt := 92) hx hb dX6_carries_35 (by decide) (fun c_1 => ?_) (fun c_1 => ?_)
  · skip
    refine lv_iconst (v := 1) hx hb dX6_carries_92 (by decide) ?_
    refine lv_goto (tgt := 97) hx hb dX6_carries_93 (by decide) ?_
    refine lv_istore (lv' := [(5, .int 1), (4, .int v), (3, .int sg), (2, .int (nI ax)), (0, .ref m0), (1, .int p0)]) hx hb dX6_carries_97 hl (by decide) rfl (fun ls hl => ?_)
    refine lv_iconst (v := 0) hx hb dX6_carries_99 (by decide) ?_
    refine lv_istore (lv' := [(6, .int 0), (5, .int 1), (4, .int v), (3, .int sg), (2, .int (nI ax)), (0, .ref m0), (1, .int p0)]) hx hb dX6_carries_100 hl (by decide) rfl (fun ls hl => ?_)
    refine lv_iload hx hb dX6_carries_102 (lv_at hl 1 rfl) ?_
    refine lv_if_eq (tgt := 121) hx hb dX6_carries_104 (by decide) (fun c_2 => ?_) (fun c_2 => ?_)
    · exact absurd c_2 (by decide)
    · skip
      refine lv_iload_n hx hb dX6_carries_107 rfl (lv_at hl 3 rfl) ?_
      refine lv_bipush (v := 103) hx hb dX6_carries_108 (by decide) ?_
      refine lv_icmp_ne (tgt := 121) hx hb dX6_carries_110 (by decide) (fun c_3 => ?_) (fun c_3 => ?_)
      · skip
        refine lv_iload hx hb dX6_carries_121 (lv_at hl 1 rfl) ?_
        refine lv_if_eq (tgt := 176) hx hb dX6_carries_123 (by decide) (fun c_4 => ?_) (fun c_4 => ?_)
        · exact absurd c_4 (by decide)
        · skip
          refine lv_iload_n hx hb dX6_carries_126 rfl (lv_at hl 3 rfl) ?_
          refine lv_bipush (v := 104) hx hb dX6_carries_127 (by decide) ?_
          refine lv_icmp_ne (tgt := 140) hx hb dX6_carries_129 (by decide) (fun c_5 => ?_) (fun c_5 => ?_)
          · exact absurd c_1 c_5
          · skip
            refine lv_aload_n hx hb dX6_carries_132 rfl (lv_at hl 5 rfl) ?_
            refine lv_iload_n hx hb dX6_carries_133 rfl (lv_at hl 4 rfl) ?_
            refine cs_fs (runV (As := [.int (nI ax)]) (rest := []) ⟨hx, hb, hml, hown, hts⟩ (m_X6_homes l D kA m0 m1 m2 m3 m4 m5 z h tx pt kp st len th wo rd nu du hs ax (hI) (ha)) q_920 q_922 qp_37 q_7 q_923 hd_X6_homes ⟨rfl, rfl⟩ ⟨Nat.le_of_ble_eq_true rfl, Nat.le_of_ble_eq_true rfl⟩ hK (ws := [(m0, .inr (6, [.ref m1, .int st, .ref m2, .int len, .ref m3, .int th, .int wo, .ref m4, .int rd, .int nu, .int du, .ref m5, .long hs])), (m1, .inl (kA 0, 148, .inl z)), (m2, .inl (kA 0, 888, .inl h)), (m3, .inl (kA 0, 60, .inl tx)), (m4, .inl (kA 0, 72, .inl pt)), (m5, .inl (kA 0, 148, .inl kp))]) (hP.sub [0, 1, 2, 3, 4, 5] rfl) (hD.sub [0, 1, 2, 3, 4, 5] (by decide) rfl) 0 (ci := 6) (C := RX6) (T := TX6) (N := 13) rfl rfl rfl hl.1 rfl (Nat.le_of_ble_eq_true rfl) dX6_carries_134 ⟨Nat.zero_le _, Nat.zero_le _⟩) hS (aw_sub hD (isC := [0, 1, 2, 3, 4, 5]) rfl) (fun H locs hP1 hk1 hS => ?_)
            obtain ⟨hP, hD⟩ := jn (wr := []) (w1 := [(m0, .inr (6, [.ref m1, .int st, .ref m2, .int len, .ref m3, .int th, .int wo, .ref m4, .int rd, .int nu, .int du, .ref m5, .long hs])), (m1, .inl (kA 0, 148, .inl (hoZ z ax))), (m2, .inl (kA 0, 888, .inl h)), (m3, .inl (kA 0, 60, .inl tx)), (m4, .inl (kA 0, 72, .inl pt)), (m5, .inl (kA 0, 148, .inl kp))]) hP hD [0, 1, 2, 3, 4, 5] [] rfl rfl (by decide) hk1 hP1 rfl
            have hP : va_P D vwCl [(m0, .inr (6, [.ref m1, .int st, .ref m2, .int len, .ref m3, .int th, .int wo, .ref m4, .int rd, .int nu, .int du, .ref m5, .long hs])), (m1, .inl (kA 0, 148, .inl (hoZ z ax))), (m2, .inl (kA 0, 888, .inl h)), (m3, .inl (kA 0, 60, .inl tx)), (m4, .inl (kA 0, 72, .inl pt)), (m5, .inl (kA 0, 148, .inl kp))] H := hP
            have hD : va_D (Aw [(m0, .inr (6, [.ref m1, .int st, .ref m2, .int len, .ref m3, .int th, .int wo, .ref m4, .int rd, .int nu, .int du, .ref m5, .long hs])), (m1, .inl (kA 0, 148, .inl z)), (m2, .inl (kA 0, 888, .inl h)), (m3, .inl (kA 0, 60, .inl tx)), (m4, .inl (kA 0, 72, .inl pt)), (m5, .inl (kA 0, 148, .inl kp))]) [(m0, .inr (6, [.ref m1, .int st, .ref m2, .int len, .ref m3, .int th, .int wo, .ref m4, .int rd, .int nu, .int du, .ref m5, .long hs])), (m1, .inl (kA 0, 148, .inl (hoZ z ax))), (m2, .inl (kA 0, 888, .inl h)), (m3, .inl (kA 0, 60, .inl tx)), (m4, .inl (kA 0, 72, .inl pt)), (m5, .inl (kA 0, 148, .inl kp))] := hD
            refine lv_goto (tgt := 174) hx hb dX6_carries_137 (by decide) ?_
            refine lv_istore (lv' := [(6, .int (hoR z ax)), (5, .int 1), (4, .int v), (3, .int sg), (2, .int (nI ax)), (0, .ref m0), (1, .int p0)]) hx hb dX6_carries_174 hl (by decide) rfl (fun ls hl => ?_)
            refine lv_iload hx hb dX6_carries_176 (lv_at hl 1 rfl) ?_
            have hP : va_P D vwCl [(m0, .inr (6, [.ref m1, .int st, .ref m2, .int len, .ref m3, .int th, .int wo, .ref m4, .int rd, .int nu, .int du, .ref m5, .long hs])), (m1, .inl (kA 0, 148, .inl (hoZ z ax))), (m2, .inl (kA 0, 888, .inl h)), (m3, .inl (kA 0, 60, .inl tx)), (m4, .inl (kA 0, 72, .inl pt)), (m5, .inl (kA 0, 148, .inl kp))] _ := hP.sub [0, 1, 2, 3, 4, 5] rfl
            exact end_fz hx hb hrt hlk (by decide) hP hS (by rw [hC, caF, if_pos c_5]; rfl) (fun hq => by rw [hC, caF, if_pos c_5]; exact hq) dX6_carries_178
      · exact absurd c_3 (by rw [c_1]; decide)
  · skip
    refine lv_iload_n hx hb dX6_carries_38 rfl (lv_at hl 1 rfl) ?_
    refine lv_bipush (v := 103) hx hb dX6_carries_39 (by decide) ?_
    refine lv_icmp_ne (tgt := 54) hx hb dX6_carries_41 (by decide) (fun c_6 => ?_) (fun c_6 => ?_)
    · skip
      refine lv_iload_n hx hb dX6_carries_54 rfl (lv_at hl 1 rfl) ?_
      refine lv_bipush (v := 61) hx hb dX6_carries_55 (by decide) ?_
      refine lv_icmp_ne (tgt := 73) hx hb dX6_carries_57 (by decide) (fun c_7 => ?_) (fun c_7 => ?_)
      · skip
        refine lv_aload_n hx hb dX6_carries_73 rfl (lv_at hl 3 rfl) ?_
        refine lv_iload_n hx hb dX6_carries_74 rfl (lv_at hl 2 rfl) ?_
        refine lv_iload_n hx hb dX6_carries_75 rfl (lv_at hl 1 rfl) ?_
        refine lv_bipush (v := 43) hx hb dX6_carries_76 (by decide) ?_
        refine lv_icmp_ne (tgt := 85) hx hb dX6_carries_78 (by decide) (fun c_8 => ?_) (fun c_8 => ?_)
        · skip
          refine lv_iconst (v := 0) hx hb dX6_carries_85 (by decide) ?_
          refine cs_p (runV (As := [.int (nI ax), .int (bI false)]) (rest := []) ⟨hx, hb, hml, hown, hts⟩ (m_X6_canStep l D kA m0 m1 m2 m3 m4 m5 z h tx pt kp st len th wo rd nu du hs ax false (hI) (ha)) q_855 q_857 qp_25 q_7 q_858 hd_X6_canStep ⟨rfl, rfl⟩ ⟨Nat.le_of_ble_eq_true rfl, Nat.le_of_ble_eq_true rfl⟩ hK (ws := [(m0, .inr (6, [.ref m1, .int st, .ref m2, .int len, .ref m3, .int th, .int wo, .ref m4, .int rd, .int nu, .int du, .ref m5, .long hs])), (m1, .inl (kA 0, 148, .inl z)), (m2, .inl (kA 0, 888, .inl h)), (m3, .inl (kA 0, 60, .inl tx)), (m4, .inl (kA 0, 72, .inl pt)), (m5, .inl (kA 0, 148, .inl kp))]) (hP.sub [0, 1, 2, 3, 4, 5] rfl) (hD.sub [0, 1, 2, 3, 4, 5] (by decide) rfl) 0 (ci := 6) (C := RX6) (T := TX6) (N := 13) rfl rfl rfl hl.1 rfl (Nat.le_of_ble_eq_true rfl) dX6_carries_86 ⟨Nat.zero_le _, Nat.zero_le _⟩) ?_
          refine lv_if_eq (tgt := 96) hx hb dX6_carries_89 (by decide) (fun c_9 => ?_) (fun c_9 => ?_)
          · skip
            replace c_9 := bI_0.mp c_9
            refine lv_iconst (v := 0) hx hb dX6_carries_96 (by decide) ?_
            refine lv_istore (lv' := [(5, .int 0), (4, .int v), (3, .int sg), (2, .int (nI ax)), (0, .ref m0), (1, .int p0)]) hx hb dX6_carries_97 hl (by decide) rfl (fun ls hl => ?_)
            refine lv_iconst (v := 0) hx hb dX6_carries_99 (by decide) ?_
            refine lv_istore (lv' := [(6, .int 0), (5, .int 0), (4, .int v), (3, .int sg), (2, .int (nI ax)), (0, .ref m0), (1, .int p0)]) hx hb dX6_carries_100 hl (by decide) rfl (fun ls hl => ?_)
            refine lv_iload hx hb dX6_carries_102 (lv_at hl 1 rfl) ?_
            refine lv_if_eq (tgt := 121) hx hb dX6_carries_104 (by decide) (fun c_10 => ?_) (fun c_10 => ?_)
            · skip
              refine lv_iload hx hb dX6_carries_121 (lv_at hl 1 rfl) ?_
              refine lv_if_eq (tgt := 176) hx hb dX6_carries_123 (by decide) (fun c_11 => ?_) (fun c_11 => ?_)
              · skip
                refine lv_iload hx hb dX6_carries_176 (lv_at hl 1 rfl) ?_
                have hP : va_P D vwCl [(m0, .inr (6, [.ref m1, .int st, .ref m2, .int len, .ref m3, .int th, .int wo, .ref m4, .int rd, .int nu, .int du, .ref m5, .long hs])), (m1, .inl (kA 0, 148, .inl z)), (m2, .inl (kA 0, 888, .inl h)), (m3, .inl (kA 0, 60, .inl tx)), (m4, .inl (kA 0, 72, .inl pt)), (m5, .inl (kA 0, 148, .inl kp))] _ := hP.sub [0, 1, 2, 3, 4, 5] rfl
                exact end_fz hx hb hrt hlk (by decide) hP hS (by rw [hC, caF, if_neg c_1, if_neg c_6, if_neg c_7, if_neg c_8, if_neg (by rw [c_9]; decide)]; rfl) (fun hq => by rw [hC, caF, if_neg c_1, if_neg c_6, if_neg c_7, if_neg c_8, if_neg (by rw [c_9]; decide)]; exact hq) dX6_carries_178
              · exact absurd c_11 (by decide)
            · exact absurd c_10 (by decide)
          · skip
            replace c_9 := bI_n0 c_9
            refine lv_iconst (v := 1) hx hb dX6_carries_92 (by decide) ?_
            refine lv_goto (tgt := 97) hx hb dX6_carries_93 (by decide) ?_
            refine lv_istore (lv' := [(5, .int 1), (4, .int v), (3, .int sg), (2, .int (nI ax)), (0, .ref m0), (1, .int p0)]) hx hb dX6_carries_97 hl (by decide) rfl (fun ls hl => ?_)
            refine lv_iconst (v := 0) hx hb dX6_carries_99 (by decide) ?_
            refine lv_istore (lv' := [(6, .int 0), (5, .int 1), (4, .int v), (3, .int sg), (2, .int (nI ax)), (0, .ref m0), (1, .int p0)]) hx hb dX6_carries_100 hl (by decide) rfl (fun ls hl => ?_)
            refine lv_iload hx hb dX6_carries_102 (lv_at hl 1 rfl) ?_
            refine lv_if_eq (tgt := 121) hx hb dX6_carries_104 (by decide) (fun c_12 => ?_) (fun c_12 => ?_)
            · exact absurd c_12 (by decide)
            · skip
              refine lv_iload_n hx hb dX6_carries_107 rfl (lv_at hl 3 rfl) ?_
              refine lv_bipush (v := 103) hx hb dX6_carries_108 (by decide) ?_
              refine lv_icmp_ne (tgt := 121) hx hb dX6_carries_110 (by decide) (fun c_13 => ?_) (fun c_13 => ?_)
              · skip
                refine lv_iload hx hb dX6_carries_121 (lv_at hl 1 rfl) ?_
                refine lv_if_eq (tgt := 176) hx hb dX6_carries_123 (by decide) (fun c_14 => ?_) (fun c_14 => ?_)
                · exact absurd c_14 (by decide)
                · skip
                  refine lv_iload_n hx hb dX6_carries_126 rfl (lv_at hl 3 rfl) ?_
                  refine lv_bipush (v := 104) hx hb dX6_carries_127 (by decide) ?_
                  refine lv_icmp_ne (tgt := 140) hx hb dX6_carries_129 (by decide) (fun c_15 => ?_) (fun c_15 => ?_)
                  · skip
                    refine lv_iload_n hx hb dX6_carries_140 rfl (lv_at hl 3 rfl) ?_
                    refine lv_bipush (v := 61) hx hb dX6_carries_141 (by decide) ?_
                    refine lv_icmp_ne (tgt := 156) hx hb dX6_carries_143 (by decide) (fun c_16 => ?_) (fun c_16 => ?_)
                    · skip
                      refine lv_aload_n hx hb dX6_carries_156 rfl (lv_at hl 5 rfl) ?_
                      refine lv_iload_n hx hb dX6_carries_157 rfl (lv_at hl 4 rfl) ?_
                      refine lv_iload_n hx hb dX6_carries_158 rfl (lv_at hl 3 rfl) ?_
                      refine lv_bipush (v := 43) hx hb dX6_carries_159 (by decide) ?_
                      refine lv_icmp_ne (tgt := 168) hx hb dX6_carries_161 (by decide) (fun c_17 => ?_) (fun c_17 => ?_)
                      · skip
                        refine lv_iconst (v := 0) hx hb dX6_carries_168 (by decide) ?_
                        refine lv_iload hx hb dX6_carries_169 (lv_at hl 2 rfl) ?_
                        refine cs_fs (runV (As := [.int (nI ax), .int (bI false), .int v]) (rest := []) ⟨hx, hb, hml, hown, hts⟩ (m_X6_makeSteps l D kA m0 m1 m2 m3 m4 m5 z h tx pt kp st len th wo rd nu du hs ax false v v.toNatClampNeg (hI) (ha) ((okC_k hok c_15 c_13 c_16).1) ((okC_k hok c_15 c_13 c_16).2.1)) q_874 q_876 qp_29 q_7 q_877 hd_X6_makeSteps ⟨rfl, rfl⟩ ⟨Nat.le_of_ble_eq_true rfl, Nat.le_of_ble_eq_true rfl⟩ hK (ws := [(m0, .inr (6, [.ref m1, .int st, .ref m2, .int len, .ref m3, .int th, .int wo, .ref m4, .int rd, .int nu, .int du, .ref m5, .long hs])), (m1, .inl (kA 0, 148, .inl z)), (m2, .inl (kA 0, 888, .inl h)), (m3, .inl (kA 0, 60, .inl tx)), (m4, .inl (kA 0, 72, .inl pt)), (m5, .inl (kA 0, 148, .inl kp))]) (hP.sub [0, 1, 2, 3, 4, 5] rfl) (hD.sub [0, 1, 2, 3, 4, 5] (by decide) rfl) 0 (ci := 6) (C := RX6) (T := TX6) (N := 13) rfl rfl rfl hl.1 rfl (Nat.le_of_ble_eq_true rfl) dX6_carries_171 ⟨Nat.zero_le _, Nat.zero_le _⟩) hS (aw_sub hD (isC := [0, 1, 2, 3, 4, 5]) rfl) (fun H locs hP1 hk1 hS => ?_)
                        obtain ⟨hP, hD⟩ := jn (wr := []) (w1 := [(m0, .inr (6, [.ref m1, .int st, .ref m2, .int len, .ref m3, .int th, .int wo, .ref m4, .int rd, .int nu, .int du, .ref m5, .long hs])), (m1, .inl (kA 0, 148, .inl ((msL ax (wI false) v.toNatClampNeg z 0).2))), (m2, .inl (kA 0, 888, .inl h)), (m3, .inl (kA 0, 60, .inl tx)), (m4, .inl (kA 0, 72, .inl pt)), (m5, .inl (kA 0, 148, .inl kp))]) hP hD [0, 1, 2, 3, 4, 5] [] rfl rfl (by decide) hk1 hP1 rfl
                        have hP : va_P D vwCl [(m0, .inr (6, [.ref m1, .int st, .ref m2, .int len, .ref m3, .int th, .int wo, .ref m4, .int rd, .int nu, .int du, .ref m5, .long hs])), (m1, .inl (kA 0, 148, .inl ((msL ax (wI false) v.toNatClampNeg z 0).2))), (m2, .inl (kA 0, 888, .inl h)), (m3, .inl (kA 0, 60, .inl tx)), (m4, .inl (kA 0, 72, .inl pt)), (m5, .inl (kA 0, 148, .inl kp))] H := hP
                        have hD : va_D (Aw [(m0, .inr (6, [.ref m1, .int st, .ref m2, .int len, .ref m3, .int th, .int wo, .ref m4, .int rd, .int nu, .int du, .ref m5, .long hs])), (m1, .inl (kA 0, 148, .inl z)), (m2, .inl (kA 0, 888, .inl h)), (m3, .inl (kA 0, 60, .inl tx)), (m4, .inl (kA 0, 72, .inl pt)), (m5, .inl (kA 0, 148, .inl kp))]) [(m0, .inr (6, [.ref m1, .int st, .ref m2, .int len, .ref m3, .int th, .int wo, .ref m4, .int rd, .int nu, .int du, .ref m5, .long hs])), (m1, .inl (kA 0, 148, .inl ((msL ax (wI false) v.toNatClampNeg z 0).2))), (m2, .inl (kA 0, 888, .inl h)), (m3, .inl (kA 0, 60, .inl tx)), (m4, .inl (kA 0, 72, .inl pt)), (m5, .inl (kA 0, 148, .inl kp))] := hD
                        refine lv_istore (lv' := [(6, .int ((msL ax (wI false) v.toNatClampNeg z 0).1)), (5, .int 1), (4, .int v), (3, .int sg), (2, .int (nI ax)), (0, .ref m0), (1, .int p0)]) hx hb dX6_carries_174 hl (by decide) rfl (fun ls hl => ?_)
                        refine lv_iload hx hb dX6_carries_176 (lv_at hl 1 rfl) ?_
                        have hP : va_P D vwCl [(m0, .inr (6, [.ref m1, .int st, .ref m2, .int len, .ref m3, .int th, .int wo, .ref m4, .int rd, .int nu, .int du, .ref m5, .long hs])), (m1, .inl (kA 0, 148, .inl ((msL ax (wI false) v.toNatClampNeg z 0).2))), (m2, .inl (kA 0, 888, .inl h)), (m3, .inl (kA 0, 60, .inl tx)), (m4, .inl (kA 0, 72, .inl pt)), (m5, .inl (kA 0, 148, .inl kp))] _ := hP.sub [0, 1, 2, 3, 4, 5] rfl
                        exact end_fz hx hb hrt hlk (by decide) hP hS (by rw [hC, caF, if_neg c_15, if_neg c_13, if_neg c_16, if_neg c_17, if_pos c_9]; rfl) (fun hq => by rw [hC, caF, if_neg c_15, if_neg c_13, if_neg c_16, if_neg c_17, if_pos c_9]; exact hq) dX6_carries_178
                      · exact absurd c_17 c_8
                    · exact absurd c_16 c_7
                  · exact absurd c_15 c_1
              · exact absurd c_13 c_6
        · skip
          refine lv_iconst (v := 1) hx hb dX6_carries_81 (by decide) ?_
          refine lv_goto (tgt := 86) hx hb dX6_carries_82 (by decide) ?_
          refine cs_p (runV (As := [.int (nI ax), .int (bI true)]) (rest := []) ⟨hx, hb, hml, hown, hts⟩ (m_X6_canStep l D kA m0 m1 m2 m3 m4 m5 z h tx pt kp st len th wo rd nu du hs ax true (hI) (ha)) q_855 q_857 qp_25 q_7 q_858 hd_X6_canStep ⟨rfl, rfl⟩ ⟨Nat.le_of_ble_eq_true rfl, Nat.le_of_ble_eq_true rfl⟩ hK (ws := [(m0, .inr (6, [.ref m1, .int st, .ref m2, .int len, .ref m3, .int th, .int wo, .ref m4, .int rd, .int nu, .int du, .ref m5, .long hs])), (m1, .inl (kA 0, 148, .inl z)), (m2, .inl (kA 0, 888, .inl h)), (m3, .inl (kA 0, 60, .inl tx)), (m4, .inl (kA 0, 72, .inl pt)), (m5, .inl (kA 0, 148, .inl kp))]) (hP.sub [0, 1, 2, 3, 4, 5] rfl) (hD.sub [0, 1, 2, 3, 4, 5] (by decide) rfl) 0 (ci := 6) (C := RX6) (T := TX6) (N := 13) rfl rfl rfl hl.1 rfl (Nat.le_of_ble_eq_true rfl) dX6_carries_86 ⟨Nat.zero_le _, Nat.zero_le _⟩) ?_
          refine lv_if_eq (tgt := 96) hx hb dX6_carries_89 (by decide) (fun c_18 => ?_) (fun c_18 => ?_)
          · skip
            replace c_18 := bI_0.mp c_18
            refine lv_iconst (v := 0) hx hb dX6_carries_96 (by decide) ?_
            refine lv_istore (lv' := [(5, .int 0), (4, .int v), (3, .int sg), (2, .int (nI ax)), (0, .ref m0), (1, .int p0)]) hx hb dX6_carries_97 hl (by decide) rfl (fun ls hl => ?_)
            refine lv_iconst (v := 0) hx hb dX6_carries_99 (by decide) ?_
            refine lv_istore (lv' := [(6, .int 0), (5, .int 0), (4, .int v), (3, .int sg), (2, .int (nI ax)), (0, .ref m0), (1, .int p0)]) hx hb dX6_carries_100 hl (by decide) rfl (fun ls hl => ?_)
            refine lv_iload hx hb dX6_carries_102 (lv_at hl 1 rfl) ?_
            refine lv_if_eq (tgt := 121) hx hb dX6_carries_104 (by decide) (fun c_19 => ?_) (fun c_19 => ?_)
            · skip
              refine lv_iload hx hb dX6_carries_121 (lv_at hl 1 rfl) ?_
              refine lv_if_eq (tgt := 176) hx hb dX6_carries_123 (by decide) (fun c_20 => ?_) (fun c_20 => ?_)
              · skip
                refine lv_iload hx hb dX6_carries_176 (lv_at hl 1 rfl) ?_
                have hP : va_P D vwCl [(m0, .inr (6, [.ref m1, .int st, .ref m2, .int len, .ref m3, .int th, .int wo, .ref m4, .int rd, .int nu, .int du, .ref m5, .long hs])), (m1, .inl (kA 0, 148, .inl z)), (m2, .inl (kA 0, 888, .inl h)), (m3, .inl (kA 0, 60, .inl tx)), (m4, .inl (kA 0, 72, .inl pt)), (m5, .inl (kA 0, 148, .inl kp))] _ := hP.sub [0, 1, 2, 3, 4, 5] rfl
                exact end_fz hx hb hrt hlk (by decide) hP hS (by rw [hC, caF, if_neg c_1, if_neg c_6, if_neg c_7, if_pos c_8, if_neg (by rw [c_18]; decide)]; rfl) (fun hq => by rw [hC, caF, if_neg c_1, if_neg c_6, if_neg c_7, if_pos c_8, if_neg (by rw [c_18]; decide)]; exact hq) dX6_carries_178
              · exact absurd c_20 (by decide)
            · exact absurd c_19 (by decide)
          · skip
            replace c_18 := bI_n0 c_18
            refine lv_iconst (v := 1) hx hb dX6_carries_92 (by decide) ?_
            refine lv_goto (tgt := 97) hx hb dX6_carries_93 (by decide) ?_
            refine lv_istore (lv' := [(5, .int 1), (4, .int v), (3, .int sg), (2, .int (nI ax)), (0, .ref m0), (1, .int p0)]) hx hb dX6_carries_97 hl (by decide) rfl (fun ls hl => ?_)
            refine lv_iconst (v := 0) hx hb dX6_carries_99 (by decide) ?_
            refine lv_istore (lv' := [(6, .int 0), (5, .int 1), (4, .int v), (3, .int sg), (2, .int (nI ax)), (0, .ref m0), (1, .int p0)]) hx hb dX6_carries_100 hl (by decide) rfl (fun ls hl => ?_)
            refine lv_iload hx hb dX6_carries_102 (lv_at hl 1 rfl) ?_
            refine lv_if_eq (tgt := 121) hx hb dX6_carries_104 (by decide) (fun c_21 => ?_) (fun c_21 => ?_)
            · exact absurd c_21 (by decide)
            · skip
              refine lv_iload_n hx hb dX6_carries_107 rfl (lv_at hl 3 rfl) ?_
              refine lv_bipush (v := 103) hx hb dX6_carries_108 (by decide) ?_
              refine lv_icmp_ne (tgt := 121) hx hb dX6_carries_110 (by decide) (fun c_22 => ?_) (fun c_22 => ?_)
              · skip
                refine lv_iload hx hb dX6_carries_121 (lv_at hl 1 rfl) ?_
                refine lv_if_eq (tgt := 176) hx hb dX6_carries_123 (by decide) (fun c_23 => ?_) (fun c_23 => ?_)
                · exact absurd c_23 (by decide)
                · skip
                  refine lv_iload_n hx hb dX6_carries_126 rfl (lv_at hl 3 rfl) ?_
                  refine lv_bipush (v := 104) hx hb dX6_carries_127 (by decide) ?_
                  refine lv_icmp_ne (tgt := 140) hx hb dX6_carries_129 (by decide) (fun c_24 => ?_) (fun c_24 => ?_)
                  · skip
                    refine lv_iload_n hx hb dX6_carries_140 rfl (lv_at hl 3 rfl) ?_
                    refine lv_bipush (v := 61) hx hb dX6_carries_141 (by decide) ?_
                    refine lv_icmp_ne (tgt := 156) hx hb dX6_carries_143 (by decide) (fun c_25 => ?_) (fun c_25 => ?_)
                    · skip
                      refine lv_aload_n hx hb dX6_carries_156 rfl (lv_at hl 5 rfl) ?_
                      refine lv_iload_n hx hb dX6_carries_157 rfl (lv_at hl 4 rfl) ?_
                      refine lv_iload_n hx hb dX6_carries_158 rfl (lv_at hl 3 rfl) ?_
                      refine lv_bipush (v := 43) hx hb dX6_carries_159 (by decide) ?_
                      refine lv_icmp_ne (tgt := 168) hx hb dX6_carries_161 (by decide) (fun c_26 => ?_) (fun c_26 => ?_)
                      · exact absurd c_8 c_26
                      · skip
                        refine lv_iconst (v := 1) hx hb dX6_carries_164 (by decide) ?_
                        refine lv_goto (tgt := 169) hx hb dX6_carries_165 (by decide) ?_
                        refine lv_iload hx hb dX6_carries_169 (lv_at hl 2 rfl) ?_
                        refine cs_fs (runV (As := [.int (nI ax), .int (bI true), .int v]) (rest := []) ⟨hx, hb, hml, hown, hts⟩ (m_X6_makeSteps l D kA m0 m1 m2 m3 m4 m5 z h tx pt kp st len th wo rd nu du hs ax true v v.toNatClampNeg (hI) (ha) ((okC_k hok c_24 c_22 c_25).1) ((okC_k hok c_24 c_22 c_25).2.1)) q_874 q_876 qp_29 q_7 q_877 hd_X6_makeSteps ⟨rfl, rfl⟩ ⟨Nat.le_of_ble_eq_true rfl, Nat.le_of_ble_eq_true rfl⟩ hK (ws := [(m0, .inr (6, [.ref m1, .int st, .ref m2, .int len, .ref m3, .int th, .int wo, .ref m4, .int rd, .int nu, .int du, .ref m5, .long hs])), (m1, .inl (kA 0, 148, .inl z)), (m2, .inl (kA 0, 888, .inl h)), (m3, .inl (kA 0, 60, .inl tx)), (m4, .inl (kA 0, 72, .inl pt)), (m5, .inl (kA 0, 148, .inl kp))]) (hP.sub [0, 1, 2, 3, 4, 5] rfl) (hD.sub [0, 1, 2, 3, 4, 5] (by decide) rfl) 0 (ci := 6) (C := RX6) (T := TX6) (N := 13) rfl rfl rfl hl.1 rfl (Nat.le_of_ble_eq_true rfl) dX6_carries_171 ⟨Nat.zero_le _, Nat.zero_le _⟩) hS (aw_sub hD (isC := [0, 1, 2, 3, 4, 5]) rfl) (fun H locs hP1 hk1 hS => ?_)
                        obtain ⟨hP, hD⟩ := jn (wr := []) (w1 := [(m0, .inr (6, [.ref m1, .int st, .ref m2, .int len, .ref m3, .int th, .int wo, .ref m4, .int rd, .int nu, .int du, .ref m5, .long hs])), (m1, .inl (kA 0, 148, .inl ((msL ax (wI true) v.toNatClampNeg z 0).2))), (m2, .inl (kA 0, 888, .inl h)), (m3, .inl (kA 0, 60, .inl tx)), (m4, .inl (kA 0, 72, .inl pt)), (m5, .inl (kA 0, 148, .inl kp))]) hP hD [0, 1, 2, 3, 4, 5] [] rfl rfl (by decide) hk1 hP1 rfl
                        have hP : va_P D vwCl [(m0, .inr (6, [.ref m1, .int st, .ref m2, .int len, .ref m3, .int th, .int wo, .ref m4, .int rd, .int nu, .int du, .ref m5, .long hs])), (m1, .inl (kA 0, 148, .inl ((msL ax (wI true) v.toNatClampNeg z 0).2))), (m2, .inl (kA 0, 888, .inl h)), (m3, .inl (kA 0, 60, .inl tx)), (m4, .inl (kA 0, 72, .inl pt)), (m5, .inl (kA 0, 148, .inl kp))] H := hP
                        have hD : va_D (Aw [(m0, .inr (6, [.ref m1, .int st, .ref m2, .int len, .ref m3, .int th, .int wo, .ref m4, .int rd, .int nu, .int du, .ref m5, .long hs])), (m1, .inl (kA 0, 148, .inl z)), (m2, .inl (kA 0, 888, .inl h)), (m3, .inl (kA 0, 60, .inl tx)), (m4, .inl (kA 0, 72, .inl pt)), (m5, .inl (kA 0, 148, .inl kp))]) [(m0, .inr (6, [.ref m1, .int st, .ref m2, .int len, .ref m3, .int th, .int wo, .ref m4, .int rd, .int nu, .int du, .ref m5, .long hs])), (m1, .inl (kA 0, 148, .inl ((msL ax (wI true) v.toNatClampNeg z 0).2))), (m2, .inl (kA 0, 888, .inl h)), (m3, .inl (kA 0, 60, .inl tx)), (m4, .inl (kA 0, 72, .inl pt)), (m5, .inl (kA 0, 148, .inl kp))] := hD
                        refine lv_istore (lv' := [(6, .int ((msL ax (wI true) v.toNatClampNeg z 0).1)), (5, .int 1), (4, .int v), (3, .int sg), (2, .int (nI ax)), (0, .ref m0), (1, .int p0)]) hx hb dX6_carries_174 hl (by decide) rfl (fun ls hl => ?_)
                        refine lv_iload hx hb dX6_carries_176 (lv_at hl 1 rfl) ?_
                        have hP : va_P D vwCl [(m0, .inr (6, [.ref m1, .int st, .ref m2, .int len, .ref m3, .int th, .int wo, .ref m4, .int rd, .int nu, .int du, .ref m5, .long hs])), (m1, .inl (kA 0, 148, .inl ((msL ax (wI true) v.toNatClampNeg z 0).2))), (m2, .inl (kA 0, 888, .inl h)), (m3, .inl (kA 0, 60, .inl tx)), (m4, .inl (kA 0, 72, .inl pt)), (m5, .inl (kA 0, 148, .inl kp))] _ := hP.sub [0, 1, 2, 3, 4, 5] rfl
                        exact end_fz hx hb hrt hlk (by decide) hP hS (by rw [hC, caF, if_neg c_24, if_neg c_22, if_neg c_25, if_pos c_26, if_pos c_18]; rfl) (fun hq => by rw [hC, caF, if_neg c_24, if_neg c_22, if_neg c_25, if_pos c_26, if_pos c_18]; exact hq) dX6_carries_178
                    · exact absurd c_25 c_7
                  · exact absurd c_24 c_1
              · exact absurd c_22 c_6
      · skip
        refine lv_aload_n hx hb dX6_carries_60 rfl (lv_at hl 3 rfl) ?_
        refine lv_iload_n hx hb dX6_carries_61 rfl (lv_at hl 2 rfl) ?_
        refine lv_iload hx hb dX6_carries_62 (lv_at hl 0 rfl) ?_
        refine cs_p (runV (As := [.int (nI ax), .int v]) (rest := []) ⟨hx, hb, hml, hown, hts⟩ (m_X6_canGo l D kA m0 m1 m2 m3 m4 m5 z h tx pt kp st len th wo rd nu du hs ax v v.toNatClampNeg (hI) (ha) ((okC_61 hok c_7).1) ((okC_61 hok c_7).2) (hwo)) q_900 q_902 qp_33 q_7 q_903 hd_X6_canGo ⟨rfl, rfl⟩ ⟨Nat.le_of_ble_eq_true rfl, Nat.le_of_ble_eq_true rfl⟩ hK (ws := [(m0, .inr (6, [.ref m1, .int st, .ref m2, .int len, .ref m3, .int th, .int wo, .ref m4, .int rd, .int nu, .int du, .ref m5, .long hs])), (m1, .inl (kA 0, 148, .inl z)), (m2, .inl (kA 0, 888, .inl h)), (m3, .inl (kA 0, 60, .inl tx)), (m4, .inl (kA 0, 72, .inl pt)), (m5, .inl (kA 0, 148, .inl kp))]) (hP.sub [0, 1, 2, 3, 4, 5] rfl) (hD.sub [0, 1, 2, 3, 4, 5] (by decide) rfl) 0 (ci := 6) (C := RX6) (T := TX6) (N := 13) rfl rfl rfl hl.1 rfl (Nat.le_of_ble_eq_true rfl) dX6_carries_64 ⟨Nat.zero_le _, Nat.zero_le _⟩) ?_
        refine lv_if_eq (tgt := 96) hx hb dX6_carries_67 (by decide) (fun c_27 => ?_) (fun c_27 => ?_)
        · skip
          replace c_27 := bI_0.mp c_27
          refine lv_iconst (v := 0) hx hb dX6_carries_96 (by decide) ?_
          refine lv_istore (lv' := [(5, .int 0), (4, .int v), (3, .int sg), (2, .int (nI ax)), (0, .ref m0), (1, .int p0)]) hx hb dX6_carries_97 hl (by decide) rfl (fun ls hl => ?_)
          refine lv_iconst (v := 0) hx hb dX6_carries_99 (by decide) ?_
          refine lv_istore (lv' := [(6, .int 0), (5, .int 0), (4, .int v), (3, .int sg), (2, .int (nI ax)), (0, .ref m0), (1, .int p0)]) hx hb dX6_carries_100 hl (by decide) rfl (fun ls hl => ?_)
          refine lv_iload hx hb dX6_carries_102 (lv_at hl 1 rfl) ?_
          refine lv_if_eq (tgt := 121) hx hb dX6_carries_104 (by decide) (fun c_28 => ?_) (fun c_28 => ?_)
          · skip
            refine lv_iload hx hb dX6_carries_121 (lv_at hl 1 rfl) ?_
            refine lv_if_eq (tgt := 176) hx hb dX6_carries_123 (by decide) (fun c_29 => ?_) (fun c_29 => ?_)
            · skip
              refine lv_iload hx hb dX6_carries_176 (lv_at hl 1 rfl) ?_
              have hP : va_P D vwCl [(m0, .inr (6, [.ref m1, .int st, .ref m2, .int len, .ref m3, .int th, .int wo, .ref m4, .int rd, .int nu, .int du, .ref m5, .long hs])), (m1, .inl (kA 0, 148, .inl z)), (m2, .inl (kA 0, 888, .inl h)), (m3, .inl (kA 0, 60, .inl tx)), (m4, .inl (kA 0, 72, .inl pt)), (m5, .inl (kA 0, 148, .inl kp))] _ := hP.sub [0, 1, 2, 3, 4, 5] rfl
              exact end_fz hx hb hrt hlk (by decide) hP hS (by rw [hC, caF, if_neg c_1, if_neg c_6, if_pos c_7, if_neg (by rw [c_27]; decide)]; rfl) (fun hq => by rw [hC, caF, if_neg c_1, if_neg c_6, if_pos c_7, if_neg (by rw [c_27]; decide)]; exact hq) dX6_carries_178
            · exact absurd c_29 (by decide)
          · exact absurd c_28 (by decide)
        · skip
          replace c_27 := bI_n0 c_27
          refine lv_goto (tgt := 92) hx hb dX6_carries_70 (by decide) ?_
          refine lv_iconst (v := 1) hx hb dX6_carries_92 (by decide) ?_
          refine lv_goto (tgt := 97) hx hb dX6_carries_93 (by decide) ?_
          refine lv_istore (lv' := [(5, .int 1), (4, .int v), (3, .int sg), (2, .int (nI ax)), (0, .ref m0), (1, .int p0)]) hx hb dX6_carries_97 hl (by decide) rfl (fun ls hl => ?_)
          refine lv_iconst (v := 0) hx hb dX6_carries_99 (by decide) ?_
          refine lv_istore (lv' := [(6, .int 0), (5, .int 1), (4, .int v), (3, .int sg), (2, .int (nI ax)), (0, .ref m0), (1, .int p0)]) hx hb dX6_carries_100 hl (by decide) rfl (fun ls hl => ?_)
          refine lv_iload hx hb dX6_carries_102 (lv_at hl 1 rfl) ?_
          refine lv_if_eq (tgt := 121) hx hb dX6_carries_104 (by decide) (fun c_30 => ?_) (fun c_30 => ?_)
          · exact absurd c_30 (by decide)
          · skip
            refine lv_iload_n hx hb dX6_carries_107 rfl (lv_at hl 3 rfl) ?_
            refine lv_bipush (v := 103) hx hb dX6_carries_108 (by decide) ?_
            refine lv_icmp_ne (tgt := 121) hx hb dX6_carries_110 (by decide) (fun c_31 => ?_) (fun c_31 => ?_)
            · skip
              refine lv_iload hx hb dX6_carries_121 (lv_at hl 1 rfl) ?_
              refine lv_if_eq (tgt := 176) hx hb dX6_carries_123 (by decide) (fun c_32 => ?_) (fun c_32 => ?_)
              · exact absurd c_32 (by decide)
              · skip
                refine lv_iload_n hx hb dX6_carries_126 rfl (lv_at hl 3 rfl) ?_
                refine lv_bipush (v := 104) hx hb dX6_carries_127 (by decide) ?_
                refine lv_icmp_ne (tgt := 140) hx hb dX6_carries_129 (by decide) (fun c_33 => ?_) (fun c_33 => ?_)
                · skip
                  refine lv_iload_n hx hb dX6_carries_140 rfl (lv_at hl 3 rfl) ?_
                  refine lv_bipush (v := 61) hx hb dX6_carries_141 (by decide) ?_
                  refine lv_icmp_ne (tgt := 156) hx hb dX6_carries_143 (by decide) (fun c_34 => ?_) (fun c_34 => ?_)
                  · exact absurd c_7 c_34
                  · skip
                    refine lv_aload_n hx hb dX6_carries_146 rfl (lv_at hl 5 rfl) ?_
                    refine lv_iload_n hx hb dX6_carries_147 rfl (lv_at hl 4 rfl) ?_
                    refine lv_iload hx hb dX6_carries_148 (lv_at hl 2 rfl) ?_
                    refine cs_fs (runV (As := [.int (nI ax), .int v]) (rest := []) ⟨hx, hb, hml, hown, hts⟩ (m_X6_goes l D kA m0 m1 m2 m3 m4 m5 z h tx pt kp st len th wo rd nu du hs ax v v.toNatClampNeg (hI) (ha) ((okC_61 hok c_34).1) ((okC_61 hok c_34).2) (hwo)) q_912 q_914 qp_36 q_7 q_915 hd_X6_goes ⟨rfl, rfl⟩ ⟨Nat.le_of_ble_eq_true rfl, Nat.le_of_ble_eq_true rfl⟩ hK (ws := [(m0, .inr (6, [.ref m1, .int st, .ref m2, .int len, .ref m3, .int th, .int wo, .ref m4, .int rd, .int nu, .int du, .ref m5, .long hs])), (m1, .inl (kA 0, 148, .inl z)), (m2, .inl (kA 0, 888, .inl h)), (m3, .inl (kA 0, 60, .inl tx)), (m4, .inl (kA 0, 72, .inl pt)), (m5, .inl (kA 0, 148, .inl kp))]) (hP.sub [0, 1, 2, 3, 4, 5] rfl) (hD.sub [0, 1, 2, 3, 4, 5] (by decide) rfl) 0 (ci := 6) (C := RX6) (T := TX6) (N := 13) rfl rfl rfl hl.1 rfl (Nat.le_of_ble_eq_true rfl) dX6_carries_150 ⟨Nat.zero_le _, Nat.zero_le _⟩) hS (aw_sub hD (isC := [0, 1, 2, 3, 4, 5]) rfl) (fun H locs hP1 hk1 hS => ?_)
                    obtain ⟨hP, hD⟩ := jn (wr := []) (w1 := [(m0, .inr (6, [.ref m1, .int st, .ref m2, .int len, .ref m3, .int th, .int wo, .ref m4, .int rd, .int nu, .int du, .ref m5, .long hs])), (m1, .inl (kA 0, 148, .inl ((gtF z ax v).2))), (m2, .inl (kA 0, 888, .inl h)), (m3, .inl (kA 0, 60, .inl tx)), (m4, .inl (kA 0, 72, .inl pt)), (m5, .inl (kA 0, 148, .inl kp))]) hP hD [0, 1, 2, 3, 4, 5] [] rfl rfl (by decide) hk1 hP1 rfl
                    have hP : va_P D vwCl [(m0, .inr (6, [.ref m1, .int st, .ref m2, .int len, .ref m3, .int th, .int wo, .ref m4, .int rd, .int nu, .int du, .ref m5, .long hs])), (m1, .inl (kA 0, 148, .inl ((gtF z ax v).2))), (m2, .inl (kA 0, 888, .inl h)), (m3, .inl (kA 0, 60, .inl tx)), (m4, .inl (kA 0, 72, .inl pt)), (m5, .inl (kA 0, 148, .inl kp))] H := hP
                    have hD : va_D (Aw [(m0, .inr (6, [.ref m1, .int st, .ref m2, .int len, .ref m3, .int th, .int wo, .ref m4, .int rd, .int nu, .int du, .ref m5, .long hs])), (m1, .inl (kA 0, 148, .inl z)), (m2, .inl (kA 0, 888, .inl h)), (m3, .inl (kA 0, 60, .inl tx)), (m4, .inl (kA 0, 72, .inl pt)), (m5, .inl (kA 0, 148, .inl kp))]) [(m0, .inr (6, [.ref m1, .int st, .ref m2, .int len, .ref m3, .int th, .int wo, .ref m4, .int rd, .int nu, .int du, .ref m5, .long hs])), (m1, .inl (kA 0, 148, .inl ((gtF z ax v).2))), (m2, .inl (kA 0, 888, .inl h)), (m3, .inl (kA 0, 60, .inl tx)), (m4, .inl (kA 0, 72, .inl pt)), (m5, .inl (kA 0, 148, .inl kp))] := hD
                    refine lv_goto (tgt := 174) hx hb dX6_carries_153 (by decide) ?_
                    refine lv_istore (lv' := [(6, .int ((gtF z ax v).1)), (5, .int 1), (4, .int v), (3, .int sg), (2, .int (nI ax)), (0, .ref m0), (1, .int p0)]) hx hb dX6_carries_174 hl (by decide) rfl (fun ls hl => ?_)
                    refine lv_iload hx hb dX6_carries_176 (lv_at hl 1 rfl) ?_
                    have hP : va_P D vwCl [(m0, .inr (6, [.ref m1, .int st, .ref m2, .int len, .ref m3, .int th, .int wo, .ref m4, .int rd, .int nu, .int du, .ref m5, .long hs])), (m1, .inl (kA 0, 148, .inl ((gtF z ax v).2))), (m2, .inl (kA 0, 888, .inl h)), (m3, .inl (kA 0, 60, .inl tx)), (m4, .inl (kA 0, 72, .inl pt)), (m5, .inl (kA 0, 148, .inl kp))] _ := hP.sub [0, 1, 2, 3, 4, 5] rfl
                    exact end_fz hx hb hrt hlk (by decide) hP hS (by rw [hC, caF, if_neg c_33, if_neg c_31, if_pos c_34, if_pos c_27]; rfl) (fun hq => by rw [hC, caF, if_neg c_33, if_neg c_31, if_pos c_34, if_pos c_27]; exact hq) dX6_carries_178
                · exact absurd c_33 c_1
            · exact absurd c_31 c_6
    · skip
      refine lv_aload_n hx hb dX6_carries_44 rfl (lv_at hl 3 rfl) ?_
      refine cs_p (runV (As := []) (rest := []) ⟨hx, hb, hml, hown, hts⟩ (m_X6_canGrease l D kA m0 m1 m2 m3 m4 m5 z h tx pt kp st len th wo rd nu du hs ) q_928 q_930 qp_38 q_7 q_931 hd_X6_canGrease ⟨rfl, rfl⟩ ⟨Nat.le_of_ble_eq_true rfl, Nat.le_of_ble_eq_true rfl⟩ hK (ws := [(m0, .inr (6, [.ref m1, .int st, .ref m2, .int len, .ref m3, .int th, .int wo, .ref m4, .int rd, .int nu, .int du, .ref m5, .long hs])), (m1, .inl (kA 0, 148, .inl z)), (m2, .inl (kA 0, 888, .inl h)), (m3, .inl (kA 0, 60, .inl tx)), (m4, .inl (kA 0, 72, .inl pt)), (m5, .inl (kA 0, 148, .inl kp))]) (hP.sub [0, 1, 2, 3, 4, 5] rfl) (hD.sub [0, 1, 2, 3, 4, 5] (by decide) rfl) 0 (ci := 6) (C := RX6) (T := TX6) (N := 13) rfl rfl rfl hl.1 rfl (Nat.le_of_ble_eq_true rfl) dX6_carries_45 ⟨Nat.zero_le _, Nat.zero_le _⟩) ?_
      refine lv_if_eq (tgt := 96) hx hb dX6_carries_48 (by decide) (fun c_35 => ?_) (fun c_35 => ?_)
      · skip
        replace c_35 := bI_0.mp c_35
        refine lv_iconst (v := 0) hx hb dX6_carries_96 (by decide) ?_
        refine lv_istore (lv' := [(5, .int 0), (4, .int v), (3, .int sg), (2, .int (nI ax)), (0, .ref m0), (1, .int p0)]) hx hb dX6_carries_97 hl (by decide) rfl (fun ls hl => ?_)
        refine lv_iconst (v := 0) hx hb dX6_carries_99 (by decide) ?_
        refine lv_istore (lv' := [(6, .int 0), (5, .int 0), (4, .int v), (3, .int sg), (2, .int (nI ax)), (0, .ref m0), (1, .int p0)]) hx hb dX6_carries_100 hl (by decide) rfl (fun ls hl => ?_)
        refine lv_iload hx hb dX6_carries_102 (lv_at hl 1 rfl) ?_
        refine lv_if_eq (tgt := 121) hx hb dX6_carries_104 (by decide) (fun c_36 => ?_) (fun c_36 => ?_)
        · skip
          refine lv_iload hx hb dX6_carries_121 (lv_at hl 1 rfl) ?_
          refine lv_if_eq (tgt := 176) hx hb dX6_carries_123 (by decide) (fun c_37 => ?_) (fun c_37 => ?_)
          · skip
            refine lv_iload hx hb dX6_carries_176 (lv_at hl 1 rfl) ?_
            have hP : va_P D vwCl [(m0, .inr (6, [.ref m1, .int st, .ref m2, .int len, .ref m3, .int th, .int wo, .ref m4, .int rd, .int nu, .int du, .ref m5, .long hs])), (m1, .inl (kA 0, 148, .inl z)), (m2, .inl (kA 0, 888, .inl h)), (m3, .inl (kA 0, 60, .inl tx)), (m4, .inl (kA 0, 72, .inl pt)), (m5, .inl (kA 0, 148, .inl kp))] _ := hP.sub [0, 1, 2, 3, 4, 5] rfl
            exact end_fz hx hb hrt hlk (by decide) hP hS (by rw [hC, caF, if_neg c_1, if_pos c_6, if_neg (by rw [c_35]; decide)]; rfl) (fun hq => by rw [hC, caF, if_neg c_1, if_pos c_6, if_neg (by rw [c_35]; decide)]; exact hq) dX6_carries_178
          · exact absurd c_37 (by decide)
        · exact absurd c_36 (by decide)
      · skip
        replace c_35 := bI_n0 c_35
        refine lv_goto (tgt := 92) hx hb dX6_carries_51 (by decide) ?_
        refine lv_iconst (v := 1) hx hb dX6_carries_92 (by decide) ?_
        refine lv_goto (tgt := 97) hx hb dX6_carries_93 (by decide) ?_
        refine lv_istore (lv' := [(5, .int 1), (4, .int v), (3, .int sg), (2, .int (nI ax)), (0, .ref m0), (1, .int p0)]) hx hb dX6_carries_97 hl (by decide) rfl (fun ls hl => ?_)
        refine lv_iconst (v := 0) hx hb dX6_carries_99 (by decide) ?_
        refine lv_istore (lv' := [(6, .int 0), (5, .int 1), (4, .int v), (3, .int sg), (2, .int (nI ax)), (0, .ref m0), (1, .int p0)]) hx hb dX6_carries_100 hl (by decide) rfl (fun ls hl => ?_)
        refine lv_iload hx hb dX6_carries_102 (lv_at hl 1 rfl) ?_
        refine lv_if_eq (tgt := 121) hx hb dX6_carries_104 (by decide) (fun c_38 => ?_) (fun c_38 => ?_)
        · exact absurd c_38 (by decide)
        · skip
          refine lv_iload_n hx hb dX6_carries_107 rfl (lv_at hl 3 rfl) ?_
          refine lv_bipush (v := 103) hx hb dX6_carries_108 (by decide) ?_
          refine lv_icmp_ne (tgt := 121) hx hb dX6_carries_110 (by decide) (fun c_39 => ?_) (fun c_39 => ?_)
          · exact absurd c_6 c_39
          · skip
            refine lv_aload_n hx hb dX6_carries_113 rfl (lv_at hl 5 rfl) ?_
            refine lv_iload_n hx hb dX6_carries_114 rfl (lv_at hl 4 rfl) ?_
            refine cs_fn (runV (As := [.int (nI ax)]) (rest := []) ⟨hx, hb, hml, hown, hts⟩ (m_X6_greases l D kA m0 m1 m2 m3 m4 m5 z h tx pt kp st len th wo rd nu du hs ax (ha)) q_932 q_934 qp_39 q_7 q_935 hd_X6_greases ⟨rfl, rfl⟩ ⟨Nat.le_of_ble_eq_true rfl, Nat.le_of_ble_eq_true rfl⟩ hK (ws := [(m0, .inr (6, [.ref m1, .int st, .ref m2, .int len, .ref m3, .int th, .int wo, .ref m4, .int rd, .int nu, .int du, .ref m5, .long hs])), (m1, .inl (kA 0, 148, .inl z)), (m2, .inl (kA 0, 888, .inl h)), (m3, .inl (kA 0, 60, .inl tx)), (m4, .inl (kA 0, 72, .inl pt)), (m5, .inl (kA 0, 148, .inl kp))]) (hP.sub [0, 1, 2, 3, 4, 5] rfl) (hD.sub [0, 1, 2, 3, 4, 5] (by decide) rfl) 0 (ci := 6) (C := RX6) (T := TX6) (N := 13) rfl rfl rfl hl.1 rfl (Nat.le_of_ble_eq_true rfl) dX6_carries_115 ⟨Nat.zero_le _, Nat.zero_le _⟩) hS (aw_sub hD (isC := [0, 1, 2, 3, 4, 5]) rfl) (fun H locs hP1 hk1 hS => ?_)
            obtain ⟨hP, hD⟩ := jn (wr := []) (w1 := [(m0, .inr (6, [.ref m1, .int st, .ref m2, .int len, .ref m3, .int th, .int wo, .ref m4, .int rd, .int nu, .int du, .ref m5, .long hs])), (m1, .inl (kA 0, 148, .inl (grZ z ax))), (m2, .inl (kA 0, 888, .inl h)), (m3, .inl (kA 0, 60, .inl tx)), (m4, .inl (kA 0, 72, .inl pt)), (m5, .inl (kA 0, 148, .inl kp))]) hP hD [0, 1, 2, 3, 4, 5] [] rfl rfl (by decide) hk1 hP1 rfl
            have hP : va_P D vwCl [(m0, .inr (6, [.ref m1, .int st, .ref m2, .int len, .ref m3, .int th, .int wo, .ref m4, .int rd, .int nu, .int du, .ref m5, .long hs])), (m1, .inl (kA 0, 148, .inl (grZ z ax))), (m2, .inl (kA 0, 888, .inl h)), (m3, .inl (kA 0, 60, .inl tx)), (m4, .inl (kA 0, 72, .inl pt)), (m5, .inl (kA 0, 148, .inl kp))] H := hP
            have hD : va_D (Aw [(m0, .inr (6, [.ref m1, .int st, .ref m2, .int len, .ref m3, .int th, .int wo, .ref m4, .int rd, .int nu, .int du, .ref m5, .long hs])), (m1, .inl (kA 0, 148, .inl z)), (m2, .inl (kA 0, 888, .inl h)), (m3, .inl (kA 0, 60, .inl tx)), (m4, .inl (kA 0, 72, .inl pt)), (m5, .inl (kA 0, 148, .inl kp))]) [(m0, .inr (6, [.ref m1, .int st, .ref m2, .int len, .ref m3, .int th, .int wo, .ref m4, .int rd, .int nu, .int du, .ref m5, .long hs])), (m1, .inl (kA 0, 148, .inl (grZ z ax))), (m2, .inl (kA 0, 888, .inl h)), (m3, .inl (kA 0, 60, .inl tx)), (m4, .inl (kA 0, 72, .inl pt)), (m5, .inl (kA 0, 148, .inl kp))] := hD
            refine lv_goto (tgt := 176) hx hb dX6_carries_118 (by decide) ?_
            refine lv_iload hx hb dX6_carries_176 (lv_at hl 1 rfl) ?_
            have hP : va_P D vwCl [(m0, .inr (6, [.ref m1, .int st, .ref m2, .int len, .ref m3, .int th, .int wo, .ref m4, .int rd, .int nu, .int du, .ref m5, .long hs])), (m1, .inl (kA 0, 148, .inl (grZ z ax))), (m2, .inl (kA 0, 888, .inl h)), (m3, .inl (kA 0, 60, .inl tx)), (m4, .inl (kA 0, 72, .inl pt)), (m5, .inl (kA 0, 148, .inl kp))] _ := hP.sub [0, 1, 2, 3, 4, 5] rfl
            exact end_fz hx hb hrt hlk (by decide) hP hS (by rw [hC, caF, if_neg c_1, if_pos c_39, if_pos c_35]; rfl) (fun hq => by rw [hC, caF, if_neg c_1, if_pos c_39, if_pos c_35]; exact hq) dX6_carries_178

theorem hd_X6_run : yX6_run.cls ≠ "java/lang/invoke/MethodHandle" ∧ yX6_run.cls ≠ "java/lang/invoke/VarHandle" ∧ (parseMethodDescriptor yX6_run.desc).map (fun d => d.parameters.length) = some 0 := by decide +kernel
set_option maxRecDepth 100000 in
set_option maxHeartbeats 4000000 in
theorem m_X6_run (l : Launch) (D : va_G) (kA : Nat → Nat) (m0 : Nat) (m1 : Nat) (m2 : Nat) (m3 : Nat) (m4 : Nat) (m5 : Nat) (z : Nat → Int32) (h : Nat → Int32) (tx : Nat → Int32) (pt : Nat → Int32) (kp : Nat → Int32) (st : Int32) (len : Int32) (th : Int32) (wo : Int32) (rd : Int32) (nu : Int32) (du : Int32) (hs : Int64) (w : Nat) (n0 : Nat) (hst : st = nI w) (hw : w ≤ 6) (hlen : len = nI n0) (hn0 : n0 ≤ 60) (hI : Inv z) (hwo : wo = -1) : Met l yX6_run (Cond.code yX6_run cX6_run 3 (some .int) :: AW) ({ frames := 6, cells := 0, slots := 0, locals := 146 } : Room) (Pz [.ref m0] D (TY kA) [(m0, .inr (6, [.ref m1, .int st, .ref m2, .int len, .ref m3, .int th, .int wo, .ref m4, .int rd, .int nu, .int du, .ref m5, .long hs])), (m1, .inl (kA 0, 148, .inl z)), (m2, .inl (kA 0, 888, .inl h)), (m3, .inl (kA 0, 60, .inl tx)), (m4, .inl (kA 0, 72, .inl pt)), (m5, .inl (kA 0, 148, .inl kp))]) (fQ (some (.int (if ruT len tx n0 pt = 0 then nI (cyL (upd (rtL tx n0 0 (pt, 0, -1, 0)).2.1 (3 * (rtL tx n0 0 (pt, 0, -1, 0)).2.2.1 + 2) (rtL tx n0 0 (pt, 0, -1, 0)).2.2.2.1) ((rtL tx n0 0 (pt, 0, -1, 0)).2.2.1 + 1) 0 z).1 else 0))) D [(m0, .inr (6, [.ref m1, .int st, .ref m2, .int len, .ref m3, .int th, .int wo, .ref m4, .int rd, .int nu, .int du, .ref m5, .long hs])), (m1, .inl (kA 0, 148, .inl z)), (m2, .inl (kA 0, 888, .inl h)), (m3, .inl (kA 0, 60, .inl tx)), (m4, .inl (kA 0, 72, .inl pt)), (m5, .inl (kA 0, 148, .inl kp))] [(m0, .inr (6, [.ref m1, .int (nI (if ruT len tx n0 pt = 0 then svN w else w)), .ref m2, .int (if ruT len tx n0 pt = 0 then 0 else len), .ref m3, .int (ruT len tx n0 pt), .int wo, .ref m4, .int (nI (if ruT len tx n0 pt = 0 then (rtL tx n0 0 (pt, 0, -1, 0)).2.2.1 + 1 else (rtL tx n0 0 (pt, 0, -1, 0)).2.2.1)), .int (if ruT len tx n0 pt = 0 then -1 else (rtL tx n0 0 (pt, 0, -1, 0)).2.2.2.1), .int (if ruT len tx n0 pt = 0 then 0 else (rtL tx n0 0 (pt, 0, -1, 0)).2.2.2.2), .ref m5, .long hs])), (m1, .inl (kA 0, 148, .inl (if ruT len tx n0 pt = 0 then (cyL (upd (rtL tx n0 0 (pt, 0, -1, 0)).2.1 (3 * (rtL tx n0 0 (pt, 0, -1, 0)).2.2.1 + 2) (rtL tx n0 0 (pt, 0, -1, 0)).2.2.2.1) ((rtL tx n0 0 (pt, 0, -1, 0)).2.2.1 + 1) 0 z).2 else z))), (m2, .inl (kA 0, 888, .inl (if ruT len tx n0 pt = 0 then svH h z w else h))), (m3, .inl (kA 0, 60, .inl tx)), (m4, .inl (kA 0, 72, .inl (if ruT len tx n0 pt = 0 then (upd (rtL tx n0 0 (pt, 0, -1, 0)).2.1 (3 * (rtL tx n0 0 (pt, 0, -1, 0)).2.2.1 + 2) (rtL tx n0 0 (pt, 0, -1, 0)).2.2.2.1) else (rtL tx n0 0 (pt, 0, -1, 0)).2.1))), (m5, .inl (kA 0, 148, .inl kp))]) 0 0 (Aw [(m0, .inr (6, [.ref m1, .int st, .ref m2, .int len, .ref m3, .int th, .int wo, .ref m4, .int rd, .int nu, .int du, .ref m5, .long hs])), (m1, .inl (kA 0, 148, .inl z)), (m2, .inl (kA 0, 888, .inl h)), (m3, .inl (kA 0, 60, .inl tx)), (m4, .inl (kA 0, 72, .inl pt)), (m5, .inl (kA 0, 148, .inl kp))]) := by
  refine MetZ (by decide +kernel) (Nat.le_of_ble_eq_true rfl) ?_
  intro p e s m below meth c ls hx hb hrt hts hown hml hlk hnm hP hK hD hS hl
  have hl : lv_has ls 3 [(0, .ref m0)] := hl
  refine lv_aload_n hx hb dX6_run_0 rfl (lv_at hl 0 rfl) ?_
  refine cs_fs (runV (As := []) (rest := []) ⟨hx, hb, hml, hown, hts⟩ (m_X6_rightUpTo l D kA m0 m1 m2 m3 m4 m5 z h tx pt kp st len th wo rd nu du hs n0 (hlen) (hn0)) q_956 q_958 qp_41 q_7 q_959 hd_X6_rightUpTo ⟨rfl, rfl⟩ ⟨Nat.le_of_ble_eq_true rfl, Nat.le_of_ble_eq_true rfl⟩ hK (ws := [(m0, .inr (6, [.ref m1, .int st, .ref m2, .int len, .ref m3, .int th, .int wo, .ref m4, .int rd, .int nu, .int du, .ref m5, .long hs])), (m1, .inl (kA 0, 148, .inl z)), (m2, .inl (kA 0, 888, .inl h)), (m3, .inl (kA 0, 60, .inl tx)), (m4, .inl (kA 0, 72, .inl pt)), (m5, .inl (kA 0, 148, .inl kp))]) (hP.sub [0, 1, 2, 3, 4, 5] rfl) (hD.sub [0, 1, 2, 3, 4, 5] (by decide) rfl) 0 (ci := 6) (C := RX6) (T := TX6) (N := 13) rfl rfl rfl hl.1 rfl (Nat.le_of_ble_eq_true rfl) dX6_run_1 ⟨Nat.zero_le _, Nat.zero_le _⟩) hS (aw_sub hD (isC := [0, 1, 2, 3, 4, 5]) rfl) (fun H locs hP1 hk1 hS => ?_)
  obtain ⟨hP, hD⟩ := jn (wr := []) (w1 := [(m0, .inr (6, [.ref m1, .int st, .ref m2, .int len, .ref m3, .int th, .int wo, .ref m4, .int (nI (rtL tx n0 0 (pt, 0, -1, 0)).2.2.1), .int ((rtL tx n0 0 (pt, 0, -1, 0)).2.2.2.1), .int ((rtL tx n0 0 (pt, 0, -1, 0)).2.2.2.2), .ref m5, .long hs])), (m1, .inl (kA 0, 148, .inl z)), (m2, .inl (kA 0, 888, .inl h)), (m3, .inl (kA 0, 60, .inl tx)), (m4, .inl (kA 0, 72, .inl ((rtL tx n0 0 (pt, 0, -1, 0)).2.1))), (m5, .inl (kA 0, 148, .inl kp))]) hP hD [0, 1, 2, 3, 4, 5] [] rfl rfl (by decide) hk1 hP1 rfl
  have hP : va_P D vwCl [(m0, .inr (6, [.ref m1, .int st, .ref m2, .int len, .ref m3, .int th, .int wo, .ref m4, .int (nI (rtL tx n0 0 (pt, 0, -1, 0)).2.2.1), .int ((rtL tx n0 0 (pt, 0, -1, 0)).2.2.2.1), .int ((rtL tx n0 0 (pt, 0, -1, 0)).2.2.2.2), .ref m5, .long hs])), (m1, .inl (kA 0, 148, .inl z)), (m2, .inl (kA 0, 888, .inl h)), (m3, .inl (kA 0, 60, .inl tx)), (m4, .inl (kA 0, 72, .inl ((rtL tx n0 0 (pt, 0, -1, 0)).2.1))), (m5, .inl (kA 0, 148, .inl kp))] H := hP
  have hD : va_D (Aw [(m0, .inr (6, [.ref m1, .int st, .ref m2, .int len, .ref m3, .int th, .int wo, .ref m4, .int rd, .int nu, .int du, .ref m5, .long hs])), (m1, .inl (kA 0, 148, .inl z)), (m2, .inl (kA 0, 888, .inl h)), (m3, .inl (kA 0, 60, .inl tx)), (m4, .inl (kA 0, 72, .inl pt)), (m5, .inl (kA 0, 148, .inl kp))]) [(m0, .inr (6, [.ref m1, .int st, .ref m2, .int len, .ref m3, .int th, .int wo, .ref m4, .int (nI (rtL tx n0 0 (pt, 0, -1, 0)).2.2.1), .int ((rtL tx n0 0 (pt, 0, -1, 0)).2.2.2.1), .int ((rtL tx n0 0 (pt, 0, -1, 0)).2.2.2.2), .ref m5, .long hs])), (m1, .inl (kA 0, 148, .inl z)), (m2, .inl (kA 0, 888, .inl h)), (m3, .inl (kA 0, 60, .inl tx)), (m4, .inl (kA 0, 72, .inl ((rtL tx n0 0 (pt, 0, -1, 0)).2.1))), (m5, .inl (kA 0, 148, .inl kp))] := hD
  refine lv_aload_n hx hb dX6_run_4 rfl (lv_at hl 0 rfl) ?_
  refine va_get (ci := 6) (v := .int len) (C := RX6) (T := TX6) (N := 13) hx hb hts inX6 hown hK hP 0 rfl rfl 3 (by decide) (hts _ q_773) (fun _ h9 => h9) rfl dX6_run_5 ?_
  refine lv_icmp_ne (tgt := 22) hx hb dX6_run_8 (by decide) (fun c_1 => ?_) (fun c_1 => ?_)
  · skip
    refine lv_iconst (v := 0) hx hb dX6_run_22 (by decide) ?_
    refine lv_istore_n (lv' := [(1, .int 0), (0, .ref m0)]) hx hb dX6_run_23 rfl hl (by decide) rfl (fun ls hl => ?_)
    refine lv_aload_n hx hb dX6_run_24 rfl (lv_at hl 1 rfl) ?_
    refine lv_iload_n hx hb dX6_run_25 rfl (lv_at hl 0 rfl) ?_
    refine lv_if_eq (tgt := 33) hx hb dX6_run_26 (by decide) (fun c_2 => ?_) (fun c_2 => ?_)
    · skip
      refine lv_iconst (v := 1) hx hb dX6_run_33 (by decide) ?_
      refine va_put (ci := 6) (v := .int 1) (ty := tyX6 5) (C := RX6) (T := TX6) (N := 13) hx hb hts inX6 tyX6 tyX6_ok nmX6 hown hK hP hD hS 0 rfl rfl 5 (by decide) (hts _ q_775) (fun _ h9 => h9) rfl (tyX6_ok 5 (by decide)) rfl rfl (Nat.le_of_ble_eq_true rfl) dX6_run_34 (fun H locs hP hD hS => ?_)
      have hP : va_P D vwCl [(m0, .inr (6, [.ref m1, .int st, .ref m2, .int len, .ref m3, .int 1, .int wo, .ref m4, .int (nI (rtL tx n0 0 (pt, 0, -1, 0)).2.2.1), .int ((rtL tx n0 0 (pt, 0, -1, 0)).2.2.2.1), .int ((rtL tx n0 0 (pt, 0, -1, 0)).2.2.2.2), .ref m5, .long hs])), (m1, .inl (kA 0, 148, .inl z)), (m2, .inl (kA 0, 888, .inl h)), (m3, .inl (kA 0, 60, .inl tx)), (m4, .inl (kA 0, 72, .inl ((rtL tx n0 0 (pt, 0, -1, 0)).2.1))), (m5, .inl (kA 0, 148, .inl kp))] H := hP
      have hD : va_D (Aw [(m0, .inr (6, [.ref m1, .int st, .ref m2, .int len, .ref m3, .int th, .int wo, .ref m4, .int rd, .int nu, .int du, .ref m5, .long hs])), (m1, .inl (kA 0, 148, .inl z)), (m2, .inl (kA 0, 888, .inl h)), (m3, .inl (kA 0, 60, .inl tx)), (m4, .inl (kA 0, 72, .inl pt)), (m5, .inl (kA 0, 148, .inl kp))]) [(m0, .inr (6, [.ref m1, .int st, .ref m2, .int len, .ref m3, .int 1, .int wo, .ref m4, .int (nI (rtL tx n0 0 (pt, 0, -1, 0)).2.2.1), .int ((rtL tx n0 0 (pt, 0, -1, 0)).2.2.2.1), .int ((rtL tx n0 0 (pt, 0, -1, 0)).2.2.2.2), .ref m5, .long hs])), (m1, .inl (kA 0, 148, .inl z)), (m2, .inl (kA 0, 888, .inl h)), (m3, .inl (kA 0, 60, .inl tx)), (m4, .inl (kA 0, 72, .inl ((rtL tx n0 0 (pt, 0, -1, 0)).2.1))), (m5, .inl (kA 0, 148, .inl kp))] := hD
      refine lv_aload_n hx hb dX6_run_37 rfl (lv_at hl 1 rfl) ?_
      refine va_get (ci := 6) (v := .int 1) (C := RX6) (T := TX6) (N := 13) hx hb hts inX6 hown hK hP 0 rfl rfl 5 (by decide) (hts _ q_775) (fun _ h9 => h9) rfl dX6_run_38 ?_
      refine lv_if_le (tgt := 46) hx hb dX6_run_41 (by decide) (fun c_3 => ?_) (fun c_3 => ?_)
      · exact absurd c_3 (by decide)
      · skip
        replace c_3 := nge_l c_3
        refine lv_iconst (v := 0) hx hb dX6_run_44 (by decide) ?_
        have hP : va_P D vwCl [(m0, .inr (6, [.ref m1, .int st, .ref m2, .int len, .ref m3, .int 1, .int wo, .ref m4, .int (nI (rtL tx n0 0 (pt, 0, -1, 0)).2.2.1), .int ((rtL tx n0 0 (pt, 0, -1, 0)).2.2.2.1), .int ((rtL tx n0 0 (pt, 0, -1, 0)).2.2.2.2), .ref m5, .long hs])), (m1, .inl (kA 0, 148, .inl z)), (m2, .inl (kA 0, 888, .inl h)), (m3, .inl (kA 0, 60, .inl tx)), (m4, .inl (kA 0, 72, .inl ((rtL tx n0 0 (pt, 0, -1, 0)).2.1))), (m5, .inl (kA 0, 148, .inl kp))] _ := hP.sub [0, 1, 2, 3, 4, 5] rfl
        exact end_fi hx hb hrt hlk hP hS (by have hT : ruT len tx n0 pt = 1 := (by rw [ruT, if_neg c_1]); rw [if_neg (n0_of hT (by decide))]) (fun hq => by have hT : ruT len tx n0 pt = 1 := (by rw [ruT, if_neg c_1]); have hN := n0_of hT (by decide); simp only [if_neg hN]; rw [hT, ← hst]; exact hq) dX6_run_45
    · exact absurd c_2 (by decide)
  · skip
    refine lv_aload_n hx hb dX6_run_11 rfl (lv_at hl 0 rfl) ?_
    refine cs_p (runV (As := []) (rest := []) ⟨hx, hb, hml, hown, hts⟩ (m_X6_isEnded l D kA m0 m1 m2 m3 m4 m5 z h tx ((rtL tx n0 0 (pt, 0, -1, 0)).2.1) kp st len th wo (nI (rtL tx n0 0 (pt, 0, -1, 0)).2.2.1) ((rtL tx n0 0 (pt, 0, -1, 0)).2.2.2.1) ((rtL tx n0 0 (pt, 0, -1, 0)).2.2.2.2) hs ) q_968 q_970 qp_44 q_7 q_971 hd_X6_isEnded ⟨rfl, rfl⟩ ⟨Nat.le_of_ble_eq_true rfl, Nat.le_of_ble_eq_true rfl⟩ hK (ws := [(m0, .inr (6, [.ref m1, .int st, .ref m2, .int len, .ref m3, .int th, .int wo, .ref m4, .int (nI (rtL tx n0 0 (pt, 0, -1, 0)).2.2.1), .int ((rtL tx n0 0 (pt, 0, -1, 0)).2.2.2.1), .int ((rtL tx n0 0 (pt, 0, -1, 0)).2.2.2.2), .ref m5, .long hs])), (m1, .inl (kA 0, 148, .inl z)), (m2, .inl (kA 0, 888, .inl h)), (m3, .inl (kA 0, 60, .inl tx)), (m4, .inl (kA 0, 72, .inl ((rtL tx n0 0 (pt, 0, -1, 0)).2.1))), (m5, .inl (kA 0, 148, .inl kp))]) (hP.sub [0, 1, 2, 3, 4, 5] rfl) (hD.sub [0, 1, 2, 3, 4, 5] (by decide) rfl) 0 (ci := 6) (C := RX6) (T := TX6) (N := 13) rfl rfl rfl hl.1 rfl (Nat.le_of_ble_eq_true rfl) dX6_run_12 ⟨Nat.zero_le _, Nat.zero_le _⟩) ?_
    refine lv_if_eq (tgt := 22) hx hb dX6_run_15 (by decide) (fun c_4 => ?_) (fun c_4 => ?_)
    · skip
      replace c_4 := bI_0.mp c_4
      refine lv_iconst (v := 0) hx hb dX6_run_22 (by decide) ?_
      refine lv_istore_n (lv' := [(1, .int 0), (0, .ref m0)]) hx hb dX6_run_23 rfl hl (by decide) rfl (fun ls hl => ?_)
      refine lv_aload_n hx hb dX6_run_24 rfl (lv_at hl 1 rfl) ?_
      refine lv_iload_n hx hb dX6_run_25 rfl (lv_at hl 0 rfl) ?_
      refine lv_if_eq (tgt := 33) hx hb dX6_run_26 (by decide) (fun c_5 => ?_) (fun c_5 => ?_)
      · skip
        refine lv_iconst (v := 1) hx hb dX6_run_33 (by decide) ?_
        refine va_put (ci := 6) (v := .int 1) (ty := tyX6 5) (C := RX6) (T := TX6) (N := 13) hx hb hts inX6 tyX6 tyX6_ok nmX6 hown hK hP hD hS 0 rfl rfl 5 (by decide) (hts _ q_775) (fun _ h9 => h9) rfl (tyX6_ok 5 (by decide)) rfl rfl (Nat.le_of_ble_eq_true rfl) dX6_run_34 (fun H locs hP hD hS => ?_)
        have hP : va_P D vwCl [(m0, .inr (6, [.ref m1, .int st, .ref m2, .int len, .ref m3, .int 1, .int wo, .ref m4, .int (nI (rtL tx n0 0 (pt, 0, -1, 0)).2.2.1), .int ((rtL tx n0 0 (pt, 0, -1, 0)).2.2.2.1), .int ((rtL tx n0 0 (pt, 0, -1, 0)).2.2.2.2), .ref m5, .long hs])), (m1, .inl (kA 0, 148, .inl z)), (m2, .inl (kA 0, 888, .inl h)), (m3, .inl (kA 0, 60, .inl tx)), (m4, .inl (kA 0, 72, .inl ((rtL tx n0 0 (pt, 0, -1, 0)).2.1))), (m5, .inl (kA 0, 148, .inl kp))] H := hP
        have hD : va_D (Aw [(m0, .inr (6, [.ref m1, .int st, .ref m2, .int len, .ref m3, .int th, .int wo, .ref m4, .int rd, .int nu, .int du, .ref m5, .long hs])), (m1, .inl (kA 0, 148, .inl z)), (m2, .inl (kA 0, 888, .inl h)), (m3, .inl (kA 0, 60, .inl tx)), (m4, .inl (kA 0, 72, .inl pt)), (m5, .inl (kA 0, 148, .inl kp))]) [(m0, .inr (6, [.ref m1, .int st, .ref m2, .int len, .ref m3, .int 1, .int wo, .ref m4, .int (nI (rtL tx n0 0 (pt, 0, -1, 0)).2.2.1), .int ((rtL tx n0 0 (pt, 0, -1, 0)).2.2.2.1), .int ((rtL tx n0 0 (pt, 0, -1, 0)).2.2.2.2), .ref m5, .long hs])), (m1, .inl (kA 0, 148, .inl z)), (m2, .inl (kA 0, 888, .inl h)), (m3, .inl (kA 0, 60, .inl tx)), (m4, .inl (kA 0, 72, .inl ((rtL tx n0 0 (pt, 0, -1, 0)).2.1))), (m5, .inl (kA 0, 148, .inl kp))] := hD
        refine lv_aload_n hx hb dX6_run_37 rfl (lv_at hl 1 rfl) ?_
        refine va_get (ci := 6) (v := .int 1) (C := RX6) (T := TX6) (N := 13) hx hb hts inX6 hown hK hP 0 rfl rfl 5 (by decide) (hts _ q_775) (fun _ h9 => h9) rfl dX6_run_38 ?_
        refine lv_if_le (tgt := 46) hx hb dX6_run_41 (by decide) (fun c_6 => ?_) (fun c_6 => ?_)
        · exact absurd c_6 (by decide)
        · skip
          replace c_6 := nge_l c_6
          refine lv_iconst (v := 0) hx hb dX6_run_44 (by decide) ?_
          have hP : va_P D vwCl [(m0, .inr (6, [.ref m1, .int st, .ref m2, .int len, .ref m3, .int 1, .int wo, .ref m4, .int (nI (rtL tx n0 0 (pt, 0, -1, 0)).2.2.1), .int ((rtL tx n0 0 (pt, 0, -1, 0)).2.2.2.1), .int ((rtL tx n0 0 (pt, 0, -1, 0)).2.2.2.2), .ref m5, .long hs])), (m1, .inl (kA 0, 148, .inl z)), (m2, .inl (kA 0, 888, .inl h)), (m3, .inl (kA 0, 60, .inl tx)), (m4, .inl (kA 0, 72, .inl ((rtL tx n0 0 (pt, 0, -1, 0)).2.1))), (m5, .inl (kA 0, 148, .inl kp))] _ := hP.sub [0, 1, 2, 3, 4, 5] rfl
          exact end_fi hx hb hrt hlk hP hS (by have hT : ruT len tx n0 pt = 1 := (by rw [ruT, if_pos c_1, if_neg (by rw [c_4]; decide)]); rw [if_neg (n0_of hT (by decide))]) (fun hq => by have hT : ruT len tx n0 pt = 1 := (by rw [ruT, if_pos c_1, if_neg (by rw [c_4]; decide)]); have hN := n0_of hT (by decide); simp only [if_neg hN]; rw [hT, ← hst]; exact hq) dX6_run_45
      · exact absurd c_5 (by decide)
    · skip
      replace c_4 := bI_n0 c_4
      refine lv_iconst (v := 1) hx hb dX6_run_18 (by decide) ?_
      refine lv_goto (tgt := 23) hx hb dX6_run_19 (by decide) ?_
      refine lv_istore_n (lv' := [(1, .int 1), (0, .ref m0)]) hx hb dX6_run_23 rfl hl (by decide) rfl (fun ls hl => ?_)
      refine lv_aload_n hx hb dX6_run_24 rfl (lv_at hl 1 rfl) ?_
      refine lv_iload_n hx hb dX6_run_25 rfl (lv_at hl 0 rfl) ?_
      refine lv_if_eq (tgt := 33) hx hb dX6_run_26 (by decide) (fun c_7 => ?_) (fun c_7 => ?_)
      · exact absurd c_7 (by decide)
      · skip
        refine lv_iconst (v := 0) hx hb dX6_run_29 (by decide) ?_
        refine lv_goto (tgt := 34) hx hb dX6_run_30 (by decide) ?_
        refine va_put (ci := 6) (v := .int 0) (ty := tyX6 5) (C := RX6) (T := TX6) (N := 13) hx hb hts inX6 tyX6 tyX6_ok nmX6 hown hK hP hD hS 0 rfl rfl 5 (by decide) (hts _ q_775) (fun _ h9 => h9) rfl (tyX6_ok 5 (by decide)) rfl rfl (Nat.le_of_ble_eq_true rfl) dX6_run_34 (fun H locs hP hD hS => ?_)
        have hP : va_P D vwCl [(m0, .inr (6, [.ref m1, .int st, .ref m2, .int len, .ref m3, .int 0, .int wo, .ref m4, .int (nI (rtL tx n0 0 (pt, 0, -1, 0)).2.2.1), .int ((rtL tx n0 0 (pt, 0, -1, 0)).2.2.2.1), .int ((rtL tx n0 0 (pt, 0, -1, 0)).2.2.2.2), .ref m5, .long hs])), (m1, .inl (kA 0, 148, .inl z)), (m2, .inl (kA 0, 888, .inl h)), (m3, .inl (kA 0, 60, .inl tx)), (m4, .inl (kA 0, 72, .inl ((rtL tx n0 0 (pt, 0, -1, 0)).2.1))), (m5, .inl (kA 0, 148, .inl kp))] H := hP
        have hD : va_D (Aw [(m0, .inr (6, [.ref m1, .int st, .ref m2, .int len, .ref m3, .int th, .int wo, .ref m4, .int rd, .int nu, .int du, .ref m5, .long hs])), (m1, .inl (kA 0, 148, .inl z)), (m2, .inl (kA 0, 888, .inl h)), (m3, .inl (kA 0, 60, .inl tx)), (m4, .inl (kA 0, 72, .inl pt)), (m5, .inl (kA 0, 148, .inl kp))]) [(m0, .inr (6, [.ref m1, .int st, .ref m2, .int len, .ref m3, .int 0, .int wo, .ref m4, .int (nI (rtL tx n0 0 (pt, 0, -1, 0)).2.2.1), .int ((rtL tx n0 0 (pt, 0, -1, 0)).2.2.2.1), .int ((rtL tx n0 0 (pt, 0, -1, 0)).2.2.2.2), .ref m5, .long hs])), (m1, .inl (kA 0, 148, .inl z)), (m2, .inl (kA 0, 888, .inl h)), (m3, .inl (kA 0, 60, .inl tx)), (m4, .inl (kA 0, 72, .inl ((rtL tx n0 0 (pt, 0, -1, 0)).2.1))), (m5, .inl (kA 0, 148, .inl kp))] := hD
        refine lv_aload_n hx hb dX6_run_37 rfl (lv_at hl 1 rfl) ?_
        refine va_get (ci := 6) (v := .int 0) (C := RX6) (T := TX6) (N := 13) hx hb hts inX6 hown hK hP 0 rfl rfl 5 (by decide) (hts _ q_775) (fun _ h9 => h9) rfl dX6_run_38 ?_
        refine lv_if_le (tgt := 46) hx hb dX6_run_41 (by decide) (fun c_8 => ?_) (fun c_8 => ?_)
        · skip
          replace c_8 := ge_n c_8
          refine lv_aload_n hx hb dX6_run_46 rfl (lv_at hl 1 rfl) ?_
          refine cs_fn (runV (As := []) (rest := []) ⟨hx, hb, hml, hown, hts⟩ (m_X6_save l D kA m0 m1 m2 m3 m4 m5 z h tx ((rtL tx n0 0 (pt, 0, -1, 0)).2.1) kp st len 0 wo (nI (rtL tx n0 0 (pt, 0, -1, 0)).2.2.1) ((rtL tx n0 0 (pt, 0, -1, 0)).2.2.2.1) ((rtL tx n0 0 (pt, 0, -1, 0)).2.2.2.2) hs w (hst) (hw)) q_822 q_824 qp_22 q_7 q_825 hd_X6_save ⟨rfl, rfl⟩ ⟨Nat.le_of_ble_eq_true rfl, Nat.le_of_ble_eq_true rfl⟩ hK (ws := [(m0, .inr (6, [.ref m1, .int st, .ref m2, .int len, .ref m3, .int 0, .int wo, .ref m4, .int (nI (rtL tx n0 0 (pt, 0, -1, 0)).2.2.1), .int ((rtL tx n0 0 (pt, 0, -1, 0)).2.2.2.1), .int ((rtL tx n0 0 (pt, 0, -1, 0)).2.2.2.2), .ref m5, .long hs])), (m1, .inl (kA 0, 148, .inl z)), (m2, .inl (kA 0, 888, .inl h)), (m3, .inl (kA 0, 60, .inl tx)), (m4, .inl (kA 0, 72, .inl ((rtL tx n0 0 (pt, 0, -1, 0)).2.1))), (m5, .inl (kA 0, 148, .inl kp))]) (hP.sub [0, 1, 2, 3, 4, 5] rfl) (hD.sub [0, 1, 2, 3, 4, 5] (by decide) rfl) 0 (ci := 6) (C := RX6) (T := TX6) (N := 13) rfl rfl rfl hl.1 rfl (Nat.le_of_ble_eq_true rfl) dX6_run_47 ⟨Nat.zero_le _, Nat.zero_le _⟩) hS (aw_sub hD (isC := [0, 1, 2, 3, 4, 5]) rfl) (fun H locs hP1 hk1 hS => ?_)
          obtain ⟨hP, hD⟩ := jn (wr := []) (w1 := [(m0, .inr (6, [.ref m1, .int (nI (svN w)), .ref m2, .int len, .ref m3, .int 0, .int wo, .ref m4, .int (nI (rtL tx n0 0 (pt, 0, -1, 0)).2.2.1), .int ((rtL tx n0 0 (pt, 0, -1, 0)).2.2.2.1), .int ((rtL tx n0 0 (pt, 0, -1, 0)).2.2.2.2), .ref m5, .long hs])), (m1, .inl (kA 0, 148, .inl z)), (m2, .inl (kA 0, 888, .inl (svH h z w))), (m3, .inl (kA 0, 60, .inl tx)), (m4, .inl (kA 0, 72, .inl ((rtL tx n0 0 (pt, 0, -1, 0)).2.1))), (m5, .inl (kA 0, 148, .inl kp))]) hP hD [0, 1, 2, 3, 4, 5] [] rfl rfl (by decide) hk1 hP1 rfl
          have hP : va_P D vwCl [(m0, .inr (6, [.ref m1, .int (nI (svN w)), .ref m2, .int len, .ref m3, .int 0, .int wo, .ref m4, .int (nI (rtL tx n0 0 (pt, 0, -1, 0)).2.2.1), .int ((rtL tx n0 0 (pt, 0, -1, 0)).2.2.2.1), .int ((rtL tx n0 0 (pt, 0, -1, 0)).2.2.2.2), .ref m5, .long hs])), (m1, .inl (kA 0, 148, .inl z)), (m2, .inl (kA 0, 888, .inl (svH h z w))), (m3, .inl (kA 0, 60, .inl tx)), (m4, .inl (kA 0, 72, .inl ((rtL tx n0 0 (pt, 0, -1, 0)).2.1))), (m5, .inl (kA 0, 148, .inl kp))] H := hP
          have hD : va_D (Aw [(m0, .inr (6, [.ref m1, .int st, .ref m2, .int len, .ref m3, .int th, .int wo, .ref m4, .int rd, .int nu, .int du, .ref m5, .long hs])), (m1, .inl (kA 0, 148, .inl z)), (m2, .inl (kA 0, 888, .inl h)), (m3, .inl (kA 0, 60, .inl tx)), (m4, .inl (kA 0, 72, .inl pt)), (m5, .inl (kA 0, 148, .inl kp))]) [(m0, .inr (6, [.ref m1, .int (nI (svN w)), .ref m2, .int len, .ref m3, .int 0, .int wo, .ref m4, .int (nI (rtL tx n0 0 (pt, 0, -1, 0)).2.2.1), .int ((rtL tx n0 0 (pt, 0, -1, 0)).2.2.2.1), .int ((rtL tx n0 0 (pt, 0, -1, 0)).2.2.2.2), .ref m5, .long hs])), (m1, .inl (kA 0, 148, .inl z)), (m2, .inl (kA 0, 888, .inl (svH h z w))), (m3, .inl (kA 0, 60, .inl tx)), (m4, .inl (kA 0, 72, .inl ((rtL tx n0 0 (pt, 0, -1, 0)).2.1))), (m5, .inl (kA 0, 148, .inl kp))] := hD
          refine lv_aload_n hx hb dX6_run_50 rfl (lv_at hl 1 rfl) ?_
          refine cs_fn (runV (As := []) (rest := []) ⟨hx, hb, hml, hown, hts⟩ (m_X6_endCommand l D kA m0 m1 m2 m3 m4 m5 z (svH h z w) tx ((rtL tx n0 0 (pt, 0, -1, 0)).2.1) kp (nI (svN w)) len 0 wo (nI (rtL tx n0 0 (pt, 0, -1, 0)).2.2.1) ((rtL tx n0 0 (pt, 0, -1, 0)).2.2.2.1) ((rtL tx n0 0 (pt, 0, -1, 0)).2.2.2.2) hs ((rtL tx n0 0 (pt, 0, -1, 0)).2.2.1) (rfl) (by have hb := (rt_bd (tx := tx) n0 0 (pt, 0, -1, 0) (Nat.le_refl 0)).2; omega)) q_972 q_974 qp_45 q_7 q_975 hd_X6_endCommand ⟨rfl, rfl⟩ ⟨Nat.le_of_ble_eq_true rfl, Nat.le_of_ble_eq_true rfl⟩ hK (ws := [(m0, .inr (6, [.ref m1, .int (nI (svN w)), .ref m2, .int len, .ref m3, .int 0, .int wo, .ref m4, .int (nI (rtL tx n0 0 (pt, 0, -1, 0)).2.2.1), .int ((rtL tx n0 0 (pt, 0, -1, 0)).2.2.2.1), .int ((rtL tx n0 0 (pt, 0, -1, 0)).2.2.2.2), .ref m5, .long hs])), (m1, .inl (kA 0, 148, .inl z)), (m2, .inl (kA 0, 888, .inl (svH h z w))), (m3, .inl (kA 0, 60, .inl tx)), (m4, .inl (kA 0, 72, .inl ((rtL tx n0 0 (pt, 0, -1, 0)).2.1))), (m5, .inl (kA 0, 148, .inl kp))]) (hP.sub [0, 1, 2, 3, 4, 5] rfl) (hD.sub [0, 1, 2, 3, 4, 5] (by decide) rfl) 0 (ci := 6) (C := RX6) (T := TX6) (N := 13) rfl rfl rfl hl.1 rfl (Nat.le_of_ble_eq_true rfl) dX6_run_51 ⟨Nat.zero_le _, Nat.zero_le _⟩) hS (aw_sub hD (isC := [0, 1, 2, 3, 4, 5]) rfl) (fun H locs hP1 hk1 hS => ?_)
          obtain ⟨hP, hD⟩ := jn (wr := []) (w1 := [(m0, .inr (6, [.ref m1, .int (nI (svN w)), .ref m2, .int len, .ref m3, .int 0, .int wo, .ref m4, .int (nI (((rtL tx n0 0 (pt, 0, -1, 0)).2.2.1) + 1)), .int (-1), .int 0, .ref m5, .long hs])), (m1, .inl (kA 0, 148, .inl z)), (m2, .inl (kA 0, 888, .inl (svH h z w))), (m3, .inl (kA 0, 60, .inl tx)), (m4, .inl (kA 0, 72, .inl (upd ((rtL tx n0 0 (pt, 0, -1, 0)).2.1) (3 * ((rtL tx n0 0 (pt, 0, -1, 0)).2.2.1) + 2) ((rtL tx n0 0 (pt, 0, -1, 0)).2.2.2.1)))), (m5, .inl (kA 0, 148, .inl kp))]) hP hD [0, 1, 2, 3, 4, 5] [] rfl rfl (by decide) hk1 hP1 rfl
          have hP : va_P D vwCl [(m0, .inr (6, [.ref m1, .int (nI (svN w)), .ref m2, .int len, .ref m3, .int 0, .int wo, .ref m4, .int (nI (((rtL tx n0 0 (pt, 0, -1, 0)).2.2.1) + 1)), .int (-1), .int 0, .ref m5, .long hs])), (m1, .inl (kA 0, 148, .inl z)), (m2, .inl (kA 0, 888, .inl (svH h z w))), (m3, .inl (kA 0, 60, .inl tx)), (m4, .inl (kA 0, 72, .inl (upd ((rtL tx n0 0 (pt, 0, -1, 0)).2.1) (3 * ((rtL tx n0 0 (pt, 0, -1, 0)).2.2.1) + 2) ((rtL tx n0 0 (pt, 0, -1, 0)).2.2.2.1)))), (m5, .inl (kA 0, 148, .inl kp))] H := hP
          have hD : va_D (Aw [(m0, .inr (6, [.ref m1, .int st, .ref m2, .int len, .ref m3, .int th, .int wo, .ref m4, .int rd, .int nu, .int du, .ref m5, .long hs])), (m1, .inl (kA 0, 148, .inl z)), (m2, .inl (kA 0, 888, .inl h)), (m3, .inl (kA 0, 60, .inl tx)), (m4, .inl (kA 0, 72, .inl pt)), (m5, .inl (kA 0, 148, .inl kp))]) [(m0, .inr (6, [.ref m1, .int (nI (svN w)), .ref m2, .int len, .ref m3, .int 0, .int wo, .ref m4, .int (nI (((rtL tx n0 0 (pt, 0, -1, 0)).2.2.1) + 1)), .int (-1), .int 0, .ref m5, .long hs])), (m1, .inl (kA 0, 148, .inl z)), (m2, .inl (kA 0, 888, .inl (svH h z w))), (m3, .inl (kA 0, 60, .inl tx)), (m4, .inl (kA 0, 72, .inl (upd ((rtL tx n0 0 (pt, 0, -1, 0)).2.1) (3 * ((rtL tx n0 0 (pt, 0, -1, 0)).2.2.1) + 2) ((rtL tx n0 0 (pt, 0, -1, 0)).2.2.2.1)))), (m5, .inl (kA 0, 148, .inl kp))] := hD
          refine lv_aload_n hx hb dX6_run_54 rfl (lv_at hl 1 rfl) ?_
          refine lv_iconst (v := 0) hx hb dX6_run_55 (by decide) ?_
          refine va_put (ci := 6) (v := .int 0) (ty := tyX6 3) (C := RX6) (T := TX6) (N := 13) hx hb hts inX6 tyX6 tyX6_ok nmX6 hown hK hP hD hS 0 rfl rfl 3 (by decide) (hts _ q_773) (fun _ h9 => h9) rfl (tyX6_ok 3 (by decide)) rfl rfl (Nat.le_of_ble_eq_true rfl) dX6_run_56 (fun H locs hP hD hS => ?_)
          have hP : va_P D vwCl [(m0, .inr (6, [.ref m1, .int (nI (svN w)), .ref m2, .int 0, .ref m3, .int 0, .int wo, .ref m4, .int (nI (((rtL tx n0 0 (pt, 0, -1, 0)).2.2.1) + 1)), .int (-1), .int 0, .ref m5, .long hs])), (m1, .inl (kA 0, 148, .inl z)), (m2, .inl (kA 0, 888, .inl (svH h z w))), (m3, .inl (kA 0, 60, .inl tx)), (m4, .inl (kA 0, 72, .inl (upd ((rtL tx n0 0 (pt, 0, -1, 0)).2.1) (3 * ((rtL tx n0 0 (pt, 0, -1, 0)).2.2.1) + 2) ((rtL tx n0 0 (pt, 0, -1, 0)).2.2.2.1)))), (m5, .inl (kA 0, 148, .inl kp))] H := hP
          have hD : va_D (Aw [(m0, .inr (6, [.ref m1, .int st, .ref m2, .int len, .ref m3, .int th, .int wo, .ref m4, .int rd, .int nu, .int du, .ref m5, .long hs])), (m1, .inl (kA 0, 148, .inl z)), (m2, .inl (kA 0, 888, .inl h)), (m3, .inl (kA 0, 60, .inl tx)), (m4, .inl (kA 0, 72, .inl pt)), (m5, .inl (kA 0, 148, .inl kp))]) [(m0, .inr (6, [.ref m1, .int (nI (svN w)), .ref m2, .int 0, .ref m3, .int 0, .int wo, .ref m4, .int (nI (((rtL tx n0 0 (pt, 0, -1, 0)).2.2.1) + 1)), .int (-1), .int 0, .ref m5, .long hs])), (m1, .inl (kA 0, 148, .inl z)), (m2, .inl (kA 0, 888, .inl (svH h z w))), (m3, .inl (kA 0, 60, .inl tx)), (m4, .inl (kA 0, 72, .inl (upd ((rtL tx n0 0 (pt, 0, -1, 0)).2.1) (3 * ((rtL tx n0 0 (pt, 0, -1, 0)).2.2.1) + 2) ((rtL tx n0 0 (pt, 0, -1, 0)).2.2.2.1)))), (m5, .inl (kA 0, 148, .inl kp))] := hD
          refine lv_iconst (v := 0) hx hb dX6_run_59 (by decide) ?_
          refine lv_istore_n (lv' := [(2, .int 0), (1, .int 1), (0, .ref m0)]) hx hb dX6_run_60 rfl hl (by decide) rfl (fun ls hl => ?_)
          have hbn := (rt_bd (tx := tx) n0 0 (pt, 0, -1, 0) (Nat.le_refl 0)).2
          have hPI := rt_PI (tx := tx) n0 0 (pt, 0, -1, 0) PI_0 (by rw [Nat.zero_add]; exact nI_e60 c_1 hlen (rt_bd (tx := tx) n0 0 (pt, 0, -1, 0) (Nat.le_refl 0)).1 hn0)
          have loop_61 : ∀ (n : Nat) (j : Nat) (zj : Nat → Int32) (x2 : Int32) (hj : j + n = (rtL tx n0 0 (pt, 0, -1, 0)).2.2.1 + 1) (e2 : x2 = nI j) (hIj : Inv zj) (hres : cyL (upd (rtL tx n0 0 (pt, 0, -1, 0)).2.1 (3 * (rtL tx n0 0 (pt, 0, -1, 0)).2.2.1 + 2) (rtL tx n0 0 (pt, 0, -1, 0)).2.2.2.1) n j zj = (cyL (upd (rtL tx n0 0 (pt, 0, -1, 0)).2.1 (3 * (rtL tx n0 0 (pt, 0, -1, 0)).2.2.1 + 2) (rtL tx n0 0 (pt, 0, -1, 0)).2.2.2.1) ((rtL tx n0 0 (pt, 0, -1, 0)).2.2.1 + 1) 0 z)), ∀ (H : Heap) (locs : List Loc), va_P D vwCl [(m0, .inr (6, [.ref m1, .int (nI (svN w)), .ref m2, .int 0, .ref m3, .int 0, .int wo, .ref m4, .int (nI ((rtL tx n0 0 (pt, 0, -1, 0)).2.2.1 + 1)), .int (-1), .int 0, .ref m5, .long hs])), (m1, .inl (kA 0, 148, .inl zj)), (m2, .inl (kA 0, 888, .inl (svH h z w))), (m3, .inl (kA 0, 60, .inl tx)), (m4, .inl (kA 0, 72, .inl (upd (rtL tx n0 0 (pt, 0, -1, 0)).2.1 (3 * (rtL tx n0 0 (pt, 0, -1, 0)).2.2.1 + 2) (rtL tx n0 0 (pt, 0, -1, 0)).2.2.2.1))), (m5, .inl (kA 0, 148, .inl kp))] H → va_D (Aw [(m0, .inr (6, [.ref m1, .int st, .ref m2, .int len, .ref m3, .int th, .int wo, .ref m4, .int rd, .int nu, .int du, .ref m5, .long hs])), (m1, .inl (kA 0, 148, .inl z)), (m2, .inl (kA 0, 888, .inl h)), (m3, .inl (kA 0, 60, .inl tx)), (m4, .inl (kA 0, 72, .inl pt)), (m5, .inl (kA 0, 148, .inl kp))]) [(m0, .inr (6, [.ref m1, .int (nI (svN w)), .ref m2, .int 0, .ref m3, .int 0, .int wo, .ref m4, .int (nI ((rtL tx n0 0 (pt, 0, -1, 0)).2.2.1 + 1)), .int (-1), .int 0, .ref m5, .long hs])), (m1, .inl (kA 0, 148, .inl zj)), (m2, .inl (kA 0, 888, .inl (svH h z w))), (m3, .inl (kA 0, 60, .inl tx)), (m4, .inl (kA 0, 72, .inl (upd (rtL tx n0 0 (pt, 0, -1, 0)).2.1 (3 * (rtL tx n0 0 (pt, 0, -1, 0)).2.2.1 + 2) (rtL tx n0 0 (pt, 0, -1, 0)).2.2.2.1))), (m5, .inl (kA 0, 148, .inl kp))] → va_S (Aw [(m0, .inr (6, [.ref m1, .int st, .ref m2, .int len, .ref m3, .int th, .int wo, .ref m4, .int rd, .int nu, .int du, .ref m5, .long hs])), (m1, .inl (kA 0, 148, .inl z)), (m2, .inl (kA 0, 888, .inl h)), (m3, .inl (kA 0, 60, .inl tx)), (m4, .inl (kA 0, 72, .inl pt)), (m5, .inl (kA 0, 148, .inl kp))]) s.heap H locs → ∀ ls : Array Slot, lv_has ls 3 [(0, .ref m0), (2, .int x2)] → W p l e ({ frames := 6, cells := 0, slots := 0, locals := 146 } : Room) s m [.ref m0].toArray below meth c H locs 0 0 (MQ below (fQ (some (.int (if ruT len tx n0 pt = 0 then nI (cyL (upd (rtL tx n0 0 (pt, 0, -1, 0)).2.1 (3 * (rtL tx n0 0 (pt, 0, -1, 0)).2.2.1 + 2) (rtL tx n0 0 (pt, 0, -1, 0)).2.2.2.1) ((rtL tx n0 0 (pt, 0, -1, 0)).2.2.1 + 1) 0 z).1 else 0))) D [(m0, .inr (6, [.ref m1, .int st, .ref m2, .int len, .ref m3, .int th, .int wo, .ref m4, .int rd, .int nu, .int du, .ref m5, .long hs])), (m1, .inl (kA 0, 148, .inl z)), (m2, .inl (kA 0, 888, .inl h)), (m3, .inl (kA 0, 60, .inl tx)), (m4, .inl (kA 0, 72, .inl pt)), (m5, .inl (kA 0, 148, .inl kp))] [(m0, .inr (6, [.ref m1, .int (nI (if ruT len tx n0 pt = 0 then svN w else w)), .ref m2, .int (if ruT len tx n0 pt = 0 then 0 else len), .ref m3, .int (ruT len tx n0 pt), .int wo, .ref m4, .int (nI (if ruT len tx n0 pt = 0 then (rtL tx n0 0 (pt, 0, -1, 0)).2.2.1 + 1 else (rtL tx n0 0 (pt, 0, -1, 0)).2.2.1)), .int (if ruT len tx n0 pt = 0 then -1 else (rtL tx n0 0 (pt, 0, -1, 0)).2.2.2.1), .int (if ruT len tx n0 pt = 0 then 0 else (rtL tx n0 0 (pt, 0, -1, 0)).2.2.2.2), .ref m5, .long hs])), (m1, .inl (kA 0, 148, .inl (if ruT len tx n0 pt = 0 then (cyL (upd (rtL tx n0 0 (pt, 0, -1, 0)).2.1 (3 * (rtL tx n0 0 (pt, 0, -1, 0)).2.2.1 + 2) (rtL tx n0 0 (pt, 0, -1, 0)).2.2.2.1) ((rtL tx n0 0 (pt, 0, -1, 0)).2.2.1 + 1) 0 z).2 else z))), (m2, .inl (kA 0, 888, .inl (if ruT len tx n0 pt = 0 then svH h z w else h))), (m3, .inl (kA 0, 60, .inl tx)), (m4, .inl (kA 0, 72, .inl (if ruT len tx n0 pt = 0 then (upd (rtL tx n0 0 (pt, 0, -1, 0)).2.1 (3 * (rtL tx n0 0 (pt, 0, -1, 0)).2.2.1 + 2) (rtL tx n0 0 (pt, 0, -1, 0)).2.2.2.1) else (rtL tx n0 0 (pt, 0, -1, 0)).2.1))), (m5, .inl (kA 0, 148, .inl kp))]) [.ref m0].toArray s 0 0 (Aw [(m0, .inr (6, [.ref m1, .int st, .ref m2, .int len, .ref m3, .int th, .int wo, .ref m4, .int rd, .int nu, .int du, .ref m5, .long hs])), (m1, .inl (kA 0, 148, .inl z)), (m2, .inl (kA 0, 888, .inl h)), (m3, .inl (kA 0, 60, .inl tx)), (m4, .inl (kA 0, 72, .inl pt)), (m5, .inl (kA 0, 148, .inl kp))])) (F0 m 61 ls []) := by
            clear hl
            clear hP hD hS
            intro n
            induction n with
            | zero =>
              intro j zj x2 hj e2 hIj hres H locs hP hD hS ls hl
              refine lv_iload_n hx hb dX6_run_61 rfl (lv_at hl 1 rfl) ?_
              refine lv_aload_n hx hb dX6_run_62 rfl (lv_at hl 0 rfl) ?_
              refine va_get (ci := 6) (v := .int (nI ((rtL tx n0 0 (pt, 0, -1, 0)).2.2.1 + 1))) (C := RX6) (T := TX6) (N := 13) hx hb hts inX6 hown hK hP 0 rfl rfl 8 (by decide) (hts _ q_778) (fun _ h9 => h9) rfl dX6_run_63 ?_
              refine lv_icmp_ge (tgt := 83) hx hb dX6_run_66 (by decide) (fun c_9 => ?_) (fun c_9 => ?_)
              · skip
                replace c_9 := ge_n c_9
                refine lv_iload_n hx hb dX6_run_83 rfl (lv_at hl 1 rfl) ?_
                have hP : va_P D vwCl [(m0, .inr (6, [.ref m1, .int (nI (svN w)), .ref m2, .int 0, .ref m3, .int 0, .int wo, .ref m4, .int (nI ((rtL tx n0 0 (pt, 0, -1, 0)).2.2.1 + 1)), .int (-1), .int 0, .ref m5, .long hs])), (m1, .inl (kA 0, 148, .inl zj)), (m2, .inl (kA 0, 888, .inl (svH h z w))), (m3, .inl (kA 0, 60, .inl tx)), (m4, .inl (kA 0, 72, .inl (upd (rtL tx n0 0 (pt, 0, -1, 0)).2.1 (3 * (rtL tx n0 0 (pt, 0, -1, 0)).2.2.1 + 2) (rtL tx n0 0 (pt, 0, -1, 0)).2.2.2.1))), (m5, .inl (kA 0, 148, .inl kp))] _ := hP.sub [0, 1, 2, 3, 4, 5] rfl
                exact end_fi hx hb hrt hlk hP hS (by have hT : ruT len tx n0 pt = 0 := (by rw [ruT, if_pos c_1, if_pos c_4]); have hE : (cyL (upd (rtL tx n0 0 (pt, 0, -1, 0)).2.1 (3 * (rtL tx n0 0 (pt, 0, -1, 0)).2.2.1 + 2) (rtL tx n0 0 (pt, 0, -1, 0)).2.2.2.1) ((rtL tx n0 0 (pt, 0, -1, 0)).2.2.1 + 1) 0 z) = (j, zj) := hres.symm; rw [if_pos hT, hE]; exact e2) (fun hq => by have hT : ruT len tx n0 pt = 0 := (by rw [ruT, if_pos c_1, if_pos c_4]); have hE : (cyL (upd (rtL tx n0 0 (pt, 0, -1, 0)).2.1 (3 * (rtL tx n0 0 (pt, 0, -1, 0)).2.2.1 + 2) (rtL tx n0 0 (pt, 0, -1, 0)).2.2.2.1) ((rtL tx n0 0 (pt, 0, -1, 0)).2.2.1 + 1) 0 z) = (j, zj) := hres.symm; simp only [if_pos hT]; rw [hT, hE]; exact hq) dX6_run_84
              · exact absurd c_9 (fun q => q (cnt_ge (N := (rtL tx n0 0 (pt, 0, -1, 0)).2.2.1 + 1) e2 rfl (by omega) (by omega)))
            | succ n ih61 =>
              intro j zj x2 hj e2 hIj hres H locs hP hD hS ls hl
              refine lv_iload_n hx hb dX6_run_61 rfl (lv_at hl 1 rfl) ?_
              refine lv_aload_n hx hb dX6_run_62 rfl (lv_at hl 0 rfl) ?_
              refine va_get (ci := 6) (v := .int (nI ((rtL tx n0 0 (pt, 0, -1, 0)).2.2.1 + 1))) (C := RX6) (T := TX6) (N := 13) hx hb hts inX6 hown hK hP 0 rfl rfl 8 (by decide) (hts _ q_778) (fun _ h9 => h9) rfl dX6_run_63 ?_
              refine lv_icmp_ge (tgt := 83) hx hb dX6_run_66 (by decide) (fun c_10 => ?_) (fun c_10 => ?_)
              · exact absurd c_10 (cnt_nge (N := (rtL tx n0 0 (pt, 0, -1, 0)).2.2.1 + 1) e2 rfl (by omega) (by omega))
              · skip
                replace c_10 := nge_l c_10
                refine lv_aload_n hx hb dX6_run_69 rfl (lv_at hl 0 rfl) ?_
                refine lv_iload_n hx hb dX6_run_70 rfl (lv_at hl 1 rfl) ?_
                refine cs_fs (runV (As := [.int x2]) (rest := []) ⟨hx, hb, hml, hown, hts⟩ (m_X6_carries l D kA m0 m1 m2 m3 m4 m5 zj (svH h z w) tx (upd (rtL tx n0 0 (pt, 0, -1, 0)).2.1 (3 * (rtL tx n0 0 (pt, 0, -1, 0)).2.2.1 + 2) (rtL tx n0 0 (pt, 0, -1, 0)).2.2.2.1) kp (nI (svN w)) 0 0 wo (nI ((rtL tx n0 0 (pt, 0, -1, 0)).2.2.1 + 1)) (-1) 0 hs x2 j (hIj) (e2) (by have hb := (rt_bd (tx := tx) n0 0 (pt, 0, -1, 0) (Nat.le_refl 0)).2; omega) (PI_end hPI c_4 j (by omega)) (hwo)) q_984 q_986 qp_47 q_7 q_987 hd_X6_carries ⟨rfl, rfl⟩ ⟨Nat.le_of_ble_eq_true rfl, Nat.le_of_ble_eq_true rfl⟩ hK (ws := [(m0, .inr (6, [.ref m1, .int (nI (svN w)), .ref m2, .int 0, .ref m3, .int 0, .int wo, .ref m4, .int (nI ((rtL tx n0 0 (pt, 0, -1, 0)).2.2.1 + 1)), .int (-1), .int 0, .ref m5, .long hs])), (m1, .inl (kA 0, 148, .inl zj)), (m2, .inl (kA 0, 888, .inl (svH h z w))), (m3, .inl (kA 0, 60, .inl tx)), (m4, .inl (kA 0, 72, .inl (upd (rtL tx n0 0 (pt, 0, -1, 0)).2.1 (3 * (rtL tx n0 0 (pt, 0, -1, 0)).2.2.1 + 2) (rtL tx n0 0 (pt, 0, -1, 0)).2.2.2.1))), (m5, .inl (kA 0, 148, .inl kp))]) (hP.sub [0, 1, 2, 3, 4, 5] rfl) (hD.sub [0, 1, 2, 3, 4, 5] (by decide) rfl) 0 (ci := 6) (C := RX6) (T := TX6) (N := 13) rfl rfl rfl hl.1 rfl (Nat.le_of_ble_eq_true rfl) dX6_run_71 ⟨Nat.zero_le _, Nat.zero_le _⟩) hS (aw_sub hD (isC := [0, 1, 2, 3, 4, 5]) rfl) (fun H locs hP1 hk1 hS => ?_)
                obtain ⟨hP, hD⟩ := jn (wr := []) (w1 := [(m0, .inr (6, [.ref m1, .int (nI (svN w)), .ref m2, .int 0, .ref m3, .int 0, .int wo, .ref m4, .int (nI ((rtL tx n0 0 (pt, 0, -1, 0)).2.2.1 + 1)), .int (-1), .int 0, .ref m5, .long hs])), (m1, .inl (kA 0, 148, .inl ((caP (upd (rtL tx n0 0 (pt, 0, -1, 0)).2.1 (3 * (rtL tx n0 0 (pt, 0, -1, 0)).2.2.1 + 2) (rtL tx n0 0 (pt, 0, -1, 0)).2.2.2.1) j zj).2))), (m2, .inl (kA 0, 888, .inl (svH h z w))), (m3, .inl (kA 0, 60, .inl tx)), (m4, .inl (kA 0, 72, .inl (upd (rtL tx n0 0 (pt, 0, -1, 0)).2.1 (3 * (rtL tx n0 0 (pt, 0, -1, 0)).2.2.1 + 2) (rtL tx n0 0 (pt, 0, -1, 0)).2.2.2.1))), (m5, .inl (kA 0, 148, .inl kp))]) hP hD [0, 1, 2, 3, 4, 5] [] rfl rfl (by decide) hk1 hP1 rfl
                have hP : va_P D vwCl [(m0, .inr (6, [.ref m1, .int (nI (svN w)), .ref m2, .int 0, .ref m3, .int 0, .int wo, .ref m4, .int (nI ((rtL tx n0 0 (pt, 0, -1, 0)).2.2.1 + 1)), .int (-1), .int 0, .ref m5, .long hs])), (m1, .inl (kA 0, 148, .inl ((caP (upd (rtL tx n0 0 (pt, 0, -1, 0)).2.1 (3 * (rtL tx n0 0 (pt, 0, -1, 0)).2.2.1 + 2) (rtL tx n0 0 (pt, 0, -1, 0)).2.2.2.1) j zj).2))), (m2, .inl (kA 0, 888, .inl (svH h z w))), (m3, .inl (kA 0, 60, .inl tx)), (m4, .inl (kA 0, 72, .inl (upd (rtL tx n0 0 (pt, 0, -1, 0)).2.1 (3 * (rtL tx n0 0 (pt, 0, -1, 0)).2.2.1 + 2) (rtL tx n0 0 (pt, 0, -1, 0)).2.2.2.1))), (m5, .inl (kA 0, 148, .inl kp))] H := hP
                have hD : va_D (Aw [(m0, .inr (6, [.ref m1, .int st, .ref m2, .int len, .ref m3, .int th, .int wo, .ref m4, .int rd, .int nu, .int du, .ref m5, .long hs])), (m1, .inl (kA 0, 148, .inl z)), (m2, .inl (kA 0, 888, .inl h)), (m3, .inl (kA 0, 60, .inl tx)), (m4, .inl (kA 0, 72, .inl pt)), (m5, .inl (kA 0, 148, .inl kp))]) [(m0, .inr (6, [.ref m1, .int (nI (svN w)), .ref m2, .int 0, .ref m3, .int 0, .int wo, .ref m4, .int (nI ((rtL tx n0 0 (pt, 0, -1, 0)).2.2.1 + 1)), .int (-1), .int 0, .ref m5, .long hs])), (m1, .inl (kA 0, 148, .inl ((caP (upd (rtL tx n0 0 (pt, 0, -1, 0)).2.1 (3 * (rtL tx n0 0 (pt, 0, -1, 0)).2.2.1 + 2) (rtL tx n0 0 (pt, 0, -1, 0)).2.2.2.1) j zj).2))), (m2, .inl (kA 0, 888, .inl (svH h z w))), (m3, .inl (kA 0, 60, .inl tx)), (m4, .inl (kA 0, 72, .inl (upd (rtL tx n0 0 (pt, 0, -1, 0)).2.1 (3 * (rtL tx n0 0 (pt, 0, -1, 0)).2.2.1 + 2) (rtL tx n0 0 (pt, 0, -1, 0)).2.2.2.1))), (m5, .inl (kA 0, 148, .inl kp))] := hD
                refine lv_if_eq (tgt := 83) hx hb dX6_run_74 (by decide) (fun c_11 => ?_) (fun c_11 => ?_)
                · skip
                  replace c_11 := bI_0.mp c_11
                  refine lv_iload_n hx hb dX6_run_83 rfl (lv_at hl 1 rfl) ?_
                  have hP : va_P D vwCl [(m0, .inr (6, [.ref m1, .int (nI (svN w)), .ref m2, .int 0, .ref m3, .int 0, .int wo, .ref m4, .int (nI ((rtL tx n0 0 (pt, 0, -1, 0)).2.2.1 + 1)), .int (-1), .int 0, .ref m5, .long hs])), (m1, .inl (kA 0, 148, .inl ((caP (upd (rtL tx n0 0 (pt, 0, -1, 0)).2.1 (3 * (rtL tx n0 0 (pt, 0, -1, 0)).2.2.1 + 2) (rtL tx n0 0 (pt, 0, -1, 0)).2.2.2.1) j zj).2))), (m2, .inl (kA 0, 888, .inl (svH h z w))), (m3, .inl (kA 0, 60, .inl tx)), (m4, .inl (kA 0, 72, .inl (upd (rtL tx n0 0 (pt, 0, -1, 0)).2.1 (3 * (rtL tx n0 0 (pt, 0, -1, 0)).2.2.1 + 2) (rtL tx n0 0 (pt, 0, -1, 0)).2.2.2.1))), (m5, .inl (kA 0, 148, .inl kp))] _ := hP.sub [0, 1, 2, 3, 4, 5] rfl
                  exact end_fi hx hb hrt hlk hP hS (by have hT : ruT len tx n0 pt = 0 := (by rw [ruT, if_pos c_1, if_pos c_4]); have hE : (cyL (upd (rtL tx n0 0 (pt, 0, -1, 0)).2.1 (3 * (rtL tx n0 0 (pt, 0, -1, 0)).2.2.1 + 2) (rtL tx n0 0 (pt, 0, -1, 0)).2.2.2.1) ((rtL tx n0 0 (pt, 0, -1, 0)).2.2.1 + 1) 0 z) = (j, (caP (upd (rtL tx n0 0 (pt, 0, -1, 0)).2.1 (3 * (rtL tx n0 0 (pt, 0, -1, 0)).2.2.1 + 2) (rtL tx n0 0 (pt, 0, -1, 0)).2.2.2.1) j zj).2) := (by rw [← hres, cyL, if_neg (by rw [c_11]; decide)]); rw [if_pos hT, hE]; exact e2) (fun hq => by have hT : ruT len tx n0 pt = 0 := (by rw [ruT, if_pos c_1, if_pos c_4]); have hE : (cyL (upd (rtL tx n0 0 (pt, 0, -1, 0)).2.1 (3 * (rtL tx n0 0 (pt, 0, -1, 0)).2.2.1 + 2) (rtL tx n0 0 (pt, 0, -1, 0)).2.2.2.1) ((rtL tx n0 0 (pt, 0, -1, 0)).2.2.1 + 1) 0 z) = (j, (caP (upd (rtL tx n0 0 (pt, 0, -1, 0)).2.1 (3 * (rtL tx n0 0 (pt, 0, -1, 0)).2.2.1 + 2) (rtL tx n0 0 (pt, 0, -1, 0)).2.2.2.1) j zj).2) := (by rw [← hres, cyL, if_neg (by rw [c_11]; decide)]); simp only [if_pos hT]; rw [hT, hE]; exact hq) dX6_run_84
                · skip
                  replace c_11 := bI_n0 c_11
                  refine lv_iinc (v := x2 + 1) (lv' := [(2, .int (x2 + 1)), (0, .ref m0)]) hx hb dX6_run_77 hl (k := 1) rfl (by first | rfl | exact congrArg (_ + ·) (by decide)) (by decide) rfl (fun ls hl => ?_)
                  refine lv_goto (tgt := 61) hx hb dX6_run_80 (by decide) ?_
                  exact ih61 (j + 1) ((caP (upd (rtL tx n0 0 (pt, 0, -1, 0)).2.1 (3 * (rtL tx n0 0 (pt, 0, -1, 0)).2.2.1 + 2) (rtL tx n0 0 (pt, 0, -1, 0)).2.2.2.1) j zj).2) (x2 + 1) (by omega) (by rw [e2]; exact nI_1 j) (Inv_ca hIj (okC_a (PI_end hPI c_4 j (by omega))).2) (by rw [← hres, cyL, if_pos c_11]) _ _ (hP.sub [0, 1, 2, 3, 4, 5] rfl) (hD.sub [0, 1, 2, 3, 4, 5] (by decide) rfl) hS ls (lv_sub hl [1, 0] rfl)
          exact loop_61 ((rtL tx n0 0 (pt, 0, -1, 0)).2.2.1 + 1) 0 z 0 (by omega) (nI_0.symm) (hI) (rfl) _ _ (hP.sub [0, 1, 2, 3, 4, 5] rfl) (hD.sub [0, 1, 2, 3, 4, 5] (by decide) rfl) hS ls (lv_sub hl [2, 0] rfl)
        · exact absurd c_8 (by decide)
