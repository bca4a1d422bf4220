set_option maxRecDepth 100000 in
set_option maxHeartbeats 4000000 in
theorem k_toll {p : Program} {l : Launch} {e : Env} {s : State} {m : MethodId} {below : List Frame} {meth : Method} {c : Code} {Q : State → Prop} {D : va_G} {kA ad : Nat → Nat} {m0 m1 m2 m3 m4 m5 o b L i N cells slots : Nat} {xs : Nat → Int32} (C0 : LC l p s m meth c D kA b L xs) {X : Nat → Nat → Int32} {z h tx pt kp : Nat → Int32} {w n0 r : Nat} {th rd nu du : Int32} {hs : Int64} {f : Nat → Int64} {H : Heap} {locs : List Loc} {ls : Array Slot} (hR2 : REL X z h tx w n0 r N) (hN : N + 1000 ≤ 600000) (hi : i + 4 ≤ L) (hL : L ≤ 2048) (hP : va_P D vwCl (LWd kA ad m0 m1 m2 m3 m4 m5 o X z h tx pt kp w n0 th rd nu du hs f) H) (hD : va_D (fun q => s.heap.size ≤ q) (LWd kA ad m0 m1 m2 m3 m4 m5 o X z h tx pt kp w n0 th rd nu du hs f)) (hS : va_S (fun q => s.heap.size ≤ q) s.heap H locs) (hl : lv_has ls 9 (lB ad b m0 o i)) (hroom : cells + 1 ≤ 601024 ∧ slots + 6 ≤ 7293034) (K : KT p l e s m below meth c Q D kA ad m0 m1 m2 m3 m4 m5 o b i (N + 1000) (cells + 1) (slots + 6)) : W p l e room_1 s m #[Value.ref b] below meth c H locs cells slots Q (F0 m 1082 ls []) := by
  obtain ⟨hx, hb, hml, hown, hts, hK, hXb, hbl, hX0, hLW, hnt⟩ := C0
  obtain ⟨hXz, hI, hC, hw6, hr6, h80, h81, h82, hN3, hTB, hring⟩ := id hR2
  have hn60 := hTB.1
  have hl : lv_has ls 9 [(0, .ref b), (1, .ref (ad 0)), (2, .ref m0), (3, .ref o), (4, .int (nI i))] := hl
  have hP : va_P D vwCl (mL kA m0 m1 m2 m3 m4 m5 z h tx pt kp (nI w) (nI n0) th (-1) rd nu du hs ++ ([(o, oO kA f)] ++ cw kA ad X)) H := hP
  have hD : va_D (fun q => s.heap.size ≤ q) (mL kA m0 m1 m2 m3 m4 m5 z h tx pt kp (nI w) (nI n0) th (-1) rd nu du hs ++ ([(o, oO kA f)] ++ cw kA ad X)) := hD
  obtain ⟨v0, hv0⟩ : ∃ y, xs (nI (i + 1)).toNatClampNeg = y := ⟨_, rfl⟩
  obtain ⟨v1, hv1⟩ : ∃ y, xs (nI (i + 2)).toNatClampNeg = y := ⟨_, rfl⟩
  by_cases hbz : v1 = 0
  · skip
    refine lv_aload_n hx hb dL_law_1082 rfl (lv_at hl 1 rfl) ?_
    refine lv_aload_n hx hb dL_law_1083 rfl (lv_at hl 0 rfl) ?_
    refine lv_iload hx hb dL_law_1084 (lv_at hl 4 rfl) ?_
    refine lv_iconst (v := 1) hx hb dL_law_1086 (by decide) ?_
    refine lv_iadd hx hb dL_law_1087 ?_
    refine W_top (v' := .int (nI (i + 1))) (congrArg Value.int (nI_add i 1)) ?_
    refine va_sld hx hb hXb hbl (Nat.not_le.mpr hbl) hS (in_nI (j := i + 1) rfl (by omega) (by omega)) dL_law_1088 ?_
    refine W_top (v' := .int v0) (congrArg Value.int hv0) ?_
    refine lv_aload_n hx hb dL_law_1089 rfl (lv_at hl 0 rfl) ?_
    refine lv_iload hx hb dL_law_1090 (lv_at hl 4 rfl) ?_
    refine lv_iconst (v := 2) hx hb dL_law_1092 (by decide) ?_
    refine lv_iadd hx hb dL_law_1093 ?_
    refine W_top (v' := .int (nI (i + 2))) (congrArg Value.int (nI_add i 2)) ?_
    refine va_sld hx hb hXb hbl (Nat.not_le.mpr hbl) hS (in_nI (j := i + 2) rfl (by omega) (by omega)) dL_law_1094 ?_
    refine W_top (v' := .int v1) (congrArg Value.int hv1) ?_
    refine lv_if_eq (tgt := 1102) hx hb dL_law_1095 (by decide) (fun c9 => ?_) (fun c9 => ?_)
    rotate_left
    · exact absurd hbz c9
    · skip
      refine lv_iconst (v := 0) hx hb dL_law_1102 (by decide) ?_
      refine lv_aload_n hx hb dL_law_1103 rfl (lv_at hl 3 rfl) ?_
      have hXH : XW (Aw (cw kA ad X)) s H := (hX0.kept hS.2.1).narrow (fun q9 h9 => aw_D hD.rt.rt q9 h9)
      refine cs_fk (wrunS (As := [.ref (ad 0), .int v0, .int (bI false), .ref o]) (rest := []) ⟨hx, hb, hml, hown, hts⟩ (w_toll l D kA ad X v0 false o f  hnt) q_714 q_715 q_0 q_716 hdw_toll ⟨rfl, rfl⟩ ⟨Nat.le_of_ble_eq_true rfl, Nat.le_of_ble_eq_true rfl⟩ hK hP.r hD.rt hXH hLW rfl hl.1 rfl (Nat.le_of_ble_eq_true rfl) dL_law_1104 ⟨hroom.1, hroom.2⟩) hS (aw_D hD.rt) (fun H locs hP1 hk1 hS => ?_)
      obtain ⟨hP, hD⟩ := jR hP hD hk1 hP1 lw_fst
      clear hP1 hk1 hXH
      refine lv_istore (lv' := [(5, .int (axT v0)), (0, .ref b), (1, .ref (ad 0)), (2, .ref m0), (3, .ref o), (4, .int (nI i))]) hx hb dL_law_1107 hl (by decide) rfl (fun ls hl => ?_)
      refine lv_aload_n hx hb dL_law_1109 rfl (lv_at hl 3 rfl) ?_
      refine lv_aload_n hx hb dL_law_1110 rfl (lv_at hl 1 rfl) ?_
      refine lv_iload hx hb dL_law_1111 (lv_at hl 5 rfl) ?_
      refine lv_iconst (v := 1) hx hb dL_law_1113 (by decide) ?_
      refine lv_iadd hx hb dL_law_1114 ?_
      refine W_top (v' := .int (nI (i + 1))) (congrArg Value.int (nI_add i 1)) ?_
      refine va_sld hx hb hXb hbl (Nat.not_le.mpr hbl) hS (in_nI (j := i + 1) rfl (by omega) (by omega)) dL_law_1115 ?_
      refine W_top (v' := .int v0) (congrArg Value.int hv0) ?_
      refine lv_aload_n hx hb dL_law_1116 rfl (lv_at hl 1 rfl) ?_
      refine lv_iload hx hb dL_law_1117 (lv_at hl 5 rfl) ?_
      refine lv_iconst (v := 2) hx hb dL_law_1119 (by decide) ?_
      refine lv_iadd hx hb dL_law_1120 ?_
      refine W_top (v' := .int (nI (i + 2))) (congrArg Value.int (nI_add i 2)) ?_
      refine va_sld hx hb hXb hbl (Nat.not_le.mpr hbl) hS (in_nI (j := i + 2) rfl (by omega) (by omega)) dL_law_1121 ?_
      refine W_top (v' := .int v1) (congrArg Value.int hv1) ?_
      refine lv_if_eq (tgt := 1129) hx hb dL_law_1122 (by decide) (fun c9 => ?_) (fun c9 => ?_)
      rotate_left
      · exact absurd hbz c9
      · skip
        refine lv_iconst (v := 0) hx hb dL_law_1129 (by decide) ?_
        have eT : (axT v0) = (axT v0) := rfl
        refine cs_fs (runV (As := [.int v0, .int (bI false)]) (rest := []) ⟨hx, hb, hml, hown, hts⟩ (m_X6_toll l D kA m0 m1 m2 m3 m4 m5 z h tx pt kp (nI w) (nI n0) th (-1) rd nu du hs v0 false hI) q_1031 q_1032 q_1033 q_7 q_1034 hd_X6_toll ⟨rfl, rfl⟩ ⟨Nat.le_of_ble_eq_true rfl, Nat.le_of_ble_eq_true rfl⟩ hK hP.l hD.lf 0 (ci := 6) (C := RX6) (T := TX6) (N := 13) rfl rfl rfl hl.1 rfl (Nat.le_of_ble_eq_true rfl) dL_law_1130 ⟨hroom.1, hroom.2⟩) hS (aw_D hD.lf) (fun H locs hP1 hk1 hS => ?_)
        obtain ⟨hP, hD⟩ := jL hP hD hk1 hP1 rfl
        clear hP1 hk1
        by_cases hT : (axT v0) = 0
        · have hT2 : (axT v0) = 0 := eT.symm.trans hT
          have hP : va_P D vwCl ([(m0, .inr (6, [.ref m1, .int (nI w), .ref m2, .int (nI n0), .ref m3, .int (axT v0), .int (-1), .ref m4, .int rd, .int nu, .int du, .ref m5, .long hs])), (m1, .inl (kA 0, 148, .inl z)), (m2, .inl (kA 0, 888, .inl h)), (m3, .inl (kA 0, 60, .inl tx)), (m4, .inl (kA 0, 72, .inl pt)), (m5, .inl (kA 0, 148, .inl kp))] ++ ([(o, oO kA (vp_updL f 0 (tollG (sl ((X 0)) v0.toNatClampNeg) (X 0) (wI false) : Int32).toInt64))] ++ cw kA ad X)) H := Pcg (by simp only [if_pos hT, if_pos hT2]) hP
          have hD : va_D (fun q => s.heap.size ≤ q) ([(m0, .inr (6, [.ref m1, .int (nI w), .ref m2, .int (nI n0), .ref m3, .int (axT v0), .int (-1), .ref m4, .int rd, .int nu, .int du, .ref m5, .long hs])), (m1, .inl (kA 0, 148, .inl z)), (m2, .inl (kA 0, 888, .inl h)), (m3, .inl (kA 0, 60, .inl tx)), (m4, .inl (kA 0, 72, .inl pt)), (m5, .inl (kA 0, 148, .inl kp))] ++ ([(o, oO kA (vp_updL f 0 (tollG (sl ((X 0)) v0.toNatClampNeg) (X 0) (wI false) : Int32).toInt64))] ++ cw kA ad X)) := Dcg (by simp only [if_pos hT, if_pos hT2]) hD
          refine W_top (v' := .int (tollG (sl z v0.toNatClampNeg) z (wI false))) (congrArg Value.int (if_pos hT2)) ?_
          refine lv_istore (lv' := [(6, .int (tollG (sl z v0.toNatClampNeg) z (wI false))), (5, .int (axT v0)), (0, .ref b), (1, .ref (ad 0)), (2, .ref m0), (3, .ref o), (4, .int (nI i))]) hx hb dL_law_1133 hl (by decide) rfl (fun ls hl => ?_)
          refine lv_aload_n hx hb dL_law_1135 rfl (lv_at hl 4 rfl) ?_
          refine cs_p (runV (As := []) (rest := []) ⟨hx, hb, hml, hown, hts⟩ (m_X6_thrown l D kA m0 m1 m2 m3 m4 m5 z h tx pt kp (nI w) (nI n0) (axT v0) (-1) rd nu du hs) q_810 q_811 q_812 q_7 q_813 hd_X6_thrown ⟨rfl, rfl⟩ ⟨Nat.le_of_ble_eq_true rfl, Nat.le_of_ble_eq_true rfl⟩ hK hP.l hD.lf 0 (ci := 6) (C := RX6) (T := TX6) (N := 13) rfl rfl rfl hl.1 rfl (Nat.le_of_ble_eq_true rfl) dL_law_1136 ⟨hroom.1, hroom.2⟩) ?_
          refine lv_iload hx hb dL_law_1139 (lv_at hl 1 rfl) ?_
          refine lv_icmp_eq (tgt := 1146) hx hb dL_law_1141 (by decide) (fun c9 => ?_) (fun c9 => absurd (eT.symm) c9)
          refine lv_iload hx hb dL_law_1146 (lv_at hl 1 rfl) ?_
          refine lv_if_ne (tgt := 1163) hx hb dL_law_1148 (by decide) (fun c8 => absurd hT c8) (fun c8 => ?_)
          refine lv_aload_n hx hb dL_law_1151 rfl (lv_at hl 5 rfl) ?_
          refine lv_iconst (v := 0) hx hb dL_law_1152 (by decide) ?_
          refine va_lald hx hb hK hP 6 3 rfl rfl (in_nI (j := 0) rfl (by omega) (by decide)) dL_law_1153 ?_
          refine W_top (v' := .long (tollG (sl ((X 0)) v0.toNatClampNeg) (X 0) (wI false) : Int32).toInt64) rfl ?_
          refine lv_iload hx hb dL_law_1154 (lv_at hl 0 rfl) ?_
          refine lv_i2l (v := (tollG (sl z v0.toNatClampNeg) z (wI false) : Int32).toInt64) hx hb dL_law_1156 rfl ?_
          refine W.lcmp hx hb dL_law_1157 ?_
          have eV : (tollG (sl ((X 0)) v0.toNatClampNeg) (X 0) (wI false) : Int32) = (tollG (sl z v0.toNatClampNeg) z (wI false)) := by rw [hXz]
          refine lv_if_eq (tgt := 1163) hx hb dL_law_1158 (by decide) (fun c7 => ?_) (fun c7 => absurd ((lg_cmp_eq _ _).mpr (congrArg Int32.toInt64 eV)) c7)
          refine lv_goto (tgt := 1677) hx hb dL_law_1163 (by decide) ?_
          exact K _ _ _ _ _ _ _ _ _ _ _ _ _ _ _ _ _ _ (by exact rel_mono hR2 (by omega)) hP hD hS (lv_sub hl [2, 3, 4, 5, 6] rfl)
        · have hT2 : ¬ (axT v0) = 0 := fun q9 => hT (eT.trans q9)
          have hP : va_P D vwCl ([(m0, .inr (6, [.ref m1, .int (nI w), .ref m2, .int (nI n0), .ref m3, .int (axT v0), .int (-1), .ref m4, .int rd, .int nu, .int du, .ref m5, .long hs])), (m1, .inl (kA 0, 148, .inl z)), (m2, .inl (kA 0, 888, .inl h)), (m3, .inl (kA 0, 60, .inl tx)), (m4, .inl (kA 0, 72, .inl pt)), (m5, .inl (kA 0, 148, .inl kp))] ++ ([(o, oO kA (f))] ++ cw kA ad X)) H := Pcg (by simp only [if_neg hT, if_neg hT2]) hP
          have hD : va_D (fun q => s.heap.size ≤ q) ([(m0, .inr (6, [.ref m1, .int (nI w), .ref m2, .int (nI n0), .ref m3, .int (axT v0), .int (-1), .ref m4, .int rd, .int nu, .int du, .ref m5, .long hs])), (m1, .inl (kA 0, 148, .inl z)), (m2, .inl (kA 0, 888, .inl h)), (m3, .inl (kA 0, 60, .inl tx)), (m4, .inl (kA 0, 72, .inl pt)), (m5, .inl (kA 0, 148, .inl kp))] ++ ([(o, oO kA (f))] ++ cw kA ad X)) := Dcg (by simp only [if_neg hT, if_neg hT2]) hD
          refine W_top (v' := .int (0)) (congrArg Value.int (if_neg hT2)) ?_
          refine lv_istore (lv' := [(6, .int (0)), (5, .int (axT v0)), (0, .ref b), (1, .ref (ad 0)), (2, .ref m0), (3, .ref o), (4, .int (nI i))]) hx hb dL_law_1133 hl (by decide) rfl (fun ls hl => ?_)
          refine lv_aload_n hx hb dL_law_1135 rfl (lv_at hl 4 rfl) ?_
          refine cs_p (runV (As := []) (rest := []) ⟨hx, hb, hml, hown, hts⟩ (m_X6_thrown l D kA m0 m1 m2 m3 m4 m5 z h tx pt kp (nI w) (nI n0) (axT v0) (-1) rd nu du hs) q_810 q_811 q_812 q_7 q_813 hd_X6_thrown ⟨rfl, rfl⟩ ⟨Nat.le_of_ble_eq_true rfl, Nat.le_of_ble_eq_true rfl⟩ hK hP.l hD.lf 0 (ci := 6) (C := RX6) (T := TX6) (N := 13) rfl rfl rfl hl.1 rfl (Nat.le_of_ble_eq_true rfl) dL_law_1136 ⟨hroom.1, hroom.2⟩) ?_
          refine lv_iload hx hb dL_law_1139 (lv_at hl 1 rfl) ?_
          refine lv_icmp_eq (tgt := 1146) hx hb dL_law_1141 (by decide) (fun c9 => ?_) (fun c9 => absurd (eT.symm) c9)
          refine lv_iload hx hb dL_law_1146 (lv_at hl 1 rfl) ?_
          refine lv_if_ne (tgt := 1163) hx hb dL_law_1148 (by decide) (fun c8 => ?_) (fun c8 => absurd c8 hT)
          refine lv_goto (tgt := 1677) hx hb dL_law_1163 (by decide) ?_
          exact K _ _ _ _ _ _ _ _ _ _ _ _ _ _ _ _ _ _ (by exact rel_mono hR2 (by omega)) hP hD hS (lv_sub hl [2, 3, 4, 5, 6] rfl)
  · skip
    refine lv_aload_n hx hb dL_law_1082 rfl (lv_at hl 1 rfl) ?_
    refine lv_aload_n hx hb dL_law_1083 rfl (lv_at hl 0 rfl) ?_
    refine lv_iload hx hb dL_law_1084 (lv_at hl 4 rfl) ?_
    refine lv_iconst (v := 1) hx hb dL_law_1086 (by decide) ?_
    refine lv_iadd hx hb dL_law_1087 ?_
    refine W_top (v' := .int (nI (i + 1))) (congrArg Value.int (nI_add i 1)) ?_
    refine va_sld hx hb hXb hbl (Nat.not_le.mpr hbl) hS (in_nI (j := i + 1) rfl (by omega) (by omega)) dL_law_1088 ?_
    refine W_top (v' := .int v0) (congrArg Value.int hv0) ?_
    refine lv_aload_n hx hb dL_law_1089 rfl (lv_at hl 0 rfl) ?_
    refine lv_iload hx hb dL_law_1090 (lv_at hl 4 rfl) ?_
    refine lv_iconst (v := 2) hx hb dL_law_1092 (by decide) ?_
    refine lv_iadd hx hb dL_law_1093 ?_
    refine W_top (v' := .int (nI (i + 2))) (congrArg Value.int (nI_add i 2)) ?_
    refine va_sld hx hb hXb hbl (Nat.not_le.mpr hbl) hS (in_nI (j := i + 2) rfl (by omega) (by omega)) dL_law_1094 ?_
    refine W_top (v' := .int v1) (congrArg Value.int hv1) ?_
    refine lv_if_eq (tgt := 1102) hx hb dL_law_1095 (by decide) (fun c9 => ?_) (fun c9 => ?_)
    · exact absurd c9 hbz
    · skip
      refine lv_iconst (v := 1) hx hb dL_law_1098 (by decide) ?_
      refine lv_goto (tgt := 1103) hx hb dL_law_1099 (by decide) ?_
      refine lv_aload_n hx hb dL_law_1103 rfl (lv_at hl 3 rfl) ?_
      have hXH : XW (Aw (cw kA ad X)) s H := (hX0.kept hS.2.1).narrow (fun q9 h9 => aw_D hD.rt.rt q9 h9)
      refine cs_fk (wrunS (As := [.ref (ad 0), .int v0, .int (bI true), .ref o]) (rest := []) ⟨hx, hb, hml, hown, hts⟩ (w_toll l D kA ad X v0 true o f  hnt) q_714 q_715 q_0 q_716 hdw_toll ⟨rfl, rfl⟩ ⟨Nat.le_of_ble_eq_true rfl, Nat.le_of_ble_eq_true rfl⟩ hK hP.r hD.rt hXH hLW rfl hl.1 rfl (Nat.le_of_ble_eq_true rfl) dL_law_1104 ⟨hroom.1, hroom.2⟩) hS (aw_D hD.rt) (fun H locs hP1 hk1 hS => ?_)
      obtain ⟨hP, hD⟩ := jR hP hD hk1 hP1 lw_fst
      clear hP1 hk1 hXH
      refine lv_istore (lv' := [(5, .int (axT v0)), (0, .ref b), (1, .ref (ad 0)), (2, .ref m0), (3, .ref o), (4, .int (nI i))]) hx hb dL_law_1107 hl (by decide) rfl (fun ls hl => ?_)
      refine lv_aload_n hx hb dL_law_1109 rfl (lv_at hl 3 rfl) ?_
      refine lv_aload_n hx hb dL_law_1110 rfl (lv_at hl 1 rfl) ?_
      refine lv_iload hx hb dL_law_1111 (lv_at hl 5 rfl) ?_
      refine lv_iconst (v := 1) hx hb dL_law_1113 (by decide) ?_
      refine lv_iadd hx hb dL_law_1114 ?_
      refine W_top (v' := .int (nI (i + 1))) (congrArg Value.int (nI_add i 1)) ?_
      refine va_sld hx hb hXb hbl (Nat.not_le.mpr hbl) hS (in_nI (j := i + 1) rfl (by omega) (by omega)) dL_law_1115 ?_
      refine W_top (v' := .int v0) (congrArg Value.int hv0) ?_
      refine lv_aload_n hx hb dL_law_1116 rfl (lv_at hl 1 rfl) ?_
      refine lv_iload hx hb dL_law_1117 (lv_at hl 5 rfl) ?_
      refine lv_iconst (v := 2) hx hb dL_law_1119 (by decide) ?_
      refine lv_iadd hx hb dL_law_1120 ?_
      refine W_top (v' := .int (nI (i + 2))) (congrArg Value.int (nI_add i 2)) ?_
      refine va_sld hx hb hXb hbl (Nat.not_le.mpr hbl) hS (in_nI (j := i + 2) rfl (by omega) (by omega)) dL_law_1121 ?_
      refine W_top (v' := .int v1) (congrArg Value.int hv1) ?_
      refine lv_if_eq (tgt := 1129) hx hb dL_law_1122 (by decide) (fun c9 => ?_) (fun c9 => ?_)
      · exact absurd c9 hbz
      · skip
        refine lv_iconst (v := 1) hx hb dL_law_1125 (by decide) ?_
        refine lv_goto (tgt := 1130) hx hb dL_law_1126 (by decide) ?_
        have eT : (axT v0) = (axT v0) := rfl
        refine cs_fs (runV (As := [.int v0, .int (bI true)]) (rest := []) ⟨hx, hb, hml, hown, hts⟩ (m_X6_toll l D kA m0 m1 m2 m3 m4 m5 z h tx pt kp (nI w) (nI n0) th (-1) rd nu du hs v0 true hI) q_1031 q_1032 q_1033 q_7 q_1034 hd_X6_toll ⟨rfl, rfl⟩ ⟨Nat.le_of_ble_eq_true rfl, Nat.le_of_ble_eq_true rfl⟩ hK hP.l hD.lf 0 (ci := 6) (C := RX6) (T := TX6) (N := 13) rfl rfl rfl hl.1 rfl (Nat.le_of_ble_eq_true rfl) dL_law_1130 ⟨hroom.1, hroom.2⟩) hS (aw_D hD.lf) (fun H locs hP1 hk1 hS => ?_)
        obtain ⟨hP, hD⟩ := jL hP hD hk1 hP1 rfl
        clear hP1 hk1
        by_cases hT : (axT v0) = 0
        · have hT2 : (axT v0) = 0 := eT.symm.trans hT
          have hP : va_P D vwCl ([(m0, .inr (6, [.ref m1, .int (nI w), .ref m2, .int (nI n0), .ref m3, .int (axT v0), .int (-1), .ref m4, .int rd, .int nu, .int du, .ref m5, .long hs])), (m1, .inl (kA 0, 148, .inl z)), (m2, .inl (kA 0, 888, .inl h)), (m3, .inl (kA 0, 60, .inl tx)), (m4, .inl (kA 0, 72, .inl pt)), (m5, .inl (kA 0, 148, .inl kp))] ++ ([(o, oO kA (vp_updL f 0 (tollG (sl ((X 0)) v0.toNatClampNeg) (X 0) (wI true) : Int32).toInt64))] ++ cw kA ad X)) H := Pcg (by simp only [if_pos hT, if_pos hT2]) hP
          have hD : va_D (fun q => s.heap.size ≤ q) ([(m0, .inr (6, [.ref m1, .int (nI w), .ref m2, .int (nI n0), .ref m3, .int (axT v0), .int (-1), .ref m4, .int rd, .int nu, .int du, .ref m5, .long hs])), (m1, .inl (kA 0, 148, .inl z)), (m2, .inl (kA 0, 888, .inl h)), (m3, .inl (kA 0, 60, .inl tx)), (m4, .inl (kA 0, 72, .inl pt)), (m5, .inl (kA 0, 148, .inl kp))] ++ ([(o, oO kA (vp_updL f 0 (tollG (sl ((X 0)) v0.toNatClampNeg) (X 0) (wI true) : Int32).toInt64))] ++ cw kA ad X)) := Dcg (by simp only [if_pos hT, if_pos hT2]) hD
          refine W_top (v' := .int (tollG (sl z v0.toNatClampNeg) z (wI true))) (congrArg Value.int (if_pos hT2)) ?_
          refine lv_istore (lv' := [(6, .int (tollG (sl z v0.toNatClampNeg) z (wI true))), (5, .int (axT v0)), (0, .ref b), (1, .ref (ad 0)), (2, .ref m0), (3, .ref o), (4, .int (nI i))]) hx hb dL_law_1133 hl (by decide) rfl (fun ls hl => ?_)
          refine lv_aload_n hx hb dL_law_1135 rfl (lv_at hl 4 rfl) ?_
          refine cs_p (runV (As := []) (rest := []) ⟨hx, hb, hml, hown, hts⟩ (m_X6_thrown l D kA m0 m1 m2 m3 m4 m5 z h tx pt kp (nI w) (nI n0) (axT v0) (-1) rd nu du hs) q_810 q_811 q_812 q_7 q_813 hd_X6_thrown ⟨rfl, rfl⟩ ⟨Nat.le_of_ble_eq_true rfl, Nat.le_of_ble_eq_true rfl⟩ hK hP.l hD.lf 0 (ci := 6) (C := RX6) (T := TX6) (N := 13) rfl rfl rfl hl.1 rfl (Nat.le_of_ble_eq_true rfl) dL_law_1136 ⟨hroom.1, hroom.2⟩) ?_
          refine lv_iload hx hb dL_law_1139 (lv_at hl 1 rfl) ?_
          refine lv_icmp_eq (tgt := 1146) hx hb dL_law_1141 (by decide) (fun c9 => ?_) (fun c9 => absurd (eT.symm) c9)
          refine lv_iload hx hb dL_law_1146 (lv_at hl 1 rfl) ?_
          refine lv_if_ne (tgt := 1163) hx hb dL_law_1148 (by decide) (fun c8 => absurd hT c8) (fun c8 => ?_)
          refine lv_aload_n hx hb dL_law_1151 rfl (lv_at hl 5 rfl) ?_
          refine lv_iconst (v := 0) hx hb dL_law_1152 (by decide) ?_
          refine va_lald hx hb hK hP 6 3 rfl rfl (in_nI (j := 0) rfl (by omega) (by decide)) dL_law_1153 ?_
          refine W_top (v' := .long (tollG (sl ((X 0)) v0.toNatClampNeg) (X 0) (wI true) : Int32).toInt64) rfl ?_
          refine lv_iload hx hb dL_law_1154 (lv_at hl 0 rfl) ?_
          refine lv_i2l (v := (tollG (sl z v0.toNatClampNeg) z (wI true) : Int32).toInt64) hx hb dL_law_1156 rfl ?_
          refine W.lcmp hx hb dL_law_1157 ?_
          have eV : (tollG (sl ((X 0)) v0.toNatClampNeg) (X 0) (wI true) : Int32) = (tollG (sl z v0.toNatClampNeg) z (wI true)) := by rw [hXz]
          refine lv_if_eq (tgt := 1163) hx hb dL_law_1158 (by decide) (fun c7 => ?_) (fun c7 => absurd ((lg_cmp_eq _ _).mpr (congrArg Int32.toInt64 eV)) c7)
          refine lv_goto (tgt := 1677) hx hb dL_law_1163 (by decide) ?_
          exact K _ _ _ _ _ _ _ _ _ _ _ _ _ _ _ _ _ _ (by exact rel_mono hR2 (by omega)) hP hD hS (lv_sub hl [2, 3, 4, 5, 6] rfl)
        · have hT2 : ¬ (axT v0) = 0 := fun q9 => hT (eT.trans q9)
          have hP : va_P D vwCl ([(m0, .inr (6, [.ref m1, .int (nI w), .ref m2, .int (nI n0), .ref m3, .int (axT v0), .int (-1), .ref m4, .int rd, .int nu, .int du, .ref m5, .long hs])), (m1, .inl (kA 0, 148, .inl z)), (m2, .inl (kA 0, 888, .inl h)), (m3, .inl (kA 0, 60, .inl tx)), (m4, .inl (kA 0, 72, .inl pt)), (m5, .inl (kA 0, 148, .inl kp))] ++ ([(o, oO kA (f))] ++ cw kA ad X)) H := Pcg (by simp only [if_neg hT, if_neg hT2]) hP
          have hD : va_D (fun q => s.heap.size ≤ q) ([(m0, .inr (6, [.ref m1, .int (nI w), .ref m2, .int (nI n0), .ref m3, .int (axT v0), .int (-1), .ref m4, .int rd, .int nu, .int du, .ref m5, .long hs])), (m1, .inl (kA 0, 148, .inl z)), (m2, .inl (kA 0, 888, .inl h)), (m3, .inl (kA 0, 60, .inl tx)), (m4, .inl (kA 0, 72, .inl pt)), (m5, .inl (kA 0, 148, .inl kp))] ++ ([(o, oO kA (f))] ++ cw kA ad X)) := Dcg (by simp only [if_neg hT, if_neg hT2]) hD
          refine W_top (v' := .int (0)) (congrArg Value.int (if_neg hT2)) ?_
          refine lv_istore (lv' := [(6, .int (0)), (5, .int (axT v0)), (0, .ref b), (1, .ref (ad 0)), (2, .ref m0), (3, .ref o), (4, .int (nI i))]) hx hb dL_law_1133 hl (by decide) rfl (fun ls hl => ?_)
          refine lv_aload_n hx hb dL_law_1135 rfl (lv_at hl 4 rfl) ?_
          refine cs_p (runV (As := []) (rest := []) ⟨hx, hb, hml, hown, hts⟩ (m_X6_thrown l D kA m0 m1 m2 m3 m4 m5 z h tx pt kp (nI w) (nI n0) (axT v0) (-1) rd nu du hs) q_810 q_811 q_812 q_7 q_813 hd_X6_thrown ⟨rfl, rfl⟩ ⟨Nat.le_of_ble_eq_true rfl, Nat.le_of_ble_eq_true rfl⟩ hK hP.l hD.lf 0 (ci := 6) (C := RX6) (T := TX6) (N := 13) rfl rfl rfl hl.1 rfl (Nat.le_of_ble_eq_true rfl) dL_law_1136 ⟨hroom.1, hroom.2⟩) ?_
          refine lv_iload hx hb dL_law_1139 (lv_at hl 1 rfl) ?_
          refine lv_icmp_eq (tgt := 1146) hx hb dL_law_1141 (by decide) (fun c9 => ?_) (fun c9 => absurd (eT.symm) c9)
          refine lv_iload hx hb dL_law_1146 (lv_at hl 1 rfl) ?_
          refine lv_if_ne (tgt := 1163) hx hb dL_law_1148 (by decide) (fun c8 => ?_) (fun c8 => absurd c8 hT)
          refine lv_goto (tgt := 1677) hx hb dL_law_1163 (by decide) ?_
          exact K _ _ _ _ _ _ _ _ _ _ _ _ _ _ _ _ _ _ (by exact rel_mono hR2 (by omega)) hP hD hS (lv_sub hl [2, 3, 4, 5, 6] rfl)

set_option maxRecDepth 100000 in
set_option maxHeartbeats 4000000 in
theorem k_slips {p : Program} {l : Launch} {e : Env} {s : State} {m : MethodId} {below : List Frame} {meth : Method} {c : Code} {Q : State → Prop} {D : va_G} {kA ad : Nat → Nat} {m0 m1 m2 m3 m4 m5 o b L i N cells slots : Nat} {xs : Nat → Int32} (C0 : LC l p s m meth c D kA b L xs) {X : Nat → Nat → Int32} {z h tx pt kp : Nat → Int32} {w n0 r : Nat} {th rd nu du : Int32} {hs : Int64} {f : Nat → Int64} {H : Heap} {locs : List Loc} {ls : Array Slot} (hR2 : REL X z h tx w n0 r N) (hN : N + 1000 ≤ 600000) (hi : i + 4 ≤ L) (hL : L ≤ 2048) (hP : va_P D vwCl (LWd kA ad m0 m1 m2 m3 m4 m5 o X z h tx pt kp w n0 th rd nu du hs f) H) (hD : va_D (fun q => s.heap.size ≤ q) (LWd kA ad m0 m1 m2 m3 m4 m5 o X z h tx pt kp w n0 th rd nu du hs f)) (hS : va_S (fun q => s.heap.size ≤ q) s.heap H locs) (hl : lv_has ls 9 (lB ad b m0 o i)) (hroom : cells + 1 ≤ 601024 ∧ slots + 6 ≤ 7293034) (K : KT p l e s m below meth c Q D kA ad m0 m1 m2 m3 m4 m5 o b i (N + 1000) (cells + 1) (slots + 6)) : W p l e room_1 s m #[Value.ref b] below meth c H locs cells slots Q (F0 m 1166 ls []) := by
  obtain ⟨hx, hb, hml, hown, hts, hK, hXb, hbl, hX0, hLW, hnt⟩ := C0
  obtain ⟨hXz, hI, hC, hw6, hr6, h80, h81, h82, hN3, hTB, hring⟩ := id hR2
  have hn60 := hTB.1
  have hl : lv_has ls 9 [(0, .ref b), (1, .ref (ad 0)), (2, .ref m0), (3, .ref o), (4, .int (nI i))] := hl
  have hP : va_P D vwCl (mL kA m0 m1 m2 m3 m4 m5 z h tx pt kp (nI w) (nI n0) th (-1) rd nu du hs ++ ([(o, oO kA f)] ++ cw kA ad X)) H := hP
  have hD : va_D (fun q => s.heap.size ≤ q) (mL kA m0 m1 m2 m3 m4 m5 z h tx pt kp (nI w) (nI n0) th (-1) rd nu du hs ++ ([(o, oO kA f)] ++ cw kA ad X)) := hD
  obtain ⟨v0, hv0⟩ : ∃ y, xs (nI (i + 1)).toNatClampNeg = y := ⟨_, rfl⟩
  obtain ⟨v1, hv1⟩ : ∃ y, xs (nI (i + 2)).toNatClampNeg = y := ⟨_, rfl⟩
  by_cases hbz : v1 = 0
  · skip
    refine lv_aload_n hx hb dL_law_1166 rfl (lv_at hl 1 rfl) ?_
    refine lv_aload_n hx hb dL_law_1167 rfl (lv_at hl 0 rfl) ?_
    refine lv_iload hx hb dL_law_1168 (lv_at hl 4 rfl) ?_
    refine lv_iconst (v := 1) hx hb dL_law_1170 (by decide) ?_
    refine lv_iadd hx hb dL_law_1171 ?_
    refine W_top (v' := .int (nI (i + 1))) (congrArg Value.int (nI_add i 1)) ?_
    refine va_sld hx hb hXb hbl (Nat.not_le.mpr hbl) hS (in_nI (j := i + 1) rfl (by omega) (by omega)) dL_law_1172 ?_
    refine W_top (v' := .int v0) (congrArg Value.int hv0) ?_
    refine lv_aload_n hx hb dL_law_1173 rfl (lv_at hl 0 rfl) ?_
    refine lv_iload hx hb dL_law_1174 (lv_at hl 4 rfl) ?_
    refine lv_iconst (v := 2) hx hb dL_law_1176 (by decide) ?_
    refine lv_iadd hx hb dL_law_1177 ?_
    refine W_top (v' := .int (nI (i + 2))) (congrArg Value.int (nI_add i 2)) ?_
    refine va_sld hx hb hXb hbl (Nat.not_le.mpr hbl) hS (in_nI (j := i + 2) rfl (by omega) (by omega)) dL_law_1178 ?_
    refine W_top (v' := .int v1) (congrArg Value.int hv1) ?_
    refine lv_if_eq (tgt := 1186) hx hb dL_law_1179 (by decide) (fun c9 => ?_) (fun c9 => ?_)
    rotate_left
    · exact absurd hbz c9
    · skip
      refine lv_iconst (v := 0) hx hb dL_law_1186 (by decide) ?_
      refine lv_aload_n hx hb dL_law_1187 rfl (lv_at hl 3 rfl) ?_
      have hXH : XW (Aw (cw kA ad X)) s H := (hX0.kept hS.2.1).narrow (fun q9 h9 => aw_D hD.rt.rt q9 h9)
      refine cs_fk (wrunS (As := [.ref (ad 0), .int v0, .int (bI false), .ref o]) (rest := []) ⟨hx, hb, hml, hown, hts⟩ (w_slips l D kA ad X v0 false o f  hnt) q_721 q_722 q_0 q_723 hdw_slips ⟨rfl, rfl⟩ ⟨Nat.le_of_ble_eq_true rfl, Nat.le_of_ble_eq_true rfl⟩ hK hP.r hD.rt hXH hLW rfl hl.1 rfl (Nat.le_of_ble_eq_true rfl) dL_law_1188 ⟨hroom.1, hroom.2⟩) hS (aw_D hD.rt) (fun H locs hP1 hk1 hS => ?_)
      obtain ⟨hP, hD⟩ := jR hP hD hk1 hP1 lw_fst
      clear hP1 hk1 hXH
      refine lv_istore (lv' := [(5, .int (axT v0)), (0, .ref b), (1, .ref (ad 0)), (2, .ref m0), (3, .ref o), (4, .int (nI i))]) hx hb dL_law_1191 hl (by decide) rfl (fun ls hl => ?_)
      refine lv_aload_n hx hb dL_law_1193 rfl (lv_at hl 3 rfl) ?_
      refine lv_aload_n hx hb dL_law_1194 rfl (lv_at hl 1 rfl) ?_
      refine lv_iload hx hb dL_law_1195 (lv_at hl 5 rfl) ?_
      refine lv_iconst (v := 1) hx hb dL_law_1197 (by decide) ?_
      refine lv_iadd hx hb dL_law_1198 ?_
      refine W_top (v' := .int (nI (i + 1))) (congrArg Value.int (nI_add i 1)) ?_
      refine va_sld hx hb hXb hbl (Nat.not_le.mpr hbl) hS (in_nI (j := i + 1) rfl (by omega) (by omega)) dL_law_1199 ?_
      refine W_top (v' := .int v0) (congrArg Value.int hv0) ?_
      refine lv_aload_n hx hb dL_law_1200 rfl (lv_at hl 1 rfl) ?_
      refine lv_iload hx hb dL_law_1201 (lv_at hl 5 rfl) ?_
      refine lv_iconst (v := 2) hx hb dL_law_1203 (by decide) ?_
      refine lv_iadd hx hb dL_law_1204 ?_
      refine W_top (v' := .int (nI (i + 2))) (congrArg Value.int (nI_add i 2)) ?_
      refine va_sld hx hb hXb hbl (Nat.not_le.mpr hbl) hS (in_nI (j := i + 2) rfl (by omega) (by omega)) dL_law_1205 ?_
      refine W_top (v' := .int v1) (congrArg Value.int hv1) ?_
      refine lv_if_eq (tgt := 1213) hx hb dL_law_1206 (by decide) (fun c9 => ?_) (fun c9 => ?_)
      rotate_left
      · exact absurd hbz c9
      · skip
        refine lv_iconst (v := 0) hx hb dL_law_1213 (by decide) ?_
        have eT : (axT v0) = (axT v0) := rfl
        refine cs_fs (runV (As := [.int v0, .int (bI false)]) (rest := []) ⟨hx, hb, hml, hown, hts⟩ (m_X6_slips l D kA m0 m1 m2 m3 m4 m5 z h tx pt kp (nI w) (nI n0) th (-1) rd nu du hs v0 false hI) q_1035 q_1036 q_1037 q_7 q_1038 hd_X6_slips ⟨rfl, rfl⟩ ⟨Nat.le_of_ble_eq_true rfl, Nat.le_of_ble_eq_true rfl⟩ hK hP.l hD.lf 0 (ci := 6) (C := RX6) (T := TX6) (N := 13) rfl rfl rfl hl.1 rfl (Nat.le_of_ble_eq_true rfl) dL_law_1214 ⟨hroom.1, hroom.2⟩) hS (aw_D hD.lf) (fun H locs hP1 hk1 hS => ?_)
        obtain ⟨hP, hD⟩ := jL hP hD hk1 hP1 rfl
        clear hP1 hk1
        by_cases hT : (axT v0) = 0
        · have hT2 : (axT v0) = 0 := eT.symm.trans hT
          have hP : va_P D vwCl ([(m0, .inr (6, [.ref m1, .int (nI w), .ref m2, .int (nI n0), .ref m3, .int (axT v0), .int (-1), .ref m4, .int rd, .int nu, .int du, .ref m5, .long hs])), (m1, .inl (kA 0, 148, .inl z)), (m2, .inl (kA 0, 888, .inl h)), (m3, .inl (kA 0, 60, .inl tx)), (m4, .inl (kA 0, 72, .inl pt)), (m5, .inl (kA 0, 148, .inl kp))] ++ ([(o, oO kA (vp_updL f 0 (tsF (X 0) v0.toNatClampNeg (wI false) : Int32).toInt64))] ++ cw kA ad X)) H := Pcg (by simp only [if_pos hT, if_pos hT2]) hP
          have hD : va_D (fun q => s.heap.size ≤ q) ([(m0, .inr (6, [.ref m1, .int (nI w), .ref m2, .int (nI n0), .ref m3, .int (axT v0), .int (-1), .ref m4, .int rd, .int nu, .int du, .ref m5, .long hs])), (m1, .inl (kA 0, 148, .inl z)), (m2, .inl (kA 0, 888, .inl h)), (m3, .inl (kA 0, 60, .inl tx)), (m4, .inl (kA 0, 72, .inl pt)), (m5, .inl (kA 0, 148, .inl kp))] ++ ([(o, oO kA (vp_updL f 0 (tsF (X 0) v0.toNatClampNeg (wI false) : Int32).toInt64))] ++ cw kA ad X)) := Dcg (by simp only [if_pos hT, if_pos hT2]) hD
          refine W_top (v' := .int (tsF z v0.toNatClampNeg (wI false))) (congrArg Value.int (if_pos hT2)) ?_
          refine lv_istore (lv' := [(6, .int (tsF z v0.toNatClampNeg (wI false))), (5, .int (axT v0)), (0, .ref b), (1, .ref (ad 0)), (2, .ref m0), (3, .ref o), (4, .int (nI i))]) hx hb dL_law_1217 hl (by decide) rfl (fun ls hl => ?_)
          refine lv_aload_n hx hb dL_law_1219 rfl (lv_at hl 4 rfl) ?_
          refine cs_p (runV (As := []) (rest := []) ⟨hx, hb, hml, hown, hts⟩ (m_X6_thrown l D kA m0 m1 m2 m3 m4 m5 z h tx pt kp (nI w) (nI n0) (axT v0) (-1) rd nu du hs) q_810 q_811 q_812 q_7 q_813 hd_X6_thrown ⟨rfl, rfl⟩ ⟨Nat.le_of_ble_eq_true rfl, Nat.le_of_ble_eq_true rfl⟩ hK hP.l hD.lf 0 (ci := 6) (C := RX6) (T := TX6) (N := 13) rfl rfl rfl hl.1 rfl (Nat.le_of_ble_eq_true rfl) dL_law_1220 ⟨hroom.1, hroom.2⟩) ?_
          refine lv_iload hx hb dL_law_1223 (lv_at hl 1 rfl) ?_
          refine lv_icmp_eq (tgt := 1230) hx hb dL_law_1225 (by decide) (fun c9 => ?_) (fun c9 => absurd (eT.symm) c9)
          refine lv_iload hx hb dL_law_1230 (lv_at hl 1 rfl) ?_
          refine lv_if_ne (tgt := 1247) hx hb dL_law_1232 (by decide) (fun c8 => absurd hT c8) (fun c8 => ?_)
          refine lv_aload_n hx hb dL_law_1235 rfl (lv_at hl 5 rfl) ?_
          refine lv_iconst (v := 0) hx hb dL_law_1236 (by decide) ?_
          refine va_lald hx hb hK hP 6 3 rfl rfl (in_nI (j := 0) rfl (by omega) (by decide)) dL_law_1237 ?_
          refine W_top (v' := .long (tsF (X 0) v0.toNatClampNeg (wI false) : Int32).toInt64) rfl ?_
          refine lv_iload hx hb dL_law_1238 (lv_at hl 0 rfl) ?_
          refine lv_i2l (v := (tsF z v0.toNatClampNeg (wI false) : Int32).toInt64) hx hb dL_law_1240 rfl ?_
          refine W.lcmp hx hb dL_law_1241 ?_
          have eV : (tsF (X 0) v0.toNatClampNeg (wI false) : Int32) = (tsF z v0.toNatClampNeg (wI false)) := by rw [hXz]
          refine lv_if_eq (tgt := 1247) hx hb dL_law_1242 (by decide) (fun c7 => ?_) (fun c7 => absurd ((lg_cmp_eq _ _).mpr (congrArg Int32.toInt64 eV)) c7)
          refine lv_goto (tgt := 1677) hx hb dL_law_1247 (by decide) ?_
          exact K _ _ _ _ _ _ _ _ _ _ _ _ _ _ _ _ _ _ (by exact rel_mono hR2 (by omega)) hP hD hS (lv_sub hl [2, 3, 4, 5, 6] rfl)
        · have hT2 : ¬ (axT v0) = 0 := fun q9 => hT (eT.trans q9)
          have hP : va_P D vwCl ([(m0, .inr (6, [.ref m1, .int (nI w), .ref m2, .int (nI n0), .ref m3, .int (axT v0), .int (-1), .ref m4, .int rd, .int nu, .int du, .ref m5, .long hs])), (m1, .inl (kA 0, 148, .inl z)), (m2, .inl (kA 0, 888, .inl h)), (m3, .inl (kA 0, 60, .inl tx)), (m4, .inl (kA 0, 72, .inl pt)), (m5, .inl (kA 0, 148, .inl kp))] ++ ([(o, oO kA (f))] ++ cw kA ad X)) H := Pcg (by simp only [if_neg hT, if_neg hT2]) hP
          have hD : va_D (fun q => s.heap.size ≤ q) ([(m0, .inr (6, [.ref m1, .int (nI w), .ref m2, .int (nI n0), .ref m3, .int (axT v0), .int (-1), .ref m4, .int rd, .int nu, .int du, .ref m5, .long hs])), (m1, .inl (kA 0, 148, .inl z)), (m2, .inl (kA 0, 888, .inl h)), (m3, .inl (kA 0, 60, .inl tx)), (m4, .inl (kA 0, 72, .inl pt)), (m5, .inl (kA 0, 148, .inl kp))] ++ ([(o, oO kA (f))] ++ cw kA ad X)) := Dcg (by simp only [if_neg hT, if_neg hT2]) hD
          refine W_top (v' := .int (0)) (congrArg Value.int (if_neg hT2)) ?_
          refine lv_istore (lv' := [(6, .int (0)), (5, .int (axT v0)), (0, .ref b), (1, .ref (ad 0)), (2, .ref m0), (3, .ref o), (4, .int (nI i))]) hx hb dL_law_1217 hl (by decide) rfl (fun ls hl => ?_)
          refine lv_aload_n hx hb dL_law_1219 rfl (lv_at hl 4 rfl) ?_
          refine cs_p (runV (As := []) (rest := []) ⟨hx, hb, hml, hown, hts⟩ (m_X6_thrown l D kA m0 m1 m2 m3 m4 m5 z h tx pt kp (nI w) (nI n0) (axT v0) (-1) rd nu du hs) q_810 q_811 q_812 q_7 q_813 hd_X6_thrown ⟨rfl, rfl⟩ ⟨Nat.le_of_ble_eq_true rfl, Nat.le_of_ble_eq_true rfl⟩ hK hP.l hD.lf 0 (ci := 6) (C := RX6) (T := TX6) (N := 13) rfl rfl rfl hl.1 rfl (Nat.le_of_ble_eq_true rfl) dL_law_1220 ⟨hroom.1, hroom.2⟩) ?_
          refine lv_iload hx hb dL_law_1223 (lv_at hl 1 rfl) ?_
          refine lv_icmp_eq (tgt := 1230) hx hb dL_law_1225 (by decide) (fun c9 => ?_) (fun c9 => absurd (eT.symm) c9)
          refine lv_iload hx hb dL_law_1230 (lv_at hl 1 rfl) ?_
          refine lv_if_ne (tgt := 1247) hx hb dL_law_1232 (by decide) (fun c8 => ?_) (fun c8 => absurd c8 hT)
          refine lv_goto (tgt := 1677) hx hb dL_law_1247 (by decide) ?_
          exact K _ _ _ _ _ _ _ _ _ _ _ _ _ _ _ _ _ _ (by exact rel_mono hR2 (by omega)) hP hD hS (lv_sub hl [2, 3, 4, 5, 6] rfl)
  · skip
    refine lv_aload_n hx hb dL_law_1166 rfl (lv_at hl 1 rfl) ?_
    refine lv_aload_n hx hb dL_law_1167 rfl (lv_at hl 0 rfl) ?_
    refine lv_iload hx hb dL_law_1168 (lv_at hl 4 rfl) ?_
    refine lv_iconst (v := 1) hx hb dL_law_1170 (by decide) ?_
    refine lv_iadd hx hb dL_law_1171 ?_
    refine W_top (v' := .int (nI (i + 1))) (congrArg Value.int (nI_add i 1)) ?_
    refine va_sld hx hb hXb hbl (Nat.not_le.mpr hbl) hS (in_nI (j := i + 1) rfl (by omega) (by omega)) dL_law_1172 ?_
    refine W_top (v' := .int v0) (congrArg Value.int hv0) ?_
    refine lv_aload_n hx hb dL_law_1173 rfl (lv_at hl 0 rfl) ?_
    refine lv_iload hx hb dL_law_1174 (lv_at hl 4 rfl) ?_
    refine lv_iconst (v := 2) hx hb dL_law_1176 (by decide) ?_
    refine lv_iadd hx hb dL_law_1177 ?_
    refine W_top (v' := .int (nI (i + 2))) (congrArg Value.int (nI_add i 2)) ?_
    refine va_sld hx hb hXb hbl (Nat.not_le.mpr hbl) hS (in_nI (j := i + 2) rfl (by omega) (by omega)) dL_law_1178 ?_
    refine W_top (v' := .int v1) (congrArg Value.int hv1) ?_
    refine lv_if_eq (tgt := 1186) hx hb dL_law_1179 (by decide) (fun c9 => ?_) (fun c9 => ?_)
    · exact absurd c9 hbz
    · skip
      refine lv_iconst (v := 1) hx hb dL_law_1182 (by decide) ?_
      refine lv_goto (tgt := 1187) hx hb dL_law_1183 (by decide) ?_
      refine lv_aload_n hx hb dL_law_1187 rfl (lv_at hl 3 rfl) ?_
      have hXH : XW (Aw (cw kA ad X)) s H := (hX0.kept hS.2.1).narrow (fun q9 h9 => aw_D hD.rt.rt q9 h9)
      refine cs_fk (wrunS (As := [.ref (ad 0), .int v0, .int (bI true), .ref o]) (rest := []) ⟨hx, hb, hml, hown, hts⟩ (w_slips l D kA ad X v0 true o f  hnt) q_721 q_722 q_0 q_723 hdw_slips ⟨rfl, rfl⟩ ⟨Nat.le_of_ble_eq_true rfl, Nat.le_of_ble_eq_true rfl⟩ hK hP.r hD.rt hXH hLW rfl hl.1 rfl (Nat.le_of_ble_eq_true rfl) dL_law_1188 ⟨hroom.1, hroom.2⟩) hS (aw_D hD.rt) (fun H locs hP1 hk1 hS => ?_)
      obtain ⟨hP, hD⟩ := jR hP hD hk1 hP1 lw_fst
      clear hP1 hk1 hXH
      refine lv_istore (lv' := [(5, .int (axT v0)), (0, .ref b), (1, .ref (ad 0)), (2, .ref m0), (3, .ref o), (4, .int (nI i))]) hx hb dL_law_1191 hl (by decide) rfl (fun ls hl => ?_)
      refine lv_aload_n hx hb dL_law_1193 rfl (lv_at hl 3 rfl) ?_
      refine lv_aload_n hx hb dL_law_1194 rfl (lv_at hl 1 rfl) ?_
      refine lv_iload hx hb dL_law_1195 (lv_at hl 5 rfl) ?_
      refine lv_iconst (v := 1) hx hb dL_law_1197 (by decide) ?_
      refine lv_iadd hx hb dL_law_1198 ?_
      refine W_top (v' := .int (nI (i + 1))) (congrArg Value.int (nI_add i 1)) ?_
      refine va_sld hx hb hXb hbl (Nat.not_le.mpr hbl) hS (in_nI (j := i + 1) rfl (by omega) (by omega)) dL_law_1199 ?_
      refine W_top (v' := .int v0) (congrArg Value.int hv0) ?_
      refine lv_aload_n hx hb dL_law_1200 rfl (lv_at hl 1 rfl) ?_
      refine lv_iload hx hb dL_law_1201 (lv_at hl 5 rfl) ?_
      refine lv_iconst (v := 2) hx hb dL_law_1203 (by decide) ?_
      refine lv_iadd hx hb dL_law_1204 ?_
      refine W_top (v' := .int (nI (i + 2))) (congrArg Value.int (nI_add i 2)) ?_
      refine va_sld hx hb hXb hbl (Nat.not_le.mpr hbl) hS (in_nI (j := i + 2) rfl (by omega) (by omega)) dL_law_1205 ?_
      refine W_top (v' := .int v1) (congrArg Value.int hv1) ?_
      refine lv_if_eq (tgt := 1213) hx hb dL_law_1206 (by decide) (fun c9 => ?_) (fun c9 => ?_)
      · exact absurd c9 hbz
      · skip
        refine lv_iconst (v := 1) hx hb dL_law_1209 (by decide) ?_
        refine lv_goto (tgt := 1214) hx hb dL_law_1210 (by decide) ?_
        have eT : (axT v0) = (axT v0) := rfl
        refine cs_fs (runV (As := [.int v0, .int (bI true)]) (rest := []) ⟨hx, hb, hml, hown, hts⟩ (m_X6_slips l D kA m0 m1 m2 m3 m4 m5 z h tx pt kp (nI w) (nI n0) th (-1) rd nu du hs v0 true hI) q_1035 q_1036 q_1037 q_7 q_1038 hd_X6_slips ⟨rfl, rfl⟩ ⟨Nat.le_of_ble_eq_true rfl, Nat.le_of_ble_eq_true rfl⟩ hK hP.l hD.lf 0 (ci := 6) (C := RX6) (T := TX6) (N := 13) rfl rfl rfl hl.1 rfl (Nat.le_of_ble_eq_true rfl) dL_law_1214 ⟨hroom.1, hroom.2⟩) hS (aw_D hD.lf) (fun H locs hP1 hk1 hS => ?_)
        obtain ⟨hP, hD⟩ := jL hP hD hk1 hP1 rfl
        clear hP1 hk1
        by_cases hT : (axT v0) = 0
        · have hT2 : (axT v0) = 0 := eT.symm.trans hT
          have hP : va_P D vwCl ([(m0, .inr (6, [.ref m1, .int (nI w), .ref m2, .int (nI n0), .ref m3, .int (axT v0), .int (-1), .ref m4, .int rd, .int nu, .int du, .ref m5, .long hs])), (m1, .inl (kA 0, 148, .inl z)), (m2, .inl (kA 0, 888, .inl h)), (m3, .inl (kA 0, 60, .inl tx)), (m4, .inl (kA 0, 72, .inl pt)), (m5, .inl (kA 0, 148, .inl kp))] ++ ([(o, oO kA (vp_updL f 0 (tsF (X 0) v0.toNatClampNeg (wI true) : Int32).toInt64))] ++ cw kA ad X)) H := Pcg (by simp only [if_pos hT, if_pos hT2]) hP
          have hD : va_D (fun q => s.heap.size ≤ q) ([(m0, .inr (6, [.ref m1, .int (nI w), .ref m2, .int (nI n0), .ref m3, .int (axT v0), .int (-1), .ref m4, .int rd, .int nu, .int du, .ref m5, .long hs])), (m1, .inl (kA 0, 148, .inl z)), (m2, .inl (kA 0, 888, .inl h)), (m3, .inl (kA 0, 60, .inl tx)), (m4, .inl (kA 0, 72, .inl pt)), (m5, .inl (kA 0, 148, .inl kp))] ++ ([(o, oO kA (vp_updL f 0 (tsF (X 0) v0.toNatClampNeg (wI true) : Int32).toInt64))] ++ cw kA ad X)) := Dcg (by simp only [if_pos hT, if_pos hT2]) hD
          refine W_top (v' := .int (tsF z v0.toNatClampNeg (wI true))) (congrArg Value.int (if_pos hT2)) ?_
          refine lv_istore (lv' := [(6, .int (tsF z v0.toNatClampNeg (wI true))), (5, .int (axT v0)), (0, .ref b), (1, .ref (ad 0)), (2, .ref m0), (3, .ref o), (4, .int (nI i))]) hx hb dL_law_1217 hl (by decide) rfl (fun ls hl => ?_)
          refine lv_aload_n hx hb dL_law_1219 rfl (lv_at hl 4 rfl) ?_
          refine cs_p (runV (As := []) (rest := []) ⟨hx, hb, hml, hown, hts⟩ (m_X6_thrown l D kA m0 m1 m2 m3 m4 m5 z h tx pt kp (nI w) (nI n0) (axT v0) (-1) rd nu du hs) q_810 q_811 q_812 q_7 q_813 hd_X6_thrown ⟨rfl, rfl⟩ ⟨Nat.le_of_ble_eq_true rfl, Nat.le_of_ble_eq_true rfl⟩ hK hP.l hD.lf 0 (ci := 6) (C := RX6) (T := TX6) (N := 13) rfl rfl rfl hl.1 rfl (Nat.le_of_ble_eq_true rfl) dL_law_1220 ⟨hroom.1, hroom.2⟩) ?_
          refine lv_iload hx hb dL_law_1223 (lv_at hl 1 rfl) ?_
          refine lv_icmp_eq (tgt := 1230) hx hb dL_law_1225 (by decide) (fun c9 => ?_) (fun c9 => absurd (eT.symm) c9)
          refine lv_iload hx hb dL_law_1230 (lv_at hl 1 rfl) ?_
          refine lv_if_ne (tgt := 1247) hx hb dL_law_1232 (by decide) (fun c8 => absurd hT c8) (fun c8 => ?_)
          refine lv_aload_n hx hb dL_law_1235 rfl (lv_at hl 5 rfl) ?_
          refine lv_iconst (v := 0) hx hb dL_law_1236 (by decide) ?_
          refine va_lald hx hb hK hP 6 3 rfl rfl (in_nI (j := 0) rfl (by omega) (by decide)) dL_law_1237 ?_
          refine W_top (v' := .long (tsF (X 0) v0.toNatClampNeg (wI true) : Int32).toInt64) rfl ?_
          refine lv_iload hx hb dL_law_1238 (lv_at hl 0 rfl) ?_
          refine lv_i2l (v := (tsF z v0.toNatClampNeg (wI true) : Int32).toInt64) hx hb dL_law_1240 rfl ?_
          refine W.lcmp hx hb dL_law_1241 ?_
          have eV : (tsF (X 0) v0.toNatClampNeg (wI true) : Int32) = (tsF z v0.toNatClampNeg (wI true)) := by rw [hXz]
          refine lv_if_eq (tgt := 1247) hx hb dL_law_1242 (by decide) (fun c7 => ?_) (fun c7 => absurd ((lg_cmp_eq _ _).mpr (congrArg Int32.toInt64 eV)) c7)
          refine lv_goto (tgt := 1677) hx hb dL_law_1247 (by decide) ?_
          exact K _ _ _ _ _ _ _ _ _ _ _ _ _ _ _ _ _ _ (by exact rel_mono hR2 (by omega)) hP hD hS (lv_sub hl [2, 3, 4, 5, 6] rfl)
        · have hT2 : ¬ (axT v0) = 0 := fun q9 => hT (eT.trans q9)
          have hP : va_P D vwCl ([(m0, .inr (6, [.ref m1, .int (nI w), .ref m2, .int (nI n0), .ref m3, .int (axT v0), .int (-1), .ref m4, .int rd, .int nu, .int du, .ref m5, .long hs])), (m1, .inl (kA 0, 148, .inl z)), (m2, .inl (kA 0, 888, .inl h)), (m3, .inl (kA 0, 60, .inl tx)), (m4, .inl (kA 0, 72, .inl pt)), (m5, .inl (kA 0, 148, .inl kp))] ++ ([(o, oO kA (f))] ++ cw kA ad X)) H := Pcg (by simp only [if_neg hT, if_neg hT2]) hP
          have hD : va_D (fun q => s.heap.size ≤ q) ([(m0, .inr (6, [.ref m1, .int (nI w), .ref m2, .int (nI n0), .ref m3, .int (axT v0), .int (-1), .ref m4, .int rd, .int nu, .int du, .ref m5, .long hs])), (m1, .inl (kA 0, 148, .inl z)), (m2, .inl (kA 0, 888, .inl h)), (m3, .inl (kA 0, 60, .inl tx)), (m4, .inl (kA 0, 72, .inl pt)), (m5, .inl (kA 0, 148, .inl kp))] ++ ([(o, oO kA (f))] ++ cw kA ad X)) := Dcg (by simp only [if_neg hT, if_neg hT2]) hD
          refine W_top (v' := .int (0)) (congrArg Value.int (if_neg hT2)) ?_
          refine lv_istore (lv' := [(6, .int (0)), (5, .int (axT v0)), (0, .ref b), (1, .ref (ad 0)), (2, .ref m0), (3, .ref o), (4, .int (nI i))]) hx hb dL_law_1217 hl (by decide) rfl (fun ls hl => ?_)
          refine lv_aload_n hx hb dL_law_1219 rfl (lv_at hl 4 rfl) ?_
          refine cs_p (runV (As := []) (rest := []) ⟨hx, hb, hml, hown, hts⟩ (m_X6_thrown l D kA m0 m1 m2 m3 m4 m5 z h tx pt kp (nI w) (nI n0) (axT v0) (-1) rd nu du hs) q_810 q_811 q_812 q_7 q_813 hd_X6_thrown ⟨rfl, rfl⟩ ⟨Nat.le_of_ble_eq_true rfl, Nat.le_of_ble_eq_true rfl⟩ hK hP.l hD.lf 0 (ci := 6) (C := RX6) (T := TX6) (N := 13) rfl rfl rfl hl.1 rfl (Nat.le_of_ble_eq_true rfl) dL_law_1220 ⟨hroom.1, hroom.2⟩) ?_
          refine lv_iload hx hb dL_law_1223 (lv_at hl 1 rfl) ?_
          refine lv_icmp_eq (tgt := 1230) hx hb dL_law_1225 (by decide) (fun c9 => ?_) (fun c9 => absurd (eT.symm) c9)
          refine lv_iload hx hb dL_law_1230 (lv_at hl 1 rfl) ?_
          refine lv_if_ne (tgt := 1247) hx hb dL_law_1232 (by decide) (fun c8 => ?_) (fun c8 => absurd c8 hT)
          refine lv_goto (tgt := 1677) hx hb dL_law_1247 (by decide) ?_
          exact K _ _ _ _ _ _ _ _ _ _ _ _ _ _ _ _ _ _ (by exact rel_mono hR2 (by omega)) hP hD hS (lv_sub hl [2, 3, 4, 5, 6] rfl)

set_option maxRecDepth 100000 in
set_option maxHeartbeats 4000000 in
theorem k_cost {p : Program} {l : Launch} {e : Env} {s : State} {m : MethodId} {below : List Frame} {meth : Method} {c : Code} {Q : State → Prop} {D : va_G} {kA ad : Nat → Nat} {m0 m1 m2 m3 m4 m5 o b L i N cells slots : Nat} {xs : Nat → Int32} (C0 : LC l p s m meth c D kA b L xs) {X : Nat → Nat → Int32} {z h tx pt kp : Nat → Int32} {w n0 r : Nat} {th rd nu du : Int32} {hs : Int64} {f : Nat → Int64} {H : Heap} {locs : List Loc} {ls : Array Slot} (hR2 : REL X z h tx w n0 r N) (hN : N + 1000 ≤ 600000) (hi : i + 4 ≤ L) (hL : L ≤ 2048) (hP : va_P D vwCl (LWd kA ad m0 m1 m2 m3 m4 m5 o X z h tx pt kp w n0 th rd nu du hs f) H) (hD : va_D (fun q => s.heap.size ≤ q) (LWd kA ad m0 m1 m2 m3 m4 m5 o X z h tx pt kp w n0 th rd nu du hs f)) (hS : va_S (fun q => s.heap.size ≤ q) s.heap H locs) (hl : lv_has ls 9 (lB ad b m0 o i)) (hroom : cells + 1 ≤ 601024 ∧ slots + 6 ≤ 7293034) (K : KT p l e s m below meth c Q D kA ad m0 m1 m2 m3 m4 m5 o b i (N + 1000) (cells + 1) (slots + 6)) : W p l e room_1 s m #[Value.ref b] below meth c H locs cells slots Q (F0 m 1250 ls []) := by
  obtain ⟨hx, hb, hml, hown, hts, hK, hXb, hbl, hX0, hLW, hnt⟩ := C0
  obtain ⟨hXz, hI, hC, hw6, hr6, h80, h81, h82, hN3, hTB, hring⟩ := id hR2
  have hn60 := hTB.1
  have hl : lv_has ls 9 [(0, .ref b), (1, .ref (ad 0)), (2, .ref m0), (3, .ref o), (4, .int (nI i))] := hl
  have hP : va_P D vwCl (mL kA m0 m1 m2 m3 m4 m5 z h tx pt kp (nI w) (nI n0) th (-1) rd nu du hs ++ ([(o, oO kA f)] ++ cw kA ad X)) H := hP
  have hD : va_D (fun q => s.heap.size ≤ q) (mL kA m0 m1 m2 m3 m4 m5 z h tx pt kp (nI w) (nI n0) th (-1) rd nu du hs ++ ([(o, oO kA f)] ++ cw kA ad X)) := hD
  obtain ⟨v0, hv0⟩ : ∃ y, xs (nI (i + 1)).toNatClampNeg = y := ⟨_, rfl⟩
  obtain ⟨v1, hv1⟩ : ∃ y, xs (nI (i + 2)).toNatClampNeg = y := ⟨_, rfl⟩
  obtain ⟨v2, hv2⟩ : ∃ y, xs (nI (i + 3)).toNatClampNeg = y := ⟨_, rfl⟩
  by_cases hbz : v2 = 0
  · skip
    refine lv_aload_n hx hb dL_law_1250 rfl (lv_at hl 1 rfl) ?_
    refine lv_aload_n hx hb dL_law_1251 rfl (lv_at hl 0 rfl) ?_
    refine lv_iload hx hb dL_law_1252 (lv_at hl 4 rfl) ?_
    refine lv_iconst (v := 1) hx hb dL_law_1254 (by decide) ?_
    refine lv_iadd hx hb dL_law_1255 ?_
    refine W_top (v' := .int (nI (i + 1))) (congrArg Value.int (nI_add i 1)) ?_
    refine va_sld hx hb hXb hbl (Nat.not_le.mpr hbl) hS (in_nI (j := i + 1) rfl (by omega) (by omega)) dL_law_1256 ?_
    refine W_top (v' := .int v0) (congrArg Value.int hv0) ?_
    refine lv_aload_n hx hb dL_law_1257 rfl (lv_at hl 0 rfl) ?_
    refine lv_iload hx hb dL_law_1258 (lv_at hl 4 rfl) ?_
    refine lv_iconst (v := 2) hx hb dL_law_1260 (by decide) ?_
    refine lv_iadd hx hb dL_law_1261 ?_
    refine W_top (v' := .int (nI (i + 2))) (congrArg Value.int (nI_add i 2)) ?_
    refine va_sld hx hb hXb hbl (Nat.not_le.mpr hbl) hS (in_nI (j := i + 2) rfl (by omega) (by omega)) dL_law_1262 ?_
    refine W_top (v' := .int v1) (congrArg Value.int hv1) ?_
    refine lv_aload_n hx hb dL_law_1263 rfl (lv_at hl 0 rfl) ?_
    refine lv_iload hx hb dL_law_1264 (lv_at hl 4 rfl) ?_
    refine lv_iconst (v := 3) hx hb dL_law_1266 (by decide) ?_
    refine lv_iadd hx hb dL_law_1267 ?_
    refine W_top (v' := .int (nI (i + 3))) (congrArg Value.int (nI_add i 3)) ?_
    refine va_sld hx hb hXb hbl (Nat.not_le.mpr hbl) hS (in_nI (j := i + 3) rfl (by omega) (by omega)) dL_law_1268 ?_
    refine W_top (v' := .int v2) (congrArg Value.int hv2) ?_
    refine lv_if_eq (tgt := 1276) hx hb dL_law_1269 (by decide) (fun c9 => ?_) (fun c9 => ?_)
    rotate_left
    · exact absurd hbz c9
    · skip
      refine lv_iconst (v := 0) hx hb dL_law_1276 (by decide) ?_
      refine lv_aload_n hx hb dL_law_1277 rfl (lv_at hl 3 rfl) ?_
      have hXH : XW (Aw (cw kA ad X)) s H := (hX0.kept hS.2.1).narrow (fun q9 h9 => aw_D hD.rt.rt q9 h9)
      refine cs_fk (wrunS (As := [.ref (ad 0), .int v0, .int v1, .int (bI false), .ref o]) (rest := []) ⟨hx, hb, hml, hown, hts⟩ (w_cost l D kA ad X v0 v1 false o f  hnt) q_728 q_729 q_0 q_730 hdw_cost ⟨rfl, rfl⟩ ⟨Nat.le_of_ble_eq_true rfl, Nat.le_of_ble_eq_true rfl⟩ hK hP.r hD.rt hXH hLW rfl hl.1 rfl (Nat.le_of_ble_eq_true rfl) dL_law_1278 ⟨hroom.1, hroom.2⟩) hS (aw_D hD.rt) (fun H locs hP1 hk1 hS => ?_)
      obtain ⟨hP, hD⟩ := jR hP hD hk1 hP1 lw_fst
      clear hP1 hk1 hXH
      refine lv_istore (lv' := [(5, .int (coT v0 v1)), (0, .ref b), (1, .ref (ad 0)), (2, .ref m0), (3, .ref o), (4, .int (nI i))]) hx hb dL_law_1281 hl (by decide) rfl (fun ls hl => ?_)
      refine lv_aload_n hx hb dL_law_1283 rfl (lv_at hl 3 rfl) ?_
      refine lv_aload_n hx hb dL_law_1284 rfl (lv_at hl 1 rfl) ?_
      refine lv_iload hx hb dL_law_1285 (lv_at hl 5 rfl) ?_
      refine lv_iconst (v := 1) hx hb dL_law_1287 (by decide) ?_
      refine lv_iadd hx hb dL_law_1288 ?_
      refine W_top (v' := .int (nI (i + 1))) (congrArg Value.int (nI_add i 1)) ?_
      refine va_sld hx hb hXb hbl (Nat.not_le.mpr hbl) hS (in_nI (j := i + 1) rfl (by omega) (by omega)) dL_law_1289 ?_
      refine W_top (v' := .int v0) (congrArg Value.int hv0) ?_
      refine lv_aload_n hx hb dL_law_1290 rfl (lv_at hl 1 rfl) ?_
      refine lv_iload hx hb dL_law_1291 (lv_at hl 5 rfl) ?_
      refine lv_iconst (v := 2) hx hb dL_law_1293 (by decide) ?_
      refine lv_iadd hx hb dL_law_1294 ?_
      refine W_top (v' := .int (nI (i + 2))) (congrArg Value.int (nI_add i 2)) ?_
      refine va_sld hx hb hXb hbl (Nat.not_le.mpr hbl) hS (in_nI (j := i + 2) rfl (by omega) (by omega)) dL_law_1295 ?_
      refine W_top (v' := .int v1) (congrArg Value.int hv1) ?_
      refine lv_aload_n hx hb dL_law_1296 rfl (lv_at hl 1 rfl) ?_
      refine lv_iload hx hb dL_law_1297 (lv_at hl 5 rfl) ?_
      refine lv_iconst (v := 3) hx hb dL_law_1299 (by decide) ?_
      refine lv_iadd hx hb dL_law_1300 ?_
      refine W_top (v' := .int (nI (i + 3))) (congrArg Value.int (nI_add i 3)) ?_
      refine va_sld hx hb hXb hbl (Nat.not_le.mpr hbl) hS (in_nI (j := i + 3) rfl (by omega) (by omega)) dL_law_1301 ?_
      refine W_top (v' := .int v2) (congrArg Value.int hv2) ?_
      refine lv_if_eq (tgt := 1309) hx hb dL_law_1302 (by decide) (fun c9 => ?_) (fun c9 => ?_)
      rotate_left
      · exact absurd hbz c9
      · skip
        refine lv_iconst (v := 0) hx hb dL_law_1309 (by decide) ?_
        have eT : (coT v0 v1) = (coT v0 v1) := rfl
        refine cs_fs (runV (As := [.int v0, .int v1, .int (bI false)]) (rest := []) ⟨hx, hb, hml, hown, hts⟩ (m_X6_cost l D kA m0 m1 m2 m3 m4 m5 z h tx pt kp (nI w) (nI n0) th (-1) rd nu du hs v0 v1 false hI) q_1039 q_1040 q_1041 q_7 q_1042 hd_X6_cost ⟨rfl, rfl⟩ ⟨Nat.le_of_ble_eq_true rfl, Nat.le_of_ble_eq_true rfl⟩ hK hP.l hD.lf 0 (ci := 6) (C := RX6) (T := TX6) (N := 13) rfl rfl rfl hl.1 rfl (Nat.le_of_ble_eq_true rfl) dL_law_1310 ⟨hroom.1, hroom.2⟩) hS (aw_D hD.lf) (fun H locs hP1 hk1 hS => ?_)
        obtain ⟨hP, hD⟩ := jL hP hD hk1 hP1 rfl
        clear hP1 hk1
        by_cases hT : (coT v0 v1) = 0
        · have hT2 : (coT v0 v1) = 0 := eT.symm.trans hT
          have hP : va_P D vwCl ([(m0, .inr (6, [.ref m1, .int (nI w), .ref m2, .int (nI n0), .ref m3, .int (coT v0 v1), .int (-1), .ref m4, .int rd, .int nu, .int du, .ref m5, .long hs])), (m1, .inl (kA 0, 148, .inl z)), (m2, .inl (kA 0, 888, .inl h)), (m3, .inl (kA 0, 60, .inl tx)), (m4, .inl (kA 0, 72, .inl pt)), (m5, .inl (kA 0, 148, .inl kp))] ++ ([(o, oO kA (vp_updL f 0 (costG (sl ((X 0)) v0.toNatClampNeg) (X 0) v1 (wI false) (-1) : Int32).toInt64))] ++ cw kA ad X)) H := Pcg (by simp only [if_pos hT, if_pos hT2]) hP
          have hD : va_D (fun q => s.heap.size ≤ q) ([(m0, .inr (6, [.ref m1, .int (nI w), .ref m2, .int (nI n0), .ref m3, .int (coT v0 v1), .int (-1), .ref m4, .int rd, .int nu, .int du, .ref m5, .long hs])), (m1, .inl (kA 0, 148, .inl z)), (m2, .inl (kA 0, 888, .inl h)), (m3, .inl (kA 0, 60, .inl tx)), (m4, .inl (kA 0, 72, .inl pt)), (m5, .inl (kA 0, 148, .inl kp))] ++ ([(o, oO kA (vp_updL f 0 (costG (sl ((X 0)) v0.toNatClampNeg) (X 0) v1 (wI false) (-1) : Int32).toInt64))] ++ cw kA ad X)) := Dcg (by simp only [if_pos hT, if_pos hT2]) hD
          refine W_top (v' := .int (costG (sl z v0.toNatClampNeg) z v1 (wI false) (-1))) (congrArg Value.int (if_pos hT2)) ?_
          refine lv_istore (lv' := [(6, .int (costG (sl z v0.toNatClampNeg) z v1 (wI false) (-1))), (5, .int (coT v0 v1)), (0, .ref b), (1, .ref (ad 0)), (2, .ref m0), (3, .ref o), (4, .int (nI i))]) hx hb dL_law_1313 hl (by decide) rfl (fun ls hl => ?_)
          refine lv_aload_n hx hb dL_law_1315 rfl (lv_at hl 4 rfl) ?_
          refine cs_p (runV (As := []) (rest := []) ⟨hx, hb, hml, hown, hts⟩ (m_X6_thrown l D kA m0 m1 m2 m3 m4 m5 z h tx pt kp (nI w) (nI n0) (coT v0 v1) (-1) rd nu du hs) q_810 q_811 q_812 q_7 q_813 hd_X6_thrown ⟨rfl, rfl⟩ ⟨Nat.le_of_ble_eq_true rfl, Nat.le_of_ble_eq_true rfl⟩ hK hP.l hD.lf 0 (ci := 6) (C := RX6) (T := TX6) (N := 13) rfl rfl rfl hl.1 rfl (Nat.le_of_ble_eq_true rfl) dL_law_1316 ⟨hroom.1, hroom.2⟩) ?_
          refine lv_iload hx hb dL_law_1319 (lv_at hl 1 rfl) ?_
          refine lv_icmp_eq (tgt := 1326) hx hb dL_law_1321 (by decide) (fun c9 => ?_) (fun c9 => absurd (eT.symm) c9)
          refine lv_iload hx hb dL_law_1326 (lv_at hl 1 rfl) ?_
          refine lv_if_ne (tgt := 1343) hx hb dL_law_1328 (by decide) (fun c8 => absurd hT c8) (fun c8 => ?_)
          refine lv_aload_n hx hb dL_law_1331 rfl (lv_at hl 5 rfl) ?_
          refine lv_iconst (v := 0) hx hb dL_law_1332 (by decide) ?_
          refine va_lald hx hb hK hP 6 3 rfl rfl (in_nI (j := 0) rfl (by omega) (by decide)) dL_law_1333 ?_
          refine W_top (v' := .long (costG (sl ((X 0)) v0.toNatClampNeg) (X 0) v1 (wI false) (-1) : Int32).toInt64) rfl ?_
          refine lv_iload hx hb dL_law_1334 (lv_at hl 0 rfl) ?_
          refine lv_i2l (v := (costG (sl z v0.toNatClampNeg) z v1 (wI false) (-1) : Int32).toInt64) hx hb dL_law_1336 rfl ?_
          refine W.lcmp hx hb dL_law_1337 ?_
          have eV : (costG (sl ((X 0)) v0.toNatClampNeg) (X 0) v1 (wI false) (-1) : Int32) = (costG (sl z v0.toNatClampNeg) z v1 (wI false) (-1)) := by rw [hXz]
          refine lv_if_eq (tgt := 1343) hx hb dL_law_1338 (by decide) (fun c7 => ?_) (fun c7 => absurd ((lg_cmp_eq _ _).mpr (congrArg Int32.toInt64 eV)) c7)
          refine lv_goto (tgt := 1677) hx hb dL_law_1343 (by decide) ?_
          exact K _ _ _ _ _ _ _ _ _ _ _ _ _ _ _ _ _ _ (by exact rel_mono hR2 (by omega)) hP hD hS (lv_sub hl [2, 3, 4, 5, 6] rfl)
        · have hT2 : ¬ (coT v0 v1) = 0 := fun q9 => hT (eT.trans q9)
          have hP : va_P D vwCl ([(m0, .inr (6, [.ref m1, .int (nI w), .ref m2, .int (nI n0), .ref m3, .int (coT v0 v1), .int (-1), .ref m4, .int rd, .int nu, .int du, .ref m5, .long hs])), (m1, .inl (kA 0, 148, .inl z)), (m2, .inl (kA 0, 888, .inl h)), (m3, .inl (kA 0, 60, .inl tx)), (m4, .inl (kA 0, 72, .inl pt)), (m5, .inl (kA 0, 148, .inl kp))] ++ ([(o, oO kA (f))] ++ cw kA ad X)) H := Pcg (by simp only [if_neg hT, if_neg hT2]) hP
          have hD : va_D (fun q => s.heap.size ≤ q) ([(m0, .inr (6, [.ref m1, .int (nI w), .ref m2, .int (nI n0), .ref m3, .int (coT v0 v1), .int (-1), .ref m4, .int rd, .int nu, .int du, .ref m5, .long hs])), (m1, .inl (kA 0, 148, .inl z)), (m2, .inl (kA 0, 888, .inl h)), (m3, .inl (kA 0, 60, .inl tx)), (m4, .inl (kA 0, 72, .inl pt)), (m5, .inl (kA 0, 148, .inl kp))] ++ ([(o, oO kA (f))] ++ cw kA ad X)) := Dcg (by simp only [if_neg hT, if_neg hT2]) hD
          refine W_top (v' := .int (0)) (congrArg Value.int (if_neg hT2)) ?_
          refine lv_istore (lv' := [(6, .int (0)), (5, .int (coT v0 v1)), (0, .ref b), (1, .ref (ad 0)), (2, .ref m0), (3, .ref o), (4, .int (nI i))]) hx hb dL_law_1313 hl (by decide) rfl (fun ls hl => ?_)
          refine lv_aload_n hx hb dL_law_1315 rfl (lv_at hl 4 rfl) ?_
          refine cs_p (runV (As := []) (rest := []) ⟨hx, hb, hml, hown, hts⟩ (m_X6_thrown l D kA m0 m1 m2 m3 m4 m5 z h tx pt kp (nI w) (nI n0) (coT v0 v1) (-1) rd nu du hs) q_810 q_811 q_812 q_7 q_813 hd_X6_thrown ⟨rfl, rfl⟩ ⟨Nat.le_of_ble_eq_true rfl, Nat.le_of_ble_eq_true rfl⟩ hK hP.l hD.lf 0 (ci := 6) (C := RX6) (T := TX6) (N := 13) rfl rfl rfl hl.1 rfl (Nat.le_of_ble_eq_true rfl) dL_law_1316 ⟨hroom.1, hroom.2⟩) ?_
          refine lv_iload hx hb dL_law_1319 (lv_at hl 1 rfl) ?_
          refine lv_icmp_eq (tgt := 1326) hx hb dL_law_1321 (by decide) (fun c9 => ?_) (fun c9 => absurd (eT.symm) c9)
          refine lv_iload hx hb dL_law_1326 (lv_at hl 1 rfl) ?_
          refine lv_if_ne (tgt := 1343) hx hb dL_law_1328 (by decide) (fun c8 => ?_) (fun c8 => absurd c8 hT)
          refine lv_goto (tgt := 1677) hx hb dL_law_1343 (by decide) ?_
          exact K _ _ _ _ _ _ _ _ _ _ _ _ _ _ _ _ _ _ (by exact rel_mono hR2 (by omega)) hP hD hS (lv_sub hl [2, 3, 4, 5, 6] rfl)
  · skip
    refine lv_aload_n hx hb dL_law_1250 rfl (lv_at hl 1 rfl) ?_
    refine lv_aload_n hx hb dL_law_1251 rfl (lv_at hl 0 rfl) ?_
    refine lv_iload hx hb dL_law_1252 (lv_at hl 4 rfl) ?_
    refine lv_iconst (v := 1) hx hb dL_law_1254 (by decide) ?_
    refine lv_iadd hx hb dL_law_1255 ?_
    refine W_top (v' := .int (nI (i + 1))) (congrArg Value.int (nI_add i 1)) ?_
    refine va_sld hx hb hXb hbl (Nat.not_le.mpr hbl) hS (in_nI (j := i + 1) rfl (by omega) (by omega)) dL_law_1256 ?_
    refine W_top (v' := .int v0) (congrArg Value.int hv0) ?_
    refine lv_aload_n hx hb dL_law_1257 rfl (lv_at hl 0 rfl) ?_
    refine lv_iload hx hb dL_law_1258 (lv_at hl 4 rfl) ?_
    refine lv_iconst (v := 2) hx hb dL_law_1260 (by decide) ?_
    refine lv_iadd hx hb dL_law_1261 ?_
    refine W_top (v' := .int (nI (i + 2))) (congrArg Value.int (nI_add i 2)) ?_
    refine va_sld hx hb hXb hbl (Nat.not_le.mpr hbl) hS (in_nI (j := i + 2) rfl (by omega) (by omega)) dL_law_1262 ?_
    refine W_top (v' := .int v1) (congrArg Value.int hv1) ?_
    refine lv_aload_n hx hb dL_law_1263 rfl (lv_at hl 0 rfl) ?_
    refine lv_iload hx hb dL_law_1264 (lv_at hl 4 rfl) ?_
    refine lv_iconst (v := 3) hx hb dL_law_1266 (by decide) ?_
    refine lv_iadd hx hb dL_law_1267 ?_
    refine W_top (v' := .int (nI (i + 3))) (congrArg Value.int (nI_add i 3)) ?_
    refine va_sld hx hb hXb hbl (Nat.not_le.mpr hbl) hS (in_nI (j := i + 3) rfl (by omega) (by omega)) dL_law_1268 ?_
    refine W_top (v' := .int v2) (congrArg Value.int hv2) ?_
    refine lv_if_eq (tgt := 1276) hx hb dL_law_1269 (by decide) (fun c9 => ?_) (fun c9 => ?_)
    · exact absurd c9 hbz
    · skip
      refine lv_iconst (v := 1) hx hb dL_law_1272 (by decide) ?_
      refine lv_goto (tgt := 1277) hx hb dL_law_1273 (by decide) ?_
      refine lv_aload_n hx hb dL_law_1277 rfl (lv_at hl 3 rfl) ?_
      have hXH : XW (Aw (cw kA ad X)) s H := (hX0.kept hS.2.1).narrow (fun q9 h9 => aw_D hD.rt.rt q9 h9)
      refine cs_fk (wrunS (As := [.ref (ad 0), .int v0, .int v1, .int (bI true), .ref o]) (rest := []) ⟨hx, hb, hml, hown, hts⟩ (w_cost l D kA ad X v0 v1 true o f  hnt) q_728 q_729 q_0 q_730 hdw_cost ⟨rfl, rfl⟩ ⟨Nat.le_of_ble_eq_true rfl, Nat.le_of_ble_eq_true rfl⟩ hK hP.r hD.rt hXH hLW rfl hl.1 rfl (Nat.le_of_ble_eq_true rfl) dL_law_1278 ⟨hroom.1, hroom.2⟩) hS (aw_D hD.rt) (fun H locs hP1 hk1 hS => ?_)
      obtain ⟨hP, hD⟩ := jR hP hD hk1 hP1 lw_fst
      clear hP1 hk1 hXH
      refine lv_istore (lv' := [(5, .int (coT v0 v1)), (0, .ref b), (1, .ref (ad 0)), (2, .ref m0), (3, .ref o), (4, .int (nI i))]) hx hb dL_law_1281 hl (by decide) rfl (fun ls hl => ?_)
      refine lv_aload_n hx hb dL_law_1283 rfl (lv_at hl 3 rfl) ?_
      refine lv_aload_n hx hb dL_law_1284 rfl (lv_at hl 1 rfl) ?_
      refine lv_iload hx hb dL_law_1285 (lv_at hl 5 rfl) ?_
      refine lv_iconst (v := 1) hx hb dL_law_1287 (by decide) ?_
      refine lv_iadd hx hb dL_law_1288 ?_
      refine W_top (v' := .int (nI (i + 1))) (congrArg Value.int (nI_add i 1)) ?_
      refine va_sld hx hb hXb hbl (Nat.not_le.mpr hbl) hS (in_nI (j := i + 1) rfl (by omega) (by omega)) dL_law_1289 ?_
      refine W_top (v' := .int v0) (congrArg Value.int hv0) ?_
      refine lv_aload_n hx hb dL_law_1290 rfl (lv_at hl 1 rfl) ?_
      refine lv_iload hx hb dL_law_1291 (lv_at hl 5 rfl) ?_
      refine lv_iconst (v := 2) hx hb dL_law_1293 (by decide) ?_
      refine lv_iadd hx hb dL_law_1294 ?_
      refine W_top (v' := .int (nI (i + 2))) (congrArg Value.int (nI_add i 2)) ?_
      refine va_sld hx hb hXb hbl (Nat.not_le.mpr hbl) hS (in_nI (j := i + 2) rfl (by omega) (by omega)) dL_law_1295 ?_
      refine W_top (v' := .int v1) (congrArg Value.int hv1) ?_
      refine lv_aload_n hx hb dL_law_1296 rfl (lv_at hl 1 rfl) ?_
      refine lv_iload hx hb dL_law_1297 (lv_at hl 5 rfl) ?_
      refine lv_iconst (v := 3) hx hb dL_law_1299 (by decide) ?_
      refine lv_iadd hx hb dL_law_1300 ?_
      refine W_top (v' := .int (nI (i + 3))) (congrArg Value.int (nI_add i 3)) ?_
      refine va_sld hx hb hXb hbl (Nat.not_le.mpr hbl) hS (in_nI (j := i + 3) rfl (by omega) (by omega)) dL_law_1301 ?_
      refine W_top (v' := .int v2) (congrArg Value.int hv2) ?_
      refine lv_if_eq (tgt := 1309) hx hb dL_law_1302 (by decide) (fun c9 => ?_) (fun c9 => ?_)
      · exact absurd c9 hbz
      · skip
        refine lv_iconst (v := 1) hx hb dL_law_1305 (by decide) ?_
        refine lv_goto (tgt := 1310) hx hb dL_law_1306 (by decide) ?_
        have eT : (coT v0 v1) = (coT v0 v1) := rfl
        refine cs_fs (runV (As := [.int v0, .int v1, .int (bI true)]) (rest := []) ⟨hx, hb, hml, hown, hts⟩ (m_X6_cost l D kA m0 m1 m2 m3 m4 m5 z h tx pt kp (nI w) (nI n0) th (-1) rd nu du hs v0 v1 true hI) q_1039 q_1040 q_1041 q_7 q_1042 hd_X6_cost ⟨rfl, rfl⟩ ⟨Nat.le_of_ble_eq_true rfl, Nat.le_of_ble_eq_true rfl⟩ hK hP.l hD.lf 0 (ci := 6) (C := RX6) (T := TX6) (N := 13) rfl rfl rfl hl.1 rfl (Nat.le_of_ble_eq_true rfl) dL_law_1310 ⟨hroom.1, hroom.2⟩) hS (aw_D hD.lf) (fun H locs hP1 hk1 hS => ?_)
        obtain ⟨hP, hD⟩ := jL hP hD hk1 hP1 rfl
        clear hP1 hk1
        by_cases hT : (coT v0 v1) = 0
        · have hT2 : (coT v0 v1) = 0 := eT.symm.trans hT
          have hP : va_P D vwCl ([(m0, .inr (6, [.ref m1, .int (nI w), .ref m2, .int (nI n0), .ref m3, .int (coT v0 v1), .int (-1), .ref m4, .int rd, .int nu, .int du, .ref m5, .long hs])), (m1, .inl (kA 0, 148, .inl z)), (m2, .inl (kA 0, 888, .inl h)), (m3, .inl (kA 0, 60, .inl tx)), (m4, .inl (kA 0, 72, .inl pt)), (m5, .inl (kA 0, 148, .inl kp))] ++ ([(o, oO kA (vp_updL f 0 (costG (sl ((X 0)) v0.toNatClampNeg) (X 0) v1 (wI true) (-1) : Int32).toInt64))] ++ cw kA ad X)) H := Pcg (by simp only [if_pos hT, if_pos hT2]) hP
          have hD : va_D (fun q => s.heap.size ≤ q) ([(m0, .inr (6, [.ref m1, .int (nI w), .ref m2, .int (nI n0), .ref m3, .int (coT v0 v1), .int (-1), .ref m4, .int rd, .int nu, .int du, .ref m5, .long hs])), (m1, .inl (kA 0, 148, .inl z)), (m2, .inl (kA 0, 888, .inl h)), (m3, .inl (kA 0, 60, .inl tx)), (m4, .inl (kA 0, 72, .inl pt)), (m5, .inl (kA 0, 148, .inl kp))] ++ ([(o, oO kA (vp_updL f 0 (costG (sl ((X 0)) v0.toNatClampNeg) (X 0) v1 (wI true) (-1) : Int32).toInt64))] ++ cw kA ad X)) := Dcg (by simp only [if_pos hT, if_pos hT2]) hD
          refine W_top (v' := .int (costG (sl z v0.toNatClampNeg) z v1 (wI true) (-1))) (congrArg Value.int (if_pos hT2)) ?_
          refine lv_istore (lv' := [(6, .int (costG (sl z v0.toNatClampNeg) z v1 (wI true) (-1))), (5, .int (coT v0 v1)), (0, .ref b), (1, .ref (ad 0)), (2, .ref m0), (3, .ref o), (4, .int (nI i))]) hx hb dL_law_1313 hl (by decide) rfl (fun ls hl => ?_)
          refine lv_aload_n hx hb dL_law_1315 rfl (lv_at hl 4 rfl) ?_
          refine cs_p (runV (As := []) (rest := []) ⟨hx, hb, hml, hown, hts⟩ (m_X6_thrown l D kA m0 m1 m2 m3 m4 m5 z h tx pt kp (nI w) (nI n0) (coT v0 v1) (-1) rd nu du hs) q_810 q_811 q_812 q_7 q_813 hd_X6_thrown ⟨rfl, rfl⟩ ⟨Nat.le_of_ble_eq_true rfl, Nat.le_of_ble_eq_true rfl⟩ hK hP.l hD.lf 0 (ci := 6) (C := RX6) (T := TX6) (N := 13) rfl rfl rfl hl.1 rfl (Nat.le_of_ble_eq_true rfl) dL_law_1316 ⟨hroom.1, hroom.2⟩) ?_
          refine lv_iload hx hb dL_law_1319 (lv_at hl 1 rfl) ?_
          refine lv_icmp_eq (tgt := 1326) hx hb dL_law_1321 (by decide) (fun c9 => ?_) (fun c9 => absurd (eT.symm) c9)
          refine lv_iload hx hb dL_law_1326 (lv_at hl 1 rfl) ?_
          refine lv_if_ne (tgt := 1343) hx hb dL_law_1328 (by decide) (fun c8 => absurd hT c8) (fun c8 => ?_)
          refine lv_aload_n hx hb dL_law_1331 rfl (lv_at hl 5 rfl) ?_
          refine lv_iconst (v := 0) hx hb dL_law_1332 (by decide) ?_
          refine va_lald hx hb hK hP 6 3 rfl rfl (in_nI (j := 0) rfl (by omega) (by decide)) dL_law_1333 ?_
          refine W_top (v' := .long (costG (sl ((X 0)) v0.toNatClampNeg) (X 0) v1 (wI true) (-1) : Int32).toInt64) rfl ?_
          refine lv_iload hx hb dL_law_1334 (lv_at hl 0 rfl) ?_
          refine lv_i2l (v := (costG (sl z v0.toNatClampNeg) z v1 (wI true) (-1) : Int32).toInt64) hx hb dL_law_1336 rfl ?_
          refine W.lcmp hx hb dL_law_1337 ?_
          have eV : (costG (sl ((X 0)) v0.toNatClampNeg) (X 0) v1 (wI true) (-1) : Int32) = (costG (sl z v0.toNatClampNeg) z v1 (wI true) (-1)) := by rw [hXz]
          refine lv_if_eq (tgt := 1343) hx hb dL_law_1338 (by decide) (fun c7 => ?_) (fun c7 => absurd ((lg_cmp_eq _ _).mpr (congrArg Int32.toInt64 eV)) c7)
          refine lv_goto (tgt := 1677) hx hb dL_law_1343 (by decide) ?_
          exact K _ _ _ _ _ _ _ _ _ _ _ _ _ _ _ _ _ _ (by exact rel_mono hR2 (by omega)) hP hD hS (lv_sub hl [2, 3, 4, 5, 6] rfl)
        · have hT2 : ¬ (coT v0 v1) = 0 := fun q9 => hT (eT.trans q9)
          have hP : va_P D vwCl ([(m0, .inr (6, [.ref m1, .int (nI w), .ref m2, .int (nI n0), .ref m3, .int (coT v0 v1), .int (-1), .ref m4, .int rd, .int nu, .int du, .ref m5, .long hs])), (m1, .inl (kA 0, 148, .inl z)), (m2, .inl (kA 0, 888, .inl h)), (m3, .inl (kA 0, 60, .inl tx)), (m4, .inl (kA 0, 72, .inl pt)), (m5, .inl (kA 0, 148, .inl kp))] ++ ([(o, oO kA (f))] ++ cw kA ad X)) H := Pcg (by simp only [if_neg hT, if_neg hT2]) hP
          have hD : va_D (fun q => s.heap.size ≤ q) ([(m0, .inr (6, [.ref m1, .int (nI w), .ref m2, .int (nI n0), .ref m3, .int (coT v0 v1), .int (-1), .ref m4, .int rd, .int nu, .int du, .ref m5, .long hs])), (m1, .inl (kA 0, 148, .inl z)), (m2, .inl (kA 0, 888, .inl h)), (m3, .inl (kA 0, 60, .inl tx)), (m4, .inl (kA 0, 72, .inl pt)), (m5, .inl (kA 0, 148, .inl kp))] ++ ([(o, oO kA (f))] ++ cw kA ad X)) := Dcg (by simp only [if_neg hT, if_neg hT2]) hD
          refine W_top (v' := .int (0)) (congrArg Value.int (if_neg hT2)) ?_
          refine lv_istore (lv' := [(6, .int (0)), (5, .int (coT v0 v1)), (0, .ref b), (1, .ref (ad 0)), (2, .ref m0), (3, .ref o), (4, .int (nI i))]) hx hb dL_law_1313 hl (by decide) rfl (fun ls hl => ?_)
          refine lv_aload_n hx hb dL_law_1315 rfl (lv_at hl 4 rfl) ?_
          refine cs_p (runV (As := []) (rest := []) ⟨hx, hb, hml, hown, hts⟩ (m_X6_thrown l D kA m0 m1 m2 m3 m4 m5 z h tx pt kp (nI w) (nI n0) (coT v0 v1) (-1) rd nu du hs) q_810 q_811 q_812 q_7 q_813 hd_X6_thrown ⟨rfl, rfl⟩ ⟨Nat.le_of_ble_eq_true rfl, Nat.le_of_ble_eq_true rfl⟩ hK hP.l hD.lf 0 (ci := 6) (C := RX6) (T := TX6) (N := 13) rfl rfl rfl hl.1 rfl (Nat.le_of_ble_eq_true rfl) dL_law_1316 ⟨hroom.1, hroom.2⟩) ?_
          refine lv_iload hx hb dL_law_1319 (lv_at hl 1 rfl) ?_
          refine lv_icmp_eq (tgt := 1326) hx hb dL_law_1321 (by decide) (fun c9 => ?_) (fun c9 => absurd (eT.symm) c9)
          refine lv_iload hx hb dL_law_1326 (lv_at hl 1 rfl) ?_
          refine lv_if_ne (tgt := 1343) hx hb dL_law_1328 (by decide) (fun c8 => ?_) (fun c8 => absurd c8 hT)
          refine lv_goto (tgt := 1677) hx hb dL_law_1343 (by decide) ?_
          exact K _ _ _ _ _ _ _ _ _ _ _ _ _ _ _ _ _ _ (by exact rel_mono hR2 (by omega)) hP hD hS (lv_sub hl [2, 3, 4, 5, 6] rfl)

set_option maxRecDepth 100000 in
set_option maxHeartbeats 4000000 in
theorem k_ifHomed {p : Program} {l : Launch} {e : Env} {s : State} {m : MethodId} {below : List Frame} {meth : Method} {c : Code} {Q : State → Prop} {D : va_G} {kA ad : Nat → Nat} {m0 m1 m2 m3 m4 m5 o b L i N cells slots : Nat} {xs : Nat → Int32} (C0 : LC l p s m meth c D kA b L xs) {X : Nat → Nat → Int32} {z h tx pt kp : Nat → Int32} {w n0 r : Nat} {th rd nu du : Int32} {hs : Int64} {f : Nat → Int64} {H : Heap} {locs : List Loc} {ls : Array Slot} (hR2 : REL X z h tx w n0 r N) (hN : N + 1000 ≤ 600000) (hi : i + 4 ≤ L) (hL : L ≤ 2048) (hP : va_P D vwCl (LWd kA ad m0 m1 m2 m3 m4 m5 o X z h tx pt kp w n0 th rd nu du hs f) H) (hD : va_D (fun q => s.heap.size ≤ q) (LWd kA ad m0 m1 m2 m3 m4 m5 o X z h tx pt kp w n0 th rd nu du hs f)) (hS : va_S (fun q => s.heap.size ≤ q) s.heap H locs) (hl : lv_has ls 9 (lB ad b m0 o i)) (hroom : cells + 1 ≤ 601024 ∧ slots + 6 ≤ 7293034) (K : KT p l e s m below meth c Q D kA ad m0 m1 m2 m3 m4 m5 o b i (N + 1000) (cells + 1) (slots + 6)) : W p l e room_1 s m #[Value.ref b] below meth c H locs cells slots Q (F0 m 1346 ls []) := by
  obtain ⟨hx, hb, hml, hown, hts, hK, hXb, hbl, hX0, hLW, hnt⟩ := C0
  obtain ⟨hXz, hI, hC, hw6, hr6, h80, h81, h82, hN3, hTB, hring⟩ := id hR2
  have hn60 := hTB.1
  have hl : lv_has ls 9 [(0, .ref b), (1, .ref (ad 0)), (2, .ref m0), (3, .ref o), (4, .int (nI i))] := hl
  have hP : va_P D vwCl (mL kA m0 m1 m2 m3 m4 m5 z h tx pt kp (nI w) (nI n0) th (-1) rd nu du hs ++ ([(o, oO kA f)] ++ cw kA ad X)) H := hP
  have hD : va_D (fun q => s.heap.size ≤ q) (mL kA m0 m1 m2 m3 m4 m5 z h tx pt kp (nI w) (nI n0) th (-1) rd nu du hs ++ ([(o, oO kA f)] ++ cw kA ad X)) := hD
  obtain ⟨v0, hv0⟩ : ∃ y, xs (nI (i + 1)).toNatClampNeg = y := ⟨_, rfl⟩
  obtain ⟨v1, hv1⟩ : ∃ y, xs (nI (i + 2)).toNatClampNeg = y := ⟨_, rfl⟩
  refine lv_aload_n hx hb dL_law_1346 rfl (lv_at hl 1 rfl) ?_
  refine lv_aload_n hx hb dL_law_1347 rfl (lv_at hl 0 rfl) ?_
  refine lv_iload hx hb dL_law_1348 (lv_at hl 4 rfl) ?_
  refine lv_iconst (v := 1) hx hb dL_law_1350 (by decide) ?_
  refine lv_iadd hx hb dL_law_1351 ?_
  refine W_top (v' := .int (nI (i + 1))) (congrArg Value.int (nI_add i 1)) ?_
  refine va_sld hx hb hXb hbl (Nat.not_le.mpr hbl) hS (in_nI (j := i + 1) rfl (by omega) (by omega)) dL_law_1352 ?_
  refine W_top (v' := .int v0) (congrArg Value.int hv0) ?_
  refine lv_aload_n hx hb dL_law_1353 rfl (lv_at hl 0 rfl) ?_
  refine lv_iload hx hb dL_law_1354 (lv_at hl 4 rfl) ?_
  refine lv_iconst (v := 2) hx hb dL_law_1356 (by decide) ?_
  refine lv_iadd hx hb dL_law_1357 ?_
  refine W_top (v' := .int (nI (i + 2))) (congrArg Value.int (nI_add i 2)) ?_
  refine va_sld hx hb hXb hbl (Nat.not_le.mpr hbl) hS (in_nI (j := i + 2) rfl (by omega) (by omega)) dL_law_1358 ?_
  refine W_top (v' := .int v1) (congrArg Value.int hv1) ?_
  refine lv_aload_n hx hb dL_law_1359 rfl (lv_at hl 3 rfl) ?_
  have hXH : XW (Aw (cw kA ad X)) s H := (hX0.kept hS.2.1).narrow (fun q9 h9 => aw_D hD.rt.rt q9 h9)
  refine cs_fk (wrunS (As := [.ref (ad 0), .int v0, .int v1, .ref o]) (rest := []) ⟨hx, hb, hml, hown, hts⟩ (w_ifHomed l D kA ad X v0 v1 o f  hnt) q_735 q_736 q_0 q_737 hdw_ifHomed ⟨rfl, rfl⟩ ⟨Nat.le_of_ble_eq_true rfl, Nat.le_of_ble_eq_true rfl⟩ hK hP.r hD.rt hXH hLW rfl hl.1 rfl (Nat.le_of_ble_eq_true rfl) dL_law_1360 ⟨hroom.1, hroom.2⟩) hS (aw_D hD.rt) (fun H locs hP1 hk1 hS => ?_)
  obtain ⟨hP, hD⟩ := jR hP hD hk1 hP1 lw_fst
  clear hP1 hk1 hXH
  refine lv_istore (lv' := [(5, .int (ihT v0 v1)), (0, .ref b), (1, .ref (ad 0)), (2, .ref m0), (3, .ref o), (4, .int (nI i))]) hx hb dL_law_1363 hl (by decide) rfl (fun ls hl => ?_)
  refine lv_aload_n hx hb dL_law_1365 rfl (lv_at hl 3 rfl) ?_
  refine lv_aload_n hx hb dL_law_1366 rfl (lv_at hl 1 rfl) ?_
  refine lv_iload hx hb dL_law_1367 (lv_at hl 5 rfl) ?_
  refine lv_iconst (v := 1) hx hb dL_law_1369 (by decide) ?_
  refine lv_iadd hx hb dL_law_1370 ?_
  refine W_top (v' := .int (nI (i + 1))) (congrArg Value.int (nI_add i 1)) ?_
  refine va_sld hx hb hXb hbl (Nat.not_le.mpr hbl) hS (in_nI (j := i + 1) rfl (by omega) (by omega)) dL_law_1371 ?_
  refine W_top (v' := .int v0) (congrArg Value.int hv0) ?_
  refine lv_aload_n hx hb dL_law_1372 rfl (lv_at hl 1 rfl) ?_
  refine lv_iload hx hb dL_law_1373 (lv_at hl 5 rfl) ?_
  refine lv_iconst (v := 2) hx hb dL_law_1375 (by decide) ?_
  refine lv_iadd hx hb dL_law_1376 ?_
  refine W_top (v' := .int (nI (i + 2))) (congrArg Value.int (nI_add i 2)) ?_
  refine va_sld hx hb hXb hbl (Nat.not_le.mpr hbl) hS (in_nI (j := i + 2) rfl (by omega) (by omega)) dL_law_1377 ?_
  refine W_top (v' := .int v1) (congrArg Value.int hv1) ?_
  have eT : (ihT v0 v1) = (ihT v0 v1) := rfl
  refine cs_fs (runV (As := [.int v0, .int v1]) (rest := []) ⟨hx, hb, hml, hown, hts⟩ (m_X6_ifHomed l D kA m0 m1 m2 m3 m4 m5 z h tx pt kp (nI w) (nI n0) th (-1) rd nu du hs v0 v1 hI) q_1043 q_1044 q_1045 q_7 q_1046 hd_X6_ifHomed ⟨rfl, rfl⟩ ⟨Nat.le_of_ble_eq_true rfl, Nat.le_of_ble_eq_true rfl⟩ hK hP.l hD.lf 0 (ci := 6) (C := RX6) (T := TX6) (N := 13) rfl rfl rfl hl.1 rfl (Nat.le_of_ble_eq_true rfl) dL_law_1378 ⟨hroom.1, hroom.2⟩) hS (aw_D hD.lf) (fun H locs hP1 hk1 hS => ?_)
  obtain ⟨hP, hD⟩ := jL hP hD hk1 hP1 rfl
  clear hP1 hk1
  by_cases hT : (ihT v0 v1) = 0
  · have hT2 : (ihT v0 v1) = 0 := eT.symm.trans hT
    have hP : va_P D vwCl ([(m0, .inr (6, [.ref m1, .int (nI w), .ref m2, .int (nI n0), .ref m3, .int (ihT v0 v1), .int (-1), .ref m4, .int rd, .int nu, .int du, .ref m5, .long hs])), (m1, .inl (kA 0, 148, .inl z)), (m2, .inl (kA 0, 888, .inl h)), (m3, .inl (kA 0, 60, .inl tx)), (m4, .inl (kA 0, 72, .inl pt)), (m5, .inl (kA 0, 148, .inl (z)))] ++ ([(o, oO kA (vp_updL f 0 (hfF (X 7) (X 0) v0.toNatClampNeg v1 : Int32).toInt64))] ++ cw kA ad ((up2 X 7 (hfT (X 7) (X 0) v0.toNatClampNeg))))) H := Pcg (by simp only [if_pos hT, if_pos hT2]) hP
    have hD : va_D (fun q => s.heap.size ≤ q) ([(m0, .inr (6, [.ref m1, .int (nI w), .ref m2, .int (nI n0), .ref m3, .int (ihT v0 v1), .int (-1), .ref m4, .int rd, .int nu, .int du, .ref m5, .long hs])), (m1, .inl (kA 0, 148, .inl z)), (m2, .inl (kA 0, 888, .inl h)), (m3, .inl (kA 0, 60, .inl tx)), (m4, .inl (kA 0, 72, .inl pt)), (m5, .inl (kA 0, 148, .inl (z)))] ++ ([(o, oO kA (vp_updL f 0 (hfF (X 7) (X 0) v0.toNatClampNeg v1 : Int32).toInt64))] ++ cw kA ad ((up2 X 7 (hfT (X 7) (X 0) v0.toNatClampNeg))))) := Dcg (by simp only [if_pos hT, if_pos hT2]) hD
    refine W_top (v' := .int (htF z v0.toNatClampNeg v1)) (congrArg Value.int (if_pos hT2)) ?_
    refine lv_istore (lv' := [(6, .int (htF z v0.toNatClampNeg v1)), (5, .int (ihT v0 v1)), (0, .ref b), (1, .ref (ad 0)), (2, .ref m0), (3, .ref o), (4, .int (nI i))]) hx hb dL_law_1381 hl (by decide) rfl (fun ls hl => ?_)
    refine lv_aload_n hx hb dL_law_1383 rfl (lv_at hl 4 rfl) ?_
    refine cs_p (runV (As := []) (rest := []) ⟨hx, hb, hml, hown, hts⟩ (m_X6_thrown l D kA m0 m1 m2 m3 m4 m5 z h tx pt z (nI w) (nI n0) (ihT v0 v1) (-1) rd nu du hs) q_810 q_811 q_812 q_7 q_813 hd_X6_thrown ⟨rfl, rfl⟩ ⟨Nat.le_of_ble_eq_true rfl, Nat.le_of_ble_eq_true rfl⟩ hK hP.l hD.lf 0 (ci := 6) (C := RX6) (T := TX6) (N := 13) rfl rfl rfl hl.1 rfl (Nat.le_of_ble_eq_true rfl) dL_law_1384 ⟨hroom.1, hroom.2⟩) ?_
    refine lv_iload hx hb dL_law_1387 (lv_at hl 1 rfl) ?_
    refine lv_icmp_eq (tgt := 1394) hx hb dL_law_1389 (by decide) (fun c9 => ?_) (fun c9 => absurd (eT.symm) c9)
    refine lv_iload hx hb dL_law_1394 (lv_at hl 1 rfl) ?_
    refine lv_if_ne (tgt := 1411) hx hb dL_law_1396 (by decide) (fun c8 => absurd hT c8) (fun c8 => ?_)
    refine lv_aload_n hx hb dL_law_1399 rfl (lv_at hl 5 rfl) ?_
    refine lv_iconst (v := 0) hx hb dL_law_1400 (by decide) ?_
    refine va_lald hx hb hK hP 6 3 rfl rfl (in_nI (j := 0) rfl (by omega) (by decide)) dL_law_1401 ?_
    refine W_top (v' := .long (hfF (X 7) (X 0) v0.toNatClampNeg v1 : Int32).toInt64) rfl ?_
    refine lv_iload hx hb dL_law_1402 (lv_at hl 0 rfl) ?_
    refine lv_i2l (v := (htF z v0.toNatClampNeg v1 : Int32).toInt64) hx hb dL_law_1404 rfl ?_
    refine W.lcmp hx hb dL_law_1405 ?_
    have eV : (hfF (X 7) (X 0) v0.toNatClampNeg v1 : Int32) = (htF z v0.toNatClampNeg v1) := by rw [hXz]; exact hf_ht hI (wi3 (ihT_0 hT2).1)
    refine lv_if_eq (tgt := 1411) hx hb dL_law_1406 (by decide) (fun c7 => ?_) (fun c7 => absurd ((lg_cmp_eq _ _).mpr (congrArg Int32.toInt64 eV)) c7)
    refine lv_goto (tgt := 1677) hx hb dL_law_1411 (by decide) ?_
    exact K _ _ _ _ _ _ _ _ _ _ _ _ _ _ _ _ _ _ (by exact rel_mono (rel_7 hR2) (by omega)) hP hD hS (lv_sub hl [2, 3, 4, 5, 6] rfl)
  · have hT2 : ¬ (ihT v0 v1) = 0 := fun q9 => hT (eT.trans q9)
    have hP : va_P D vwCl ([(m0, .inr (6, [.ref m1, .int (nI w), .ref m2, .int (nI n0), .ref m3, .int (ihT v0 v1), .int (-1), .ref m4, .int rd, .int nu, .int du, .ref m5, .long hs])), (m1, .inl (kA 0, 148, .inl z)), (m2, .inl (kA 0, 888, .inl h)), (m3, .inl (kA 0, 60, .inl tx)), (m4, .inl (kA 0, 72, .inl pt)), (m5, .inl (kA 0, 148, .inl (kp)))] ++ ([(o, oO kA (f))] ++ cw kA ad (X))) H := Pcg (by simp only [if_neg hT, if_neg hT2]) hP
    have hD : va_D (fun q => s.heap.size ≤ q) ([(m0, .inr (6, [.ref m1, .int (nI w), .ref m2, .int (nI n0), .ref m3, .int (ihT v0 v1), .int (-1), .ref m4, .int rd, .int nu, .int du, .ref m5, .long hs])), (m1, .inl (kA 0, 148, .inl z)), (m2, .inl (kA 0, 888, .inl h)), (m3, .inl (kA 0, 60, .inl tx)), (m4, .inl (kA 0, 72, .inl pt)), (m5, .inl (kA 0, 148, .inl (kp)))] ++ ([(o, oO kA (f))] ++ cw kA ad (X))) := Dcg (by simp only [if_neg hT, if_neg hT2]) hD
    refine W_top (v' := .int (0)) (congrArg Value.int (if_neg hT2)) ?_
    refine lv_istore (lv' := [(6, .int (0)), (5, .int (ihT v0 v1)), (0, .ref b), (1, .ref (ad 0)), (2, .ref m0), (3, .ref o), (4, .int (nI i))]) hx hb dL_law_1381 hl (by decide) rfl (fun ls hl => ?_)
    refine lv_aload_n hx hb dL_law_1383 rfl (lv_at hl 4 rfl) ?_
    refine cs_p (runV (As := []) (rest := []) ⟨hx, hb, hml, hown, hts⟩ (m_X6_thrown l D kA m0 m1 m2 m3 m4 m5 z h tx pt kp (nI w) (nI n0) (ihT v0 v1) (-1) rd nu du hs) q_810 q_811 q_812 q_7 q_813 hd_X6_thrown ⟨rfl, rfl⟩ ⟨Nat.le_of_ble_eq_true rfl, Nat.le_of_ble_eq_true rfl⟩ hK hP.l hD.lf 0 (ci := 6) (C := RX6) (T := TX6) (N := 13) rfl rfl rfl hl.1 rfl (Nat.le_of_ble_eq_true rfl) dL_law_1384 ⟨hroom.1, hroom.2⟩) ?_
    refine lv_iload hx hb dL_law_1387 (lv_at hl 1 rfl) ?_
    refine lv_icmp_eq (tgt := 1394) hx hb dL_law_1389 (by decide) (fun c9 => ?_) (fun c9 => absurd (eT.symm) c9)
    refine lv_iload hx hb dL_law_1394 (lv_at hl 1 rfl) ?_
    refine lv_if_ne (tgt := 1411) hx hb dL_law_1396 (by decide) (fun c8 => ?_) (fun c8 => absurd c8 hT)
    refine lv_goto (tgt := 1677) hx hb dL_law_1411 (by decide) ?_
    exact K _ _ _ _ _ _ _ _ _ _ _ _ _ _ _ _ _ _ (by exact rel_mono hR2 (by omega)) hP hD hS (lv_sub hl [2, 3, 4, 5, 6] rfl)

set_option maxRecDepth 100000 in
set_option maxHeartbeats 4000000 in
theorem k_reach {p : Program} {l : Launch} {e : Env} {s : State} {m : MethodId} {below : List Frame} {meth : Method} {c : Code} {Q : State → Prop} {D : va_G} {kA ad : Nat → Nat} {m0 m1 m2 m3 m4 m5 o b L i N cells slots : Nat} {xs : Nat → Int32} (C0 : LC l p s m meth c D kA b L xs) {X : Nat → Nat → Int32} {z h tx pt kp : Nat → Int32} {w n0 r : Nat} {th rd nu du : Int32} {hs : Int64} {f : Nat → Int64} {H : Heap} {locs : List Loc} {ls : Array Slot} (hR2 : REL X z h tx w n0 r N) (hN : N + 1000 ≤ 600000) (hi : i + 4 ≤ L) (hL : L ≤ 2048) (hP : va_P D vwCl (LWd kA ad m0 m1 m2 m3 m4 m5 o X z h tx pt kp w n0 th rd nu du hs f) H) (hD : va_D (fun q => s.heap.size ≤ q) (LWd kA ad m0 m1 m2 m3 m4 m5 o X z h tx pt kp w n0 th rd nu du hs f)) (hS : va_S (fun q => s.heap.size ≤ q) s.heap H locs) (hl : lv_has ls 9 (lB ad b m0 o i)) (hroom : cells + 1 ≤ 601024 ∧ slots + 6 ≤ 7293034) (K : KT p l e s m below meth c Q D kA ad m0 m1 m2 m3 m4 m5 o b i (N + 1000) (cells + 1) (slots + 6)) : W p l e room_1 s m #[Value.ref b] below meth c H locs cells slots Q (F0 m 1414 ls []) := by
  obtain ⟨hx, hb, hml, hown, hts, hK, hXb, hbl, hX0, hLW, hnt⟩ := C0
  obtain ⟨hXz, hI, hC, hw6, hr6, h80, h81, h82, hN3, hTB, hring⟩ := id hR2
  have hn60 := hTB.1
  have hl : lv_has ls 9 [(0, .ref b), (1, .ref (ad 0)), (2, .ref m0), (3, .ref o), (4, .int (nI i))] := hl
  have hP : va_P D vwCl (mL kA m0 m1 m2 m3 m4 m5 z h tx pt kp (nI w) (nI n0) th (-1) rd nu du hs ++ ([(o, oO kA f)] ++ cw kA ad X)) H := hP
  have hD : va_D (fun q => s.heap.size ≤ q) (mL kA m0 m1 m2 m3 m4 m5 z h tx pt kp (nI w) (nI n0) th (-1) rd nu du hs ++ ([(o, oO kA f)] ++ cw kA ad X)) := hD
  obtain ⟨v0, hv0⟩ : ∃ y, xs (nI (i + 1)).toNatClampNeg = y := ⟨_, rfl⟩
  obtain ⟨v1, hv1⟩ : ∃ y, xs (nI (i + 2)).toNatClampNeg = y := ⟨_, rfl⟩
  by_cases hbz : v1 = 0
  · skip
    refine lv_aload_n hx hb dL_law_1414 rfl (lv_at hl 1 rfl) ?_
    refine lv_aload_n hx hb dL_law_1415 rfl (lv_at hl 0 rfl) ?_
    refine lv_iload hx hb dL_law_1416 (lv_at hl 4 rfl) ?_
    refine lv_iconst (v := 1) hx hb dL_law_1418 (by decide) ?_
    refine lv_iadd hx hb dL_law_1419 ?_
    refine W_top (v' := .int (nI (i + 1))) (congrArg Value.int (nI_add i 1)) ?_
    refine va_sld hx hb hXb hbl (Nat.not_le.mpr hbl) hS (in_nI (j := i + 1) rfl (by omega) (by omega)) dL_law_1420 ?_
    refine W_top (v' := .int v0) (congrArg Value.int hv0) ?_
    refine lv_aload_n hx hb dL_law_1421 rfl (lv_at hl 0 rfl) ?_
    refine lv_iload hx hb dL_law_1422 (lv_at hl 4 rfl) ?_
    refine lv_iconst (v := 2) hx hb dL_law_1424 (by decide) ?_
    refine lv_iadd hx hb dL_law_1425 ?_
    refine W_top (v' := .int (nI (i + 2))) (congrArg Value.int (nI_add i 2)) ?_
    refine va_sld hx hb hXb hbl (Nat.not_le.mpr hbl) hS (in_nI (j := i + 2) rfl (by omega) (by omega)) dL_law_1426 ?_
    refine W_top (v' := .int v1) (congrArg Value.int hv1) ?_
    refine lv_if_eq (tgt := 1434) hx hb dL_law_1427 (by decide) (fun c9 => ?_) (fun c9 => ?_)
    rotate_left
    · exact absurd hbz c9
    · skip
      refine lv_iconst (v := 0) hx hb dL_law_1434 (by decide) ?_
      refine lv_aload_n hx hb dL_law_1435 rfl (lv_at hl 3 rfl) ?_
      have hXH : XW (Aw (cw kA ad X)) s H := (hX0.kept hS.2.1).narrow (fun q9 h9 => aw_D hD.rt.rt q9 h9)
      refine cs_fk (wrunS (As := [.ref (ad 0), .int v0, .int (bI false), .ref o]) (rest := []) ⟨hx, hb, hml, hown, hts⟩ (w_reach l D kA ad X v0 false o f  hnt) q_743 q_744 q_0 q_745 hdw_reach ⟨rfl, rfl⟩ ⟨Nat.le_of_ble_eq_true rfl, Nat.le_of_ble_eq_true rfl⟩ hK hP.r hD.rt hXH hLW rfl hl.1 rfl (Nat.le_of_ble_eq_true rfl) dL_law_1436 ⟨hroom.1, hroom.2⟩) hS (aw_D hD.rt) (fun H locs hP1 hk1 hS => ?_)
      obtain ⟨hP, hD⟩ := jR hP hD hk1 hP1 lw_fst
      clear hP1 hk1 hXH
      refine lv_istore (lv' := [(5, .int (axT v0)), (0, .ref b), (1, .ref (ad 0)), (2, .ref m0), (3, .ref o), (4, .int (nI i))]) hx hb dL_law_1439 hl (by decide) rfl (fun ls hl => ?_)
      refine lv_aload_n hx hb dL_law_1441 rfl (lv_at hl 3 rfl) ?_
      refine lv_aload_n hx hb dL_law_1442 rfl (lv_at hl 1 rfl) ?_
      refine lv_iload hx hb dL_law_1443 (lv_at hl 5 rfl) ?_
      refine lv_iconst (v := 1) hx hb dL_law_1445 (by decide) ?_
      refine lv_iadd hx hb dL_law_1446 ?_
      refine W_top (v' := .int (nI (i + 1))) (congrArg Value.int (nI_add i 1)) ?_
      refine va_sld hx hb hXb hbl (Nat.not_le.mpr hbl) hS (in_nI (j := i + 1) rfl (by omega) (by omega)) dL_law_1447 ?_
      refine W_top (v' := .int v0) (congrArg Value.int hv0) ?_
      refine lv_aload_n hx hb dL_law_1448 rfl (lv_at hl 1 rfl) ?_
      refine lv_iload hx hb dL_law_1449 (lv_at hl 5 rfl) ?_
      refine lv_iconst (v := 2) hx hb dL_law_1451 (by decide) ?_
      refine lv_iadd hx hb dL_law_1452 ?_
      refine W_top (v' := .int (nI (i + 2))) (congrArg Value.int (nI_add i 2)) ?_
      refine va_sld hx hb hXb hbl (Nat.not_le.mpr hbl) hS (in_nI (j := i + 2) rfl (by omega) (by omega)) dL_law_1453 ?_
      refine W_top (v' := .int v1) (congrArg Value.int hv1) ?_
      refine lv_if_eq (tgt := 1461) hx hb dL_law_1454 (by decide) (fun c9 => ?_) (fun c9 => ?_)
      rotate_left
      · exact absurd hbz c9
      · skip
        refine lv_iconst (v := 0) hx hb dL_law_1461 (by decide) ?_
        have eT : (axT v0) = (axT v0) := rfl
        refine cs_fs (runV (As := [.int v0, .int (bI false)]) (rest := []) ⟨hx, hb, hml, hown, hts⟩ (m_X6_reach l D kA m0 m1 m2 m3 m4 m5 z h tx pt kp (nI w) (nI n0) th (-1) rd nu du hs v0 false hI) q_1059 q_1060 q_1061 q_7 q_1062 hd_X6_reach ⟨rfl, rfl⟩ ⟨Nat.le_of_ble_eq_true rfl, Nat.le_of_ble_eq_true rfl⟩ hK hP.l hD.lf 0 (ci := 6) (C := RX6) (T := TX6) (N := 13) rfl rfl rfl hl.1 rfl (Nat.le_of_ble_eq_true rfl) dL_law_1462 ⟨hroom.1, hroom.2⟩) hS (aw_D hD.lf) (fun H locs hP1 hk1 hS => ?_)
        obtain ⟨hP, hD⟩ := jL hP hD hk1 hP1 rfl
        clear hP1 hk1
        by_cases hT : (axT v0) = 0
        · have hT2 : (axT v0) = 0 := eT.symm.trans hT
          have hP : va_P D vwCl ([(m0, .inr (6, [.ref m1, .int (nI w), .ref m2, .int (nI n0), .ref m3, .int (axT v0), .int (-1), .ref m4, .int rd, .int nu, .int du, .ref m5, .long hs])), (m1, .inl (kA 0, 148, .inl z)), (m2, .inl (kA 0, 888, .inl h)), (m3, .inl (kA 0, 60, .inl tx)), (m4, .inl (kA 0, 72, .inl pt)), (m5, .inl (kA 0, 148, .inl (z)))] ++ ([(o, oO kA (vp_updL f 0 ((reF (X 7) (X 0) v0.toNatClampNeg (wI false)).1 : Int32).toInt64))] ++ cw kA ad ((up2 X 7 (reF (X 7) (X 0) v0.toNatClampNeg (wI false)).2)))) H := Pcg (by simp only [if_pos hT, if_pos hT2]) hP
          have hD : va_D (fun q => s.heap.size ≤ q) ([(m0, .inr (6, [.ref m1, .int (nI w), .ref m2, .int (nI n0), .ref m3, .int (axT v0), .int (-1), .ref m4, .int rd, .int nu, .int du, .ref m5, .long hs])), (m1, .inl (kA 0, 148, .inl z)), (m2, .inl (kA 0, 888, .inl h)), (m3, .inl (kA 0, 60, .inl tx)), (m4, .inl (kA 0, 72, .inl pt)), (m5, .inl (kA 0, 148, .inl (z)))] ++ ([(o, oO kA (vp_updL f 0 ((reF (X 7) (X 0) v0.toNatClampNeg (wI false)).1 : Int32).toInt64))] ++ cw kA ad ((up2 X 7 (reF (X 7) (X 0) v0.toNatClampNeg (wI false)).2)))) := Dcg (by simp only [if_pos hT, if_pos hT2]) hD
          refine W_top (v' := .int ((msL v0.toNatClampNeg (wI false) 100 z 0).1)) (congrArg Value.int (if_pos hT2)) ?_
          refine lv_istore (lv' := [(6, .int ((msL v0.toNatClampNeg (wI false) 100 z 0).1)), (5, .int (axT v0)), (0, .ref b), (1, .ref (ad 0)), (2, .ref m0), (3, .ref o), (4, .int (nI i))]) hx hb dL_law_1465 hl (by decide) rfl (fun ls hl => ?_)
          refine lv_aload_n hx hb dL_law_1467 rfl (lv_at hl 4 rfl) ?_
          refine cs_p (runV (As := []) (rest := []) ⟨hx, hb, hml, hown, hts⟩ (m_X6_thrown l D kA m0 m1 m2 m3 m4 m5 z h tx pt z (nI w) (nI n0) (axT v0) (-1) rd nu du hs) q_810 q_811 q_812 q_7 q_813 hd_X6_thrown ⟨rfl, rfl⟩ ⟨Nat.le_of_ble_eq_true rfl, Nat.le_of_ble_eq_true rfl⟩ hK hP.l hD.lf 0 (ci := 6) (C := RX6) (T := TX6) (N := 13) rfl rfl rfl hl.1 rfl (Nat.le_of_ble_eq_true rfl) dL_law_1468 ⟨hroom.1, hroom.2⟩) ?_
          refine lv_iload hx hb dL_law_1471 (lv_at hl 1 rfl) ?_
          refine lv_icmp_eq (tgt := 1478) hx hb dL_law_1473 (by decide) (fun c9 => ?_) (fun c9 => absurd (eT.symm) c9)
          refine lv_iload hx hb dL_law_1478 (lv_at hl 1 rfl) ?_
          refine lv_if_ne (tgt := 1495) hx hb dL_law_1480 (by decide) (fun c8 => absurd hT c8) (fun c8 => ?_)
          refine lv_aload_n hx hb dL_law_1483 rfl (lv_at hl 5 rfl) ?_
          refine lv_iconst (v := 0) hx hb dL_law_1484 (by decide) ?_
          refine va_lald hx hb hK hP 6 3 rfl rfl (in_nI (j := 0) rfl (by omega) (by decide)) dL_law_1485 ?_
          refine W_top (v' := .long ((reF (X 7) (X 0) v0.toNatClampNeg (wI false)).1 : Int32).toInt64) rfl ?_
          refine lv_iload hx hb dL_law_1486 (lv_at hl 0 rfl) ?_
          refine lv_i2l (v := ((msL v0.toNatClampNeg (wI false) 100 z 0).1 : Int32).toInt64) hx hb dL_law_1488 rfl ?_
          refine W.lcmp hx hb dL_law_1489 ?_
          have eV : ((reF (X 7) (X 0) v0.toNatClampNeg (wI false)).1 : Int32) = ((msL v0.toNatClampNeg (wI false) 100 z 0).1) := by rw [hXz]; exact re_eq hI (wi3 (axT_0 hT2))
          refine lv_if_eq (tgt := 1495) hx hb dL_law_1490 (by decide) (fun c7 => ?_) (fun c7 => absurd ((lg_cmp_eq _ _).mpr (congrArg Int32.toInt64 eV)) c7)
          refine lv_goto (tgt := 1677) hx hb dL_law_1495 (by decide) ?_
          exact K _ _ _ _ _ _ _ _ _ _ _ _ _ _ _ _ _ _ (by exact rel_mono (rel_7 hR2) (by omega)) hP hD hS (lv_sub hl [2, 3, 4, 5, 6] rfl)
        · have hT2 : ¬ (axT v0) = 0 := fun q9 => hT (eT.trans q9)
          have hP : va_P D vwCl ([(m0, .inr (6, [.ref m1, .int (nI w), .ref m2, .int (nI n0), .ref m3, .int (axT v0), .int (-1), .ref m4, .int rd, .int nu, .int du, .ref m5, .long hs])), (m1, .inl (kA 0, 148, .inl z)), (m2, .inl (kA 0, 888, .inl h)), (m3, .inl (kA 0, 60, .inl tx)), (m4, .inl (kA 0, 72, .inl pt)), (m5, .inl (kA 0, 148, .inl (kp)))] ++ ([(o, oO kA (f))] ++ cw kA ad (X))) H := Pcg (by simp only [if_neg hT, if_neg hT2]) hP
          have hD : va_D (fun q => s.heap.size ≤ q) ([(m0, .inr (6, [.ref m1, .int (nI w), .ref m2, .int (nI n0), .ref m3, .int (axT v0), .int (-1), .ref m4, .int rd, .int nu, .int du, .ref m5, .long hs])), (m1, .inl (kA 0, 148, .inl z)), (m2, .inl (kA 0, 888, .inl h)), (m3, .inl (kA 0, 60, .inl tx)), (m4, .inl (kA 0, 72, .inl pt)), (m5, .inl (kA 0, 148, .inl (kp)))] ++ ([(o, oO kA (f))] ++ cw kA ad (X))) := Dcg (by simp only [if_neg hT, if_neg hT2]) hD
          refine W_top (v' := .int (0)) (congrArg Value.int (if_neg hT2)) ?_
          refine lv_istore (lv' := [(6, .int (0)), (5, .int (axT v0)), (0, .ref b), (1, .ref (ad 0)), (2, .ref m0), (3, .ref o), (4, .int (nI i))]) hx hb dL_law_1465 hl (by decide) rfl (fun ls hl => ?_)
          refine lv_aload_n hx hb dL_law_1467 rfl (lv_at hl 4 rfl) ?_
          refine cs_p (runV (As := []) (rest := []) ⟨hx, hb, hml, hown, hts⟩ (m_X6_thrown l D kA m0 m1 m2 m3 m4 m5 z h tx pt kp (nI w) (nI n0) (axT v0) (-1) rd nu du hs) q_810 q_811 q_812 q_7 q_813 hd_X6_thrown ⟨rfl, rfl⟩ ⟨Nat.le_of_ble_eq_true rfl, Nat.le_of_ble_eq_true rfl⟩ hK hP.l hD.lf 0 (ci := 6) (C := RX6) (T := TX6) (N := 13) rfl rfl rfl hl.1 rfl (Nat.le_of_ble_eq_true rfl) dL_law_1468 ⟨hroom.1, hroom.2⟩) ?_
          refine lv_iload hx hb dL_law_1471 (lv_at hl 1 rfl) ?_
          refine lv_icmp_eq (tgt := 1478) hx hb dL_law_1473 (by decide) (fun c9 => ?_) (fun c9 => absurd (eT.symm) c9)
          refine lv_iload hx hb dL_law_1478 (lv_at hl 1 rfl) ?_
          refine lv_if_ne (tgt := 1495) hx hb dL_law_1480 (by decide) (fun c8 => ?_) (fun c8 => absurd c8 hT)
          refine lv_goto (tgt := 1677) hx hb dL_law_1495 (by decide) ?_
          exact K _ _ _ _ _ _ _ _ _ _ _ _ _ _ _ _ _ _ (by exact rel_mono hR2 (by omega)) hP hD hS (lv_sub hl [2, 3, 4, 5, 6] rfl)
  · skip
    refine lv_aload_n hx hb dL_law_1414 rfl (lv_at hl 1 rfl) ?_
    refine lv_aload_n hx hb dL_law_1415 rfl (lv_at hl 0 rfl) ?_
    refine lv_iload hx hb dL_law_1416 (lv_at hl 4 rfl) ?_
    refine lv_iconst (v := 1) hx hb dL_law_1418 (by decide) ?_
    refine lv_iadd hx hb dL_law_1419 ?_
    refine W_top (v' := .int (nI (i + 1))) (congrArg Value.int (nI_add i 1)) ?_
    refine va_sld hx hb hXb hbl (Nat.not_le.mpr hbl) hS (in_nI (j := i + 1) rfl (by omega) (by omega)) dL_law_1420 ?_
    refine W_top (v' := .int v0) (congrArg Value.int hv0) ?_
    refine lv_aload_n hx hb dL_law_1421 rfl (lv_at hl 0 rfl) ?_
    refine lv_iload hx hb dL_law_1422 (lv_at hl 4 rfl) ?_
    refine lv_iconst (v := 2) hx hb dL_law_1424 (by decide) ?_
    refine lv_iadd hx hb dL_law_1425 ?_
    refine W_top (v' := .int (nI (i + 2))) (congrArg Value.int (nI_add i 2)) ?_
    refine va_sld hx hb hXb hbl (Nat.not_le.mpr hbl) hS (in_nI (j := i + 2) rfl (by omega) (by omega)) dL_law_1426 ?_
    refine W_top (v' := .int v1) (congrArg Value.int hv1) ?_
    refine lv_if_eq (tgt := 1434) hx hb dL_law_1427 (by decide) (fun c9 => ?_) (fun c9 => ?_)
    · exact absurd c9 hbz
    · skip
      refine lv_iconst (v := 1) hx hb dL_law_1430 (by decide) ?_
      refine lv_goto (tgt := 1435) hx hb dL_law_1431 (by decide) ?_
      refine lv_aload_n hx hb dL_law_1435 rfl (lv_at hl 3 rfl) ?_
      have hXH : XW (Aw (cw kA ad X)) s H := (hX0.kept hS.2.1).narrow (fun q9 h9 => aw_D hD.rt.rt q9 h9)
      refine cs_fk (wrunS (As := [.ref (ad 0), .int v0, .int (bI true), .ref o]) (rest := []) ⟨hx, hb, hml, hown, hts⟩ (w_reach l D kA ad X v0 true o f  hnt) q_743 q_744 q_0 q_745 hdw_reach ⟨rfl, rfl⟩ ⟨Nat.le_of_ble_eq_true rfl, Nat.le_of_ble_eq_true rfl⟩ hK hP.r hD.rt hXH hLW rfl hl.1 rfl (Nat.le_of_ble_eq_true rfl) dL_law_1436 ⟨hroom.1, hroom.2⟩) hS (aw_D hD.rt) (fun H locs hP1 hk1 hS => ?_)
      obtain ⟨hP, hD⟩ := jR hP hD hk1 hP1 lw_fst
      clear hP1 hk1 hXH
      refine lv_istore (lv' := [(5, .int (axT v0)), (0, .ref b), (1, .ref (ad 0)), (2, .ref m0), (3, .ref o), (4, .int (nI i))]) hx hb dL_law_1439 hl (by decide) rfl (fun ls hl => ?_)
      refine lv_aload_n hx hb dL_law_1441 rfl (lv_at hl 3 rfl) ?_
      refine lv_aload_n hx hb dL_law_1442 rfl (lv_at hl 1 rfl) ?_
      refine lv_iload hx hb dL_law_1443 (lv_at hl 5 rfl) ?_
      refine lv_iconst (v := 1) hx hb dL_law_1445 (by decide) ?_
      refine lv_iadd hx hb dL_law_1446 ?_
      refine W_top (v' := .int (nI (i + 1))) (congrArg Value.int (nI_add i 1)) ?_
      refine va_sld hx hb hXb hbl (Nat.not_le.mpr hbl) hS (in_nI (j := i + 1) rfl (by omega) (by omega)) dL_law_1447 ?_
      refine W_top (v' := .int v0) (congrArg Value.int hv0) ?_
      refine lv_aload_n hx hb dL_law_1448 rfl (lv_at hl 1 rfl) ?_
      refine lv_iload hx hb dL_law_1449 (lv_at hl 5 rfl) ?_
      refine lv_iconst (v := 2) hx hb dL_law_1451 (by decide) ?_
      refine lv_iadd hx hb dL_law_1452 ?_
      refine W_top (v' := .int (nI (i + 2))) (congrArg Value.int (nI_add i 2)) ?_
      refine va_sld hx hb hXb hbl (Nat.not_le.mpr hbl) hS (in_nI (j := i + 2) rfl (by omega) (by omega)) dL_law_1453 ?_
      refine W_top (v' := .int v1) (congrArg Value.int hv1) ?_
      refine lv_if_eq (tgt := 1461) hx hb dL_law_1454 (by decide) (fun c9 => ?_) (fun c9 => ?_)
      · exact absurd c9 hbz
      · skip
        refine lv_iconst (v := 1) hx hb dL_law_1457 (by decide) ?_
        refine lv_goto (tgt := 1462) hx hb dL_law_1458 (by decide) ?_
        have eT : (axT v0) = (axT v0) := rfl
        refine cs_fs (runV (As := [.int v0, .int (bI true)]) (rest := []) ⟨hx, hb, hml, hown, hts⟩ (m_X6_reach l D kA m0 m1 m2 m3 m4 m5 z h tx pt kp (nI w) (nI n0) th (-1) rd nu du hs v0 true hI) q_1059 q_1060 q_1061 q_7 q_1062 hd_X6_reach ⟨rfl, rfl⟩ ⟨Nat.le_of_ble_eq_true rfl, Nat.le_of_ble_eq_true rfl⟩ hK hP.l hD.lf 0 (ci := 6) (C := RX6) (T := TX6) (N := 13) rfl rfl rfl hl.1 rfl (Nat.le_of_ble_eq_true rfl) dL_law_1462 ⟨hroom.1, hroom.2⟩) hS (aw_D hD.lf) (fun H locs hP1 hk1 hS => ?_)
        obtain ⟨hP, hD⟩ := jL hP hD hk1 hP1 rfl
        clear hP1 hk1
        by_cases hT : (axT v0) = 0
        · have hT2 : (axT v0) = 0 := eT.symm.trans hT
          have hP : va_P D vwCl ([(m0, .inr (6, [.ref m1, .int (nI w), .ref m2, .int (nI n0), .ref m3, .int (axT v0), .int (-1), .ref m4, .int rd, .int nu, .int du, .ref m5, .long hs])), (m1, .inl (kA 0, 148, .inl z)), (m2, .inl (kA 0, 888, .inl h)), (m3, .inl (kA 0, 60, .inl tx)), (m4, .inl (kA 0, 72, .inl pt)), (m5, .inl (kA 0, 148, .inl (z)))] ++ ([(o, oO kA (vp_updL f 0 ((reF (X 7) (X 0) v0.toNatClampNeg (wI true)).1 : Int32).toInt64))] ++ cw kA ad ((up2 X 7 (reF (X 7) (X 0) v0.toNatClampNeg (wI true)).2)))) H := Pcg (by simp only [if_pos hT, if_pos hT2]) hP
          have hD : va_D (fun q => s.heap.size ≤ q) ([(m0, .inr (6, [.ref m1, .int (nI w), .ref m2, .int (nI n0), .ref m3, .int (axT v0), .int (-1), .ref m4, .int rd, .int nu, .int du, .ref m5, .long hs])), (m1, .inl (kA 0, 148, .inl z)), (m2, .inl (kA 0, 888, .inl h)), (m3, .inl (kA 0, 60, .inl tx)), (m4, .inl (kA 0, 72, .inl pt)), (m5, .inl (kA 0, 148, .inl (z)))] ++ ([(o, oO kA (vp_updL f 0 ((reF (X 7) (X 0) v0.toNatClampNeg (wI true)).1 : Int32).toInt64))] ++ cw kA ad ((up2 X 7 (reF (X 7) (X 0) v0.toNatClampNeg (wI true)).2)))) := Dcg (by simp only [if_pos hT, if_pos hT2]) hD
          refine W_top (v' := .int ((msL v0.toNatClampNeg (wI true) 100 z 0).1)) (congrArg Value.int (if_pos hT2)) ?_
          refine lv_istore (lv' := [(6, .int ((msL v0.toNatClampNeg (wI true) 100 z 0).1)), (5, .int (axT v0)), (0, .ref b), (1, .ref (ad 0)), (2, .ref m0), (3, .ref o), (4, .int (nI i))]) hx hb dL_law_1465 hl (by decide) rfl (fun ls hl => ?_)
          refine lv_aload_n hx hb dL_law_1467 rfl (lv_at hl 4 rfl) ?_
          refine cs_p (runV (As := []) (rest := []) ⟨hx, hb, hml, hown, hts⟩ (m_X6_thrown l D kA m0 m1 m2 m3 m4 m5 z h tx pt z (nI w) (nI n0) (axT v0) (-1) rd nu du hs) q_810 q_811 q_812 q_7 q_813 hd_X6_thrown ⟨rfl, rfl⟩ ⟨Nat.le_of_ble_eq_true rfl, Nat.le_of_ble_eq_true rfl⟩ hK hP.l hD.lf 0 (ci := 6) (C := RX6) (T := TX6) (N := 13) rfl rfl rfl hl.1 rfl (Nat.le_of_ble_eq_true rfl) dL_law_1468 ⟨hroom.1, hroom.2⟩) ?_
          refine lv_iload hx hb dL_law_1471 (lv_at hl 1 rfl) ?_
          refine lv_icmp_eq (tgt := 1478) hx hb dL_law_1473 (by decide) (fun c9 => ?_) (fun c9 => absurd (eT.symm) c9)
          refine lv_iload hx hb dL_law_1478 (lv_at hl 1 rfl) ?_
          refine lv_if_ne (tgt := 1495) hx hb dL_law_1480 (by decide) (fun c8 => absurd hT c8) (fun c8 => ?_)
          refine lv_aload_n hx hb dL_law_1483 rfl (lv_at hl 5 rfl) ?_
          refine lv_iconst (v := 0) hx hb dL_law_1484 (by decide) ?_
          refine va_lald hx hb hK hP 6 3 rfl rfl (in_nI (j := 0) rfl (by omega) (by decide)) dL_law_1485 ?_
          refine W_top (v' := .long ((reF (X 7) (X 0) v0.toNatClampNeg (wI true)).1 : Int32).toInt64) rfl ?_
          refine lv_iload hx hb dL_law_1486 (lv_at hl 0 rfl) ?_
          refine lv_i2l (v := ((msL v0.toNatClampNeg (wI true) 100 z 0).1 : Int32).toInt64) hx hb dL_law_1488 rfl ?_
          refine W.lcmp hx hb dL_law_1489 ?_
          have eV : ((reF (X 7) (X 0) v0.toNatClampNeg (wI true)).1 : Int32) = ((msL v0.toNatClampNeg (wI true) 100 z 0).1) := by rw [hXz]; exact re_eq hI (wi3 (axT_0 hT2))
          refine lv_if_eq (tgt := 1495) hx hb dL_law_1490 (by decide) (fun c7 => ?_) (fun c7 => absurd ((lg_cmp_eq _ _).mpr (congrArg Int32.toInt64 eV)) c7)
          refine lv_goto (tgt := 1677) hx hb dL_law_1495 (by decide) ?_
          exact K _ _ _ _ _ _ _ _ _ _ _ _ _ _ _ _ _ _ (by exact rel_mono (rel_7 hR2) (by omega)) hP hD hS (lv_sub hl [2, 3, 4, 5, 6] rfl)
        · have hT2 : ¬ (axT v0) = 0 := fun q9 => hT (eT.trans q9)
          have hP : va_P D vwCl ([(m0, .inr (6, [.ref m1, .int (nI w), .ref m2, .int (nI n0), .ref m3, .int (axT v0), .int (-1), .ref m4, .int rd, .int nu, .int du, .ref m5, .long hs])), (m1, .inl (kA 0, 148, .inl z)), (m2, .inl (kA 0, 888, .inl h)), (m3, .inl (kA 0, 60, .inl tx)), (m4, .inl (kA 0, 72, .inl pt)), (m5, .inl (kA 0, 148, .inl (kp)))] ++ ([(o, oO kA (f))] ++ cw kA ad (X))) H := Pcg (by simp only [if_neg hT, if_neg hT2]) hP
          have hD : va_D (fun q => s.heap.size ≤ q) ([(m0, .inr (6, [.ref m1, .int (nI w), .ref m2, .int (nI n0), .ref m3, .int (axT v0), .int (-1), .ref m4, .int rd, .int nu, .int du, .ref m5, .long hs])), (m1, .inl (kA 0, 148, .inl z)), (m2, .inl (kA 0, 888, .inl h)), (m3, .inl (kA 0, 60, .inl tx)), (m4, .inl (kA 0, 72, .inl pt)), (m5, .inl (kA 0, 148, .inl (kp)))] ++ ([(o, oO kA (f))] ++ cw kA ad (X))) := Dcg (by simp only [if_neg hT, if_neg hT2]) hD
          refine W_top (v' := .int (0)) (congrArg Value.int (if_neg hT2)) ?_
          refine lv_istore (lv' := [(6, .int (0)), (5, .int (axT v0)), (0, .ref b), (1, .ref (ad 0)), (2, .ref m0), (3, .ref o), (4, .int (nI i))]) hx hb dL_law_1465 hl (by decide) rfl (fun ls hl => ?_)
          refine lv_aload_n hx hb dL_law_1467 rfl (lv_at hl 4 rfl) ?_
          refine cs_p (runV (As := []) (rest := []) ⟨hx, hb, hml, hown, hts⟩ (m_X6_thrown l D kA m0 m1 m2 m3 m4 m5 z h tx pt kp (nI w) (nI n0) (axT v0) (-1) rd nu du hs) q_810 q_811 q_812 q_7 q_813 hd_X6_thrown ⟨rfl, rfl⟩ ⟨Nat.le_of_ble_eq_true rfl, Nat.le_of_ble_eq_true rfl⟩ hK hP.l hD.lf 0 (ci := 6) (C := RX6) (T := TX6) (N := 13) rfl rfl rfl hl.1 rfl (Nat.le_of_ble_eq_true rfl) dL_law_1468 ⟨hroom.1, hroom.2⟩) ?_
          refine lv_iload hx hb dL_law_1471 (lv_at hl 1 rfl) ?_
          refine lv_icmp_eq (tgt := 1478) hx hb dL_law_1473 (by decide) (fun c9 => ?_) (fun c9 => absurd (eT.symm) c9)
          refine lv_iload hx hb dL_law_1478 (lv_at hl 1 rfl) ?_
          refine lv_if_ne (tgt := 1495) hx hb dL_law_1480 (by decide) (fun c8 => ?_) (fun c8 => absurd c8 hT)
          refine lv_goto (tgt := 1677) hx hb dL_law_1495 (by decide) ?_
          exact K _ _ _ _ _ _ _ _ _ _ _ _ _ _ _ _ _ _ (by exact rel_mono hR2 (by omega)) hP hD hS (lv_sub hl [2, 3, 4, 5, 6] rfl)

set_option maxRecDepth 100000 in
set_option maxHeartbeats 4000000 in
theorem k_couldBe {p : Program} {l : Launch} {e : Env} {s : State} {m : MethodId} {below : List Frame} {meth : Method} {c : Code} {Q : State → Prop} {D : va_G} {kA ad : Nat → Nat} {m0 m1 m2 m3 m4 m5 o b L i N cells slots : Nat} {xs : Nat → Int32} (C0 : LC l p s m meth c D kA b L xs) {X : Nat → Nat → Int32} {z h tx pt kp : Nat → Int32} {w n0 r : Nat} {th rd nu du : Int32} {hs : Int64} {f : Nat → Int64} {H : Heap} {locs : List Loc} {ls : Array Slot} (hR2 : REL X z h tx w n0 r N) (hN : N + 1000 ≤ 600000) (hi : i + 4 ≤ L) (hL : L ≤ 2048) (hP : va_P D vwCl (LWd kA ad m0 m1 m2 m3 m4 m5 o X z h tx pt kp w n0 th rd nu du hs f) H) (hD : va_D (fun q => s.heap.size ≤ q) (LWd kA ad m0 m1 m2 m3 m4 m5 o X z h tx pt kp w n0 th rd nu du hs f)) (hS : va_S (fun q => s.heap.size ≤ q) s.heap H locs) (hl : lv_has ls 9 (lB ad b m0 o i)) (hroom : cells + 1 ≤ 601024 ∧ slots + 6 ≤ 7293034) (K : KT p l e s m below meth c Q D kA ad m0 m1 m2 m3 m4 m5 o b i (N + 1000) (cells + 1) (slots + 6)) : W p l e room_1 s m #[Value.ref b] below meth c H locs cells slots Q (F0 m 1498 ls []) := by
  obtain ⟨hx, hb, hml, hown, hts, hK, hXb, hbl, hX0, hLW, hnt⟩ := C0
  obtain ⟨hXz, hI, hC, hw6, hr6, h80, h81, h82, hN3, hTB, hring⟩ := id hR2
  have hn60 := hTB.1
  have hl : lv_has ls 9 [(0, .ref b), (1, .ref (ad 0)), (2, .ref m0), (3, .ref o), (4, .int (nI i))] := hl
  have hP : va_P D vwCl (mL kA m0 m1 m2 m3 m4 m5 z h tx pt kp (nI w) (nI n0) th (-1) rd nu du hs ++ ([(o, oO kA f)] ++ cw kA ad X)) H := hP
  have hD : va_D (fun q => s.heap.size ≤ q) (mL kA m0 m1 m2 m3 m4 m5 z h tx pt kp (nI w) (nI n0) th (-1) rd nu du hs ++ ([(o, oO kA f)] ++ cw kA ad X)) := hD
  obtain ⟨v0, hv0⟩ : ∃ y, xs (nI (i + 1)).toNatClampNeg = y := ⟨_, rfl⟩
  refine lv_aload_n hx hb dL_law_1498 rfl (lv_at hl 1 rfl) ?_
  refine lv_aload_n hx hb dL_law_1499 rfl (lv_at hl 0 rfl) ?_
  refine lv_iload hx hb dL_law_1500 (lv_at hl 4 rfl) ?_
  refine lv_iconst (v := 1) hx hb dL_law_1502 (by decide) ?_
  refine lv_iadd hx hb dL_law_1503 ?_
  refine W_top (v' := .int (nI (i + 1))) (congrArg Value.int (nI_add i 1)) ?_
  refine va_sld hx hb hXb hbl (Nat.not_le.mpr hbl) hS (in_nI (j := i + 1) rfl (by omega) (by omega)) dL_law_1504 ?_
  refine W_top (v' := .int v0) (congrArg Value.int hv0) ?_
  refine lv_aload_n hx hb dL_law_1505 rfl (lv_at hl 3 rfl) ?_
  have hXH : XW (Aw (cw kA ad X)) s H := (hX0.kept hS.2.1).narrow (fun q9 h9 => aw_D hD.rt.rt q9 h9)
  refine cs_fk (wrunS (As := [.ref (ad 0), .int v0, .ref o]) (rest := []) ⟨hx, hb, hml, hown, hts⟩ (w_couldBe l D kA ad X v0 o f  hnt) q_750 q_751 q_0 q_752 hdw_couldBe ⟨rfl, rfl⟩ ⟨Nat.le_of_ble_eq_true rfl, Nat.le_of_ble_eq_true rfl⟩ hK hP.r hD.rt hXH hLW rfl hl.1 rfl (Nat.le_of_ble_eq_true rfl) dL_law_1506 ⟨hroom.1, hroom.2⟩) hS (aw_D hD.rt) (fun H locs hP1 hk1 hS => ?_)
  obtain ⟨hP, hD⟩ := jR hP hD hk1 hP1 lw_fst
  clear hP1 hk1 hXH
  refine lv_istore (lv' := [(5, .int (axT v0)), (0, .ref b), (1, .ref (ad 0)), (2, .ref m0), (3, .ref o), (4, .int (nI i))]) hx hb dL_law_1509 hl (by decide) rfl (fun ls hl => ?_)
  refine lv_aload_n hx hb dL_law_1511 rfl (lv_at hl 3 rfl) ?_
  refine lv_aload_n hx hb dL_law_1512 rfl (lv_at hl 1 rfl) ?_
  refine lv_iload hx hb dL_law_1513 (lv_at hl 5 rfl) ?_
  refine lv_iconst (v := 1) hx hb dL_law_1515 (by decide) ?_
  refine lv_iadd hx hb dL_law_1516 ?_
  refine W_top (v' := .int (nI (i + 1))) (congrArg Value.int (nI_add i 1)) ?_
  refine va_sld hx hb hXb hbl (Nat.not_le.mpr hbl) hS (in_nI (j := i + 1) rfl (by omega) (by omega)) dL_law_1517 ?_
  refine W_top (v' := .int v0) (congrArg Value.int hv0) ?_
  have eT : (axT v0) = (axT v0) := rfl
  refine cs_fs (runV (As := [.int v0]) (rest := []) ⟨hx, hb, hml, hown, hts⟩ (m_X6_couldBe l D kA m0 m1 m2 m3 m4 m5 z h tx pt kp (nI w) (nI n0) th (-1) rd nu du hs v0 hI) q_1067 q_1068 q_1069 q_7 q_1070 hd_X6_couldBe ⟨rfl, rfl⟩ ⟨Nat.le_of_ble_eq_true rfl, Nat.le_of_ble_eq_true rfl⟩ hK hP.l hD.lf 0 (ci := 6) (C := RX6) (T := TX6) (N := 13) rfl rfl rfl hl.1 rfl (Nat.le_of_ble_eq_true rfl) dL_law_1518 ⟨hroom.1, hroom.2⟩) hS (aw_D hD.lf) (fun H locs hP1 hk1 hS => ?_)
  obtain ⟨hP, hD⟩ := jL hP hD hk1 hP1 rfl
  clear hP1 hk1
  by_cases hT : (axT v0) = 0
  · have hT2 : (axT v0) = 0 := eT.symm.trans hT
    have hP : va_P D vwCl ([(m0, .inr (6, [.ref m1, .int (nI w), .ref m2, .int (nI n0), .ref m3, .int (axT v0), .int (-1), .ref m4, .int rd, .int nu, .int du, .ref m5, .long hs])), (m1, .inl (kA 0, 148, .inl z)), (m2, .inl (kA 0, 888, .inl h)), (m3, .inl (kA 0, 60, .inl tx)), (m4, .inl (kA 0, 72, .inl pt)), (m5, .inl (kA 0, 148, .inl kp))] ++ ([(o, oO kA (vp_updL f 0 (possG (sl ((X 0)) v0.toNatClampNeg) : Int32).toInt64))] ++ cw kA ad X)) H := Pcg (by simp only [if_pos hT, if_pos hT2]) hP
    have hD : va_D (fun q => s.heap.size ≤ q) ([(m0, .inr (6, [.ref m1, .int (nI w), .ref m2, .int (nI n0), .ref m3, .int (axT v0), .int (-1), .ref m4, .int rd, .int nu, .int du, .ref m5, .long hs])), (m1, .inl (kA 0, 148, .inl z)), (m2, .inl (kA 0, 888, .inl h)), (m3, .inl (kA 0, 60, .inl tx)), (m4, .inl (kA 0, 72, .inl pt)), (m5, .inl (kA 0, 148, .inl kp))] ++ ([(o, oO kA (vp_updL f 0 (possG (sl ((X 0)) v0.toNatClampNeg) : Int32).toInt64))] ++ cw kA ad X)) := Dcg (by simp only [if_pos hT, if_pos hT2]) hD
    refine W_top (v' := .int (possG (sl z v0.toNatClampNeg))) (congrArg Value.int (if_pos hT2)) ?_
    refine lv_istore (lv' := [(6, .int (possG (sl z v0.toNatClampNeg))), (5, .int (axT v0)), (0, .ref b), (1, .ref (ad 0)), (2, .ref m0), (3, .ref o), (4, .int (nI i))]) hx hb dL_law_1521 hl (by decide) rfl (fun ls hl => ?_)
    refine lv_aload_n hx hb dL_law_1523 rfl (lv_at hl 4 rfl) ?_
    refine cs_p (runV (As := []) (rest := []) ⟨hx, hb, hml, hown, hts⟩ (m_X6_thrown l D kA m0 m1 m2 m3 m4 m5 z h tx pt kp (nI w) (nI n0) (axT v0) (-1) rd nu du hs) q_810 q_811 q_812 q_7 q_813 hd_X6_thrown ⟨rfl, rfl⟩ ⟨Nat.le_of_ble_eq_true rfl, Nat.le_of_ble_eq_true rfl⟩ hK hP.l hD.lf 0 (ci := 6) (C := RX6) (T := TX6) (N := 13) rfl rfl rfl hl.1 rfl (Nat.le_of_ble_eq_true rfl) dL_law_1524 ⟨hroom.1, hroom.2⟩) ?_
    refine lv_iload hx hb dL_law_1527 (lv_at hl 1 rfl) ?_
    refine lv_icmp_eq (tgt := 1534) hx hb dL_law_1529 (by decide) (fun c9 => ?_) (fun c9 => absurd (eT.symm) c9)
    refine lv_iload hx hb dL_law_1534 (lv_at hl 1 rfl) ?_
    refine lv_if_ne (tgt := 1551) hx hb dL_law_1536 (by decide) (fun c8 => absurd hT c8) (fun c8 => ?_)
    refine lv_aload_n hx hb dL_law_1539 rfl (lv_at hl 5 rfl) ?_
    refine lv_iconst (v := 0) hx hb dL_law_1540 (by decide) ?_
    refine va_lald hx hb hK hP 6 3 rfl rfl (in_nI (j := 0) rfl (by omega) (by decide)) dL_law_1541 ?_
    refine W_top (v' := .long (possG (sl ((X 0)) v0.toNatClampNeg) : Int32).toInt64) rfl ?_
    refine lv_iload hx hb dL_law_1542 (lv_at hl 0 rfl) ?_
    refine lv_i2l (v := (possG (sl z v0.toNatClampNeg) : Int32).toInt64) hx hb dL_law_1544 rfl ?_
    refine W.lcmp hx hb dL_law_1545 ?_
    have eV : (possG (sl ((X 0)) v0.toNatClampNeg) : Int32) = (possG (sl z v0.toNatClampNeg)) := by rw [hXz]
    refine lv_if_eq (tgt := 1551) hx hb dL_law_1546 (by decide) (fun c7 => ?_) (fun c7 => absurd ((lg_cmp_eq _ _).mpr (congrArg Int32.toInt64 eV)) c7)
    refine lv_goto (tgt := 1677) hx hb dL_law_1551 (by decide) ?_
    exact K _ _ _ _ _ _ _ _ _ _ _ _ _ _ _ _ _ _ (by exact rel_mono hR2 (by omega)) hP hD hS (lv_sub hl [2, 3, 4, 5, 6] rfl)
  · have hT2 : ¬ (axT v0) = 0 := fun q9 => hT (eT.trans q9)
    have hP : va_P D vwCl ([(m0, .inr (6, [.ref m1, .int (nI w), .ref m2, .int (nI n0), .ref m3, .int (axT v0), .int (-1), .ref m4, .int rd, .int nu, .int du, .ref m5, .long hs])), (m1, .inl (kA 0, 148, .inl z)), (m2, .inl (kA 0, 888, .inl h)), (m3, .inl (kA 0, 60, .inl tx)), (m4, .inl (kA 0, 72, .inl pt)), (m5, .inl (kA 0, 148, .inl kp))] ++ ([(o, oO kA (f))] ++ cw kA ad X)) H := Pcg (by simp only [if_neg hT, if_neg hT2]) hP
    have hD : va_D (fun q => s.heap.size ≤ q) ([(m0, .inr (6, [.ref m1, .int (nI w), .ref m2, .int (nI n0), .ref m3, .int (axT v0), .int (-1), .ref m4, .int rd, .int nu, .int du, .ref m5, .long hs])), (m1, .inl (kA 0, 148, .inl z)), (m2, .inl (kA 0, 888, .inl h)), (m3, .inl (kA 0, 60, .inl tx)), (m4, .inl (kA 0, 72, .inl pt)), (m5, .inl (kA 0, 148, .inl kp))] ++ ([(o, oO kA (f))] ++ cw kA ad X)) := Dcg (by simp only [if_neg hT, if_neg hT2]) hD
    refine W_top (v' := .int (0)) (congrArg Value.int (if_neg hT2)) ?_
    refine lv_istore (lv' := [(6, .int (0)), (5, .int (axT v0)), (0, .ref b), (1, .ref (ad 0)), (2, .ref m0), (3, .ref o), (4, .int (nI i))]) hx hb dL_law_1521 hl (by decide) rfl (fun ls hl => ?_)
    refine lv_aload_n hx hb dL_law_1523 rfl (lv_at hl 4 rfl) ?_
    refine cs_p (runV (As := []) (rest := []) ⟨hx, hb, hml, hown, hts⟩ (m_X6_thrown l D kA m0 m1 m2 m3 m4 m5 z h tx pt kp (nI w) (nI n0) (axT v0) (-1) rd nu du hs) q_810 q_811 q_812 q_7 q_813 hd_X6_thrown ⟨rfl, rfl⟩ ⟨Nat.le_of_ble_eq_true rfl, Nat.le_of_ble_eq_true rfl⟩ hK hP.l hD.lf 0 (ci := 6) (C := RX6) (T := TX6) (N := 13) rfl rfl rfl hl.1 rfl (Nat.le_of_ble_eq_true rfl) dL_law_1524 ⟨hroom.1, hroom.2⟩) ?_
    refine lv_iload hx hb dL_law_1527 (lv_at hl 1 rfl) ?_
    refine lv_icmp_eq (tgt := 1534) hx hb dL_law_1529 (by decide) (fun c9 => ?_) (fun c9 => absurd (eT.symm) c9)
    refine lv_iload hx hb dL_law_1534 (lv_at hl 1 rfl) ?_
    refine lv_if_ne (tgt := 1551) hx hb dL_law_1536 (by decide) (fun c8 => ?_) (fun c8 => absurd c8 hT)
    refine lv_goto (tgt := 1677) hx hb dL_law_1551 (by decide) ?_
    exact K _ _ _ _ _ _ _ _ _ _ _ _ _ _ _ _ _ _ (by exact rel_mono hR2 (by omega)) hP hD hS (lv_sub hl [2, 3, 4, 5, 6] rfl)

set_option maxRecDepth 100000 in
set_option maxHeartbeats 4000000 in
theorem k_worst {p : Program} {l : Launch} {e : Env} {s : State} {m : MethodId} {below : List Frame} {meth : Method} {c : Code} {Q : State → Prop} {D : va_G} {kA ad : Nat → Nat} {m0 m1 m2 m3 m4 m5 o b L i N cells slots : Nat} {xs : Nat → Int32} (C0 : LC l p s m meth c D kA b L xs) {X : Nat → Nat → Int32} {z h tx pt kp : Nat → Int32} {w n0 r : Nat} {th rd nu du : Int32} {hs : Int64} {f : Nat → Int64} {H : Heap} {locs : List Loc} {ls : Array Slot} (hR2 : REL X z h tx w n0 r N) (hN : N + 1000 ≤ 600000) (hi : i + 4 ≤ L) (hL : L ≤ 2048) (hP : va_P D vwCl (LWd kA ad m0 m1 m2 m3 m4 m5 o X z h tx pt kp w n0 th rd nu du hs f) H) (hD : va_D (fun q => s.heap.size ≤ q) (LWd kA ad m0 m1 m2 m3 m4 m5 o X z h tx pt kp w n0 th rd nu du hs f)) (hS : va_S (fun q => s.heap.size ≤ q) s.heap H locs) (hl : lv_has ls 9 (lB ad b m0 o i)) (hroom : cells + 1 ≤ 601024 ∧ slots + 6 ≤ 7293034) (K : KT p l e s m below meth c Q D kA ad m0 m1 m2 m3 m4 m5 o b i (N + 1000) (cells + 1) (slots + 6)) : W p l e room_1 s m #[Value.ref b] below meth c H locs cells slots Q (F0 m 1554 ls []) := by
  obtain ⟨hx, hb, hml, hown, hts, hK, hXb, hbl, hX0, hLW, hnt⟩ := C0
  obtain ⟨hXz, hI, hC, hw6, hr6, h80, h81, h82, hN3, hTB, hring⟩ := id hR2
  have hn60 := hTB.1
  have hl : lv_has ls 9 [(0, .ref b), (1, .ref (ad 0)), (2, .ref m0), (3, .ref o), (4, .int (nI i))] := hl
  have hP : va_P D vwCl (mL kA m0 m1 m2 m3 m4 m5 z h tx pt kp (nI w) (nI n0) th (-1) rd nu du hs ++ ([(o, oO kA f)] ++ cw kA ad X)) H := hP
  have hD : va_D (fun q => s.heap.size ≤ q) (mL kA m0 m1 m2 m3 m4 m5 z h tx pt kp (nI w) (nI n0) th (-1) rd nu du hs ++ ([(o, oO kA f)] ++ cw kA ad X)) := hD
  obtain ⟨v0, hv0⟩ : ∃ y, xs (nI (i + 1)).toNatClampNeg = y := ⟨_, rfl⟩
  obtain ⟨v1, hv1⟩ : ∃ y, xs (nI (i + 2)).toNatClampNeg = y := ⟨_, rfl⟩
  refine lv_aload_n hx hb dL_law_1554 rfl (lv_at hl 1 rfl) ?_
  refine lv_aload_n hx hb dL_law_1555 rfl (lv_at hl 0 rfl) ?_
  refine lv_iload hx hb dL_law_1556 (lv_at hl 4 rfl) ?_
  refine lv_iconst (v := 1) hx hb dL_law_1558 (by decide) ?_
  refine lv_iadd hx hb dL_law_1559 ?_
  refine W_top (v' := .int (nI (i + 1))) (congrArg Value.int (nI_add i 1)) ?_
  refine va_sld hx hb hXb hbl (Nat.not_le.mpr hbl) hS (in_nI (j := i + 1) rfl (by omega) (by omega)) dL_law_1560 ?_
  refine W_top (v' := .int v0) (congrArg Value.int hv0) ?_
  refine lv_aload_n hx hb dL_law_1561 rfl (lv_at hl 0 rfl) ?_
  refine lv_iload hx hb dL_law_1562 (lv_at hl 4 rfl) ?_
  refine lv_iconst (v := 2) hx hb dL_law_1564 (by decide) ?_
  refine lv_iadd hx hb dL_law_1565 ?_
  refine W_top (v' := .int (nI (i + 2))) (congrArg Value.int (nI_add i 2)) ?_
  refine va_sld hx hb hXb hbl (Nat.not_le.mpr hbl) hS (in_nI (j := i + 2) rfl (by omega) (by omega)) dL_law_1566 ?_
  refine W_top (v' := .int v1) (congrArg Value.int hv1) ?_
  refine lv_aload_n hx hb dL_law_1567 rfl (lv_at hl 3 rfl) ?_
  have hXH : XW (Aw (cw kA ad X)) s H := (hX0.kept hS.2.1).narrow (fun q9 h9 => aw_D hD.rt.rt q9 h9)
  refine cs_fk (wrunS (As := [.ref (ad 0), .int v0, .int v1, .ref o]) (rest := []) ⟨hx, hb, hml, hown, hts⟩ (w_worst l D kA ad X v0 v1 o f  hnt) q_757 q_758 q_0 q_759 hdw_worst ⟨rfl, rfl⟩ ⟨Nat.le_of_ble_eq_true rfl, Nat.le_of_ble_eq_true rfl⟩ hK hP.r hD.rt hXH hLW rfl hl.1 rfl (Nat.le_of_ble_eq_true rfl) dL_law_1568 ⟨hroom.1, hroom.2⟩) hS (aw_D hD.rt) (fun H locs hP1 hk1 hS => ?_)
  obtain ⟨hP, hD⟩ := jR hP hD hk1 hP1 lw_fst
  clear hP1 hk1 hXH
  refine lv_istore (lv' := [(5, .int (coT v0 v1)), (0, .ref b), (1, .ref (ad 0)), (2, .ref m0), (3, .ref o), (4, .int (nI i))]) hx hb dL_law_1571 hl (by decide) rfl (fun ls hl => ?_)
  refine lv_aload_n hx hb dL_law_1573 rfl (lv_at hl 3 rfl) ?_
  refine lv_aload_n hx hb dL_law_1574 rfl (lv_at hl 1 rfl) ?_
  refine lv_iload hx hb dL_law_1575 (lv_at hl 5 rfl) ?_
  refine lv_iconst (v := 1) hx hb dL_law_1577 (by decide) ?_
  refine lv_iadd hx hb dL_law_1578 ?_
  refine W_top (v' := .int (nI (i + 1))) (congrArg Value.int (nI_add i 1)) ?_
  refine va_sld hx hb hXb hbl (Nat.not_le.mpr hbl) hS (in_nI (j := i + 1) rfl (by omega) (by omega)) dL_law_1579 ?_
  refine W_top (v' := .int v0) (congrArg Value.int hv0) ?_
  refine lv_aload_n hx hb dL_law_1580 rfl (lv_at hl 1 rfl) ?_
  refine lv_iload hx hb dL_law_1581 (lv_at hl 5 rfl) ?_
  refine lv_iconst (v := 2) hx hb dL_law_1583 (by decide) ?_
  refine lv_iadd hx hb dL_law_1584 ?_
  refine W_top (v' := .int (nI (i + 2))) (congrArg Value.int (nI_add i 2)) ?_
  refine va_sld hx hb hXb hbl (Nat.not_le.mpr hbl) hS (in_nI (j := i + 2) rfl (by omega) (by omega)) dL_law_1585 ?_
  refine W_top (v' := .int v1) (congrArg Value.int hv1) ?_
  have eT : (coT v0 v1) = (coT v0 v1) := rfl
  refine cs_fs (runV (As := [.int v0, .int v1]) (rest := []) ⟨hx, hb, hml, hown, hts⟩ (m_X6_worst l D kA m0 m1 m2 m3 m4 m5 z h tx pt kp (nI w) (nI n0) th (-1) rd nu du hs v0 v1 hI rfl) q_1075 q_1076 q_1077 q_7 q_1078 hd_X6_worst ⟨rfl, rfl⟩ ⟨Nat.le_of_ble_eq_true rfl, Nat.le_of_ble_eq_true rfl⟩ hK hP.l hD.lf 0 (ci := 6) (C := RX6) (T := TX6) (N := 13) rfl rfl rfl hl.1 rfl (Nat.le_of_ble_eq_true rfl) dL_law_1586 ⟨hroom.1, hroom.2⟩) hS (aw_D hD.lf) (fun H locs hP1 hk1 hS => ?_)
  obtain ⟨hP, hD⟩ := jL hP hD hk1 hP1 rfl
  clear hP1 hk1
  by_cases hT : (coT v0 v1) = 0
  · have hT2 : (coT v0 v1) = 0 := eT.symm.trans hT
    have hP : va_P D vwCl ([(m0, .inr (6, [.ref m1, .int (nI w), .ref m2, .int (nI n0), .ref m3, .int (coT v0 v1), .int (-1), .ref m4, .int rd, .int nu, .int du, .ref m5, .long hs])), (m1, .inl (kA 0, 148, .inl z)), (m2, .inl (kA 0, 888, .inl h)), (m3, .inl (kA 0, 60, .inl tx)), (m4, .inl (kA 0, 72, .inl pt)), (m5, .inl (kA 0, 148, .inl kp))] ++ ([(o, oO kA (vp_updL f 0 (woF (X 0) v0.toNatClampNeg v1 : Int32).toInt64))] ++ cw kA ad X)) H := Pcg (by simp only [if_pos hT, if_pos hT2]) hP
    have hD : va_D (fun q => s.heap.size ≤ q) ([(m0, .inr (6, [.ref m1, .int (nI w), .ref m2, .int (nI n0), .ref m3, .int (coT v0 v1), .int (-1), .ref m4, .int rd, .int nu, .int du, .ref m5, .long hs])), (m1, .inl (kA 0, 148, .inl z)), (m2, .inl (kA 0, 888, .inl h)), (m3, .inl (kA 0, 60, .inl tx)), (m4, .inl (kA 0, 72, .inl pt)), (m5, .inl (kA 0, 148, .inl kp))] ++ ([(o, oO kA (vp_updL f 0 (woF (X 0) v0.toNatClampNeg v1 : Int32).toInt64))] ++ cw kA ad X)) := Dcg (by simp only [if_pos hT, if_pos hT2]) hD
    refine W_top (v' := .int (woF z v0.toNatClampNeg v1)) (congrArg Value.int (if_pos hT2)) ?_
    refine lv_istore (lv' := [(6, .int (woF z v0.toNatClampNeg v1)), (5, .int (coT v0 v1)), (0, .ref b), (1, .ref (ad 0)), (2, .ref m0), (3, .ref o), (4, .int (nI i))]) hx hb dL_law_1589 hl (by decide) rfl (fun ls hl => ?_)
    refine lv_aload_n hx hb dL_law_1591 rfl (lv_at hl 4 rfl) ?_
    refine cs_p (runV (As := []) (rest := []) ⟨hx, hb, hml, hown, hts⟩ (m_X6_thrown l D kA m0 m1 m2 m3 m4 m5 z h tx pt kp (nI w) (nI n0) (coT v0 v1) (-1) rd nu du hs) q_810 q_811 q_812 q_7 q_813 hd_X6_thrown ⟨rfl, rfl⟩ ⟨Nat.le_of_ble_eq_true rfl, Nat.le_of_ble_eq_true rfl⟩ hK hP.l hD.lf 0 (ci := 6) (C := RX6) (T := TX6) (N := 13) rfl rfl rfl hl.1 rfl (Nat.le_of_ble_eq_true rfl) dL_law_1592 ⟨hroom.1, hroom.2⟩) ?_
    refine lv_iload hx hb dL_law_1595 (lv_at hl 1 rfl) ?_
    refine lv_icmp_eq (tgt := 1602) hx hb dL_law_1597 (by decide) (fun c9 => ?_) (fun c9 => absurd (eT.symm) c9)
    refine lv_iload hx hb dL_law_1602 (lv_at hl 1 rfl) ?_
    refine lv_if_ne (tgt := 1619) hx hb dL_law_1604 (by decide) (fun c8 => absurd hT c8) (fun c8 => ?_)
    refine lv_aload_n hx hb dL_law_1607 rfl (lv_at hl 5 rfl) ?_
    refine lv_iconst (v := 0) hx hb dL_law_1608 (by decide) ?_
    refine va_lald hx hb hK hP 6 3 rfl rfl (in_nI (j := 0) rfl (by omega) (by decide)) dL_law_1609 ?_
    refine W_top (v' := .long (woF (X 0) v0.toNatClampNeg v1 : Int32).toInt64) rfl ?_
    refine lv_iload hx hb dL_law_1610 (lv_at hl 0 rfl) ?_
    refine lv_i2l (v := (woF z v0.toNatClampNeg v1 : Int32).toInt64) hx hb dL_law_1612 rfl ?_
    refine W.lcmp hx hb dL_law_1613 ?_
    have eV : (woF (X 0) v0.toNatClampNeg v1 : Int32) = (woF z v0.toNatClampNeg v1) := by rw [hXz]
    refine lv_if_eq (tgt := 1619) hx hb dL_law_1614 (by decide) (fun c7 => ?_) (fun c7 => absurd ((lg_cmp_eq _ _).mpr (congrArg Int32.toInt64 eV)) c7)
    refine lv_goto (tgt := 1677) hx hb dL_law_1619 (by decide) ?_
    exact K _ _ _ _ _ _ _ _ _ _ _ _ _ _ _ _ _ _ (by exact rel_mono hR2 (by omega)) hP hD hS (lv_sub hl [2, 3, 4, 5, 6] rfl)
  · have hT2 : ¬ (coT v0 v1) = 0 := fun q9 => hT (eT.trans q9)
    have hP : va_P D vwCl ([(m0, .inr (6, [.ref m1, .int (nI w), .ref m2, .int (nI n0), .ref m3, .int (coT v0 v1), .int (-1), .ref m4, .int rd, .int nu, .int du, .ref m5, .long hs])), (m1, .inl (kA 0, 148, .inl z)), (m2, .inl (kA 0, 888, .inl h)), (m3, .inl (kA 0, 60, .inl tx)), (m4, .inl (kA 0, 72, .inl pt)), (m5, .inl (kA 0, 148, .inl kp))] ++ ([(o, oO kA (f))] ++ cw kA ad X)) H := Pcg (by simp only [if_neg hT, if_neg hT2]) hP
    have hD : va_D (fun q => s.heap.size ≤ q) ([(m0, .inr (6, [.ref m1, .int (nI w), .ref m2, .int (nI n0), .ref m3, .int (coT v0 v1), .int (-1), .ref m4, .int rd, .int nu, .int du, .ref m5, .long hs])), (m1, .inl (kA 0, 148, .inl z)), (m2, .inl (kA 0, 888, .inl h)), (m3, .inl (kA 0, 60, .inl tx)), (m4, .inl (kA 0, 72, .inl pt)), (m5, .inl (kA 0, 148, .inl kp))] ++ ([(o, oO kA (f))] ++ cw kA ad X)) := Dcg (by simp only [if_neg hT, if_neg hT2]) hD
    refine W_top (v' := .int (0)) (congrArg Value.int (if_neg hT2)) ?_
    refine lv_istore (lv' := [(6, .int (0)), (5, .int (coT v0 v1)), (0, .ref b), (1, .ref (ad 0)), (2, .ref m0), (3, .ref o), (4, .int (nI i))]) hx hb dL_law_1589 hl (by decide) rfl (fun ls hl => ?_)
    refine lv_aload_n hx hb dL_law_1591 rfl (lv_at hl 4 rfl) ?_
    refine cs_p (runV (As := []) (rest := []) ⟨hx, hb, hml, hown, hts⟩ (m_X6_thrown l D kA m0 m1 m2 m3 m4 m5 z h tx pt kp (nI w) (nI n0) (coT v0 v1) (-1) rd nu du hs) q_810 q_811 q_812 q_7 q_813 hd_X6_thrown ⟨rfl, rfl⟩ ⟨Nat.le_of_ble_eq_true rfl, Nat.le_of_ble_eq_true rfl⟩ hK hP.l hD.lf 0 (ci := 6) (C := RX6) (T := TX6) (N := 13) rfl rfl rfl hl.1 rfl (Nat.le_of_ble_eq_true rfl) dL_law_1592 ⟨hroom.1, hroom.2⟩) ?_
    refine lv_iload hx hb dL_law_1595 (lv_at hl 1 rfl) ?_
    refine lv_icmp_eq (tgt := 1602) hx hb dL_law_1597 (by decide) (fun c9 => ?_) (fun c9 => absurd (eT.symm) c9)
    refine lv_iload hx hb dL_law_1602 (lv_at hl 1 rfl) ?_
    refine lv_if_ne (tgt := 1619) hx hb dL_law_1604 (by decide) (fun c8 => ?_) (fun c8 => absurd c8 hT)
    refine lv_goto (tgt := 1677) hx hb dL_law_1619 (by decide) ?_
    exact K _ _ _ _ _ _ _ _ _ _ _ _ _ _ _ _ _ _ (by exact rel_mono hR2 (by omega)) hP hD hS (lv_sub hl [2, 3, 4, 5, 6] rfl)
