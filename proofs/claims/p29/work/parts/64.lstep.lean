theorem hd_L_step : yL_step.cls ≠ "java/lang/invoke/MethodHandle" ∧ yL_step.cls ≠ "java/lang/invoke/VarHandle" ∧ (parseMethodDescriptor yL_step.desc).map (fun d => d.parameters.length) = some 12 := by decide +kernel
set_option maxRecDepth 100000 in
set_option maxHeartbeats 4000000 in
theorem m_L_step (l : Launch) (D : va_G) (kA : Nat → Nat) (al : Nat → Nat) (z : Nat → Int32) (k : Int32) (a : Nat) (up : Bool) (hI : Inv z) (ha : a < 4) : Met l yL_step (Cond.code yL_step cL_step 16 (some .boolean) :: AW) ({ frames := 1, cells := 0, slots := 0, locals := 24 } : Room) (Pz [.ref (al 0), .ref (al 1), .ref (al 2), .ref (al 3), .ref (al 4), .ref (al 5), .ref (al 6), .ref (al 7), .ref (al 8), .ref (al 9), .int (nI a), .int (wI up)] D (TY kA) (lqW kA al z k)) (fQ (some (.int (bI (canF z a (wI up))))) D (lqW kA al z k) (lqW kA al (stZ z a up) k)) 0 0 (Aw (lqW kA al z k)) := by
  refine MetZ (by decide +kernel) (Nat.le_of_ble_eq_true rfl) ?_
  intro p e s m below meth c ls hx hb hrt hts hown hml hlk hnm hP hK hD hS hl
  have hl : lv_has ls 16 [(0, .ref (al 0)), (1, .ref (al 1)), (2, .ref (al 2)), (3, .ref (al 3)), (4, .ref (al 4)), (5, .ref (al 5)), (6, .ref (al 6)), (7, .ref (al 7)), (8, .ref (al 8)), (9, .ref (al 9)), (10, .int (nI a)), (11, .int (wI up))] := hl
  refine lv_aload_n hx hb dL_step_0 rfl (lv_at hl 1 rfl) ?_
  refine lv_iload hx hb dL_step_1 (lv_at hl 10 rfl) ?_
  refine va_iald (f := lqG z 0) hx hb hK hP 1 0 lw_1 rfl (in_nI rfl (by omega) (by decide)) dL_step_3 ?_
  refine W_top (v' := .int (sl z a 0)) (congrArg Value.int (vG (by omega))) ?_
  refine lv_iload hx hb dL_step_4 (lv_at hl 11 rfl) ?_
  refine cs_p (runS (As := [.int (sl z a 0), .int (wI up)]) (rest := []) ⟨hx, hb, hml, hown, hts⟩ (m_L_tooth l D kA (sl z a 0) ((sl z a 0).toNatClampNeg) up ((hI.p0 ha).1) ((hI.p0 ha).2)) q_199 q_200 q_0 q_201 hd_L_tooth ⟨rfl, rfl⟩ ⟨Nat.le_of_ble_eq_true rfl, Nat.le_of_ble_eq_true rfl⟩ hK (ws := []) (fun _ _ h => by simp at h) (D0 (A := fun _ => True)) rfl hl.1 rfl (Nat.le_of_ble_eq_true rfl) dL_step_6 ⟨Nat.zero_le _, Nat.zero_le _⟩) ?_
  obtain ⟨t, ht, et⟩ := tW_in (hI.p0 ha).1 (hI.p0 ha).2 up
  refine W_top (v' := .int (nI t)) (congrArg Value.int (et)) ?_
  refine lv_istore (lv' := [(12, .int (nI t)), (0, .ref (al 0)), (1, .ref (al 1)), (2, .ref (al 2)), (3, .ref (al 3)), (4, .ref (al 4)), (5, .ref (al 5)), (6, .ref (al 6)), (7, .ref (al 7)), (8, .ref (al 8)), (9, .ref (al 9)), (10, .int (nI a)), (11, .int (wI up))]) hx hb dL_step_9 hl (by decide) rfl (fun ls hl => ?_)
  refine lv_aload hx hb dL_step_11 (lv_at hl 9 rfl) ?_
  refine lv_aload hx hb dL_step_13 (lv_at hl 10 rfl) ?_
  refine lv_iload hx hb dL_step_15 (lv_at hl 11 rfl) ?_
  refine lv_iload hx hb dL_step_17 (lv_at hl 0 rfl) ?_
  refine cs_p (runS (As := [.ref (al 8), .ref (al 9), .int (nI a), .int (nI t)]) (rest := []) ⟨hx, hb, hml, hown, hts⟩ (m_L_wear l D kA al z k a t (ha) (ht)) q_202 q_203 q_0 q_204 hd_L_wear ⟨rfl, rfl⟩ ⟨Nat.le_of_ble_eq_true rfl, Nat.le_of_ble_eq_true rfl⟩ hK (ws := (lqW kA al z k)) hP hD rfl hl.1 rfl (Nat.le_of_ble_eq_true rfl) dL_step_19 ⟨Nat.zero_le _, Nat.zero_le _⟩) ?_
  obtain ⟨wv, e_wv⟩ : ∃ y9 : Int32, y9 = gwr (sl z a) (nI t) := ⟨_, rfl⟩
  rw [← e_wv]
  have hwv : wv = gwr (sl z a) (tW (sl z a 0) (wI up)) := by rw [e_wv, et]
  have hwb : bd wv 99 := by rw [e_wv]; exact gwr_bd (hI.2 a ha) rfl ht
  refine lv_istore (lv' := [(13, .int wv), (12, .int (nI t)), (0, .ref (al 0)), (1, .ref (al 1)), (2, .ref (al 2)), (3, .ref (al 3)), (4, .ref (al 4)), (5, .ref (al 5)), (6, .ref (al 6)), (7, .ref (al 7)), (8, .ref (al 8)), (9, .ref (al 9)), (10, .int (nI a)), (11, .int (wI up))]) hx hb dL_step_22 hl (by decide) rfl (fun ls hl => ?_)
  refine lv_aload_n hx hb dL_step_24 rfl (lv_at hl 2 rfl) ?_
  refine lv_aload_n hx hb dL_step_25 rfl (lv_at hl 5 rfl) ?_
  refine lv_iload hx hb dL_step_26 (lv_at hl 12 rfl) ?_
  refine va_iald (f := lqG z 2) hx hb hK hP 3 0 lw_3 rfl (in_nI rfl (by omega) (by decide)) dL_step_28 ?_
  refine W_top (v' := .int (sl z a 2)) (congrArg Value.int (vG (by omega))) ?_
  refine lv_iload hx hb dL_step_29 (lv_at hl 0 rfl) ?_
  refine lv_aload hx hb dL_step_31 (lv_at hl 8 rfl) ?_
  refine lv_iload hx hb dL_step_33 (lv_at hl 12 rfl) ?_
  refine va_iald (f := lqG z 5) hx hb hK hP 6 0 lw_6 rfl (in_nI rfl (by omega) (by decide)) dL_step_35 ?_
  refine W_top (v' := .int (sl z a 5)) (congrArg Value.int (vG (by omega))) ?_
  have jn_36_0 : ∀ v : Int32, v = (if 0 < (sl z a 5) then 1 else 0) → W p l e ({ frames := 1, cells := 0, slots := 0, locals := 24 } : Room) s m [.ref (al 0), .ref (al 1), .ref (al 2), .ref (al 3), .ref (al 4), .ref (al 5), .ref (al 6), .ref (al 7), .ref (al 8), .ref (al 9), .int (nI a), .int (wI up)].toArray below meth c s.heap [] 0 0 (MQ below (fQ (some (.int (bI (canF z a (wI up))))) D (lqW kA al z k) (lqW kA al (stZ z a up) k)) [.ref (al 0), .ref (al 1), .ref (al 2), .ref (al 3), .ref (al 4), .ref (al 5), .ref (al 6), .ref (al 7), .ref (al 8), .ref (al 9), .int (nI a), .int (wI up)].toArray s 0 0 (Aw (lqW kA al z k))) (F0 m 44 ls (.int v :: [.int wv, .int (sl z a 2), .ref (al 0)])) := by
    intro v ev
    obtain rfl := ev.trans bI_if
    refine cs_p (runS (As := [.ref (al 0), .int (sl z a 2), .int wv, .int (bI (decide (0 < (sl z a 5))))]) (rest := []) ⟨hx, hb, hml, hown, hts⟩ (m_L_toll l D kA al z k (sl z a 2) wv (sl z a 5) (hI) ((hI.2 a ha).2.2.1) (hwb)) q_205 q_206 q_0 q_207 hd_L_toll ⟨rfl, rfl⟩ ⟨Nat.le_of_ble_eq_true rfl, Nat.le_of_ble_eq_true rfl⟩ hK (ws := (lqW kA al z k)) hP hD rfl hl.1 rfl (Nat.le_of_ble_eq_true rfl) dL_step_44 ⟨Nat.zero_le _, Nat.zero_le _⟩) ?_
    obtain ⟨T, e_T⟩ : ∃ y9 : Int32, y9 = tlF (sl z a 2) wv (sl z a 5) (z 1) := ⟨_, rfl⟩
    rw [← e_T]
    have hT : T = tollG (sl z a) z (wI up) := by rw [e_T, hwv]; rfl
    refine lv_istore (lv' := [(14, .int T), (13, .int wv), (12, .int (nI t)), (0, .ref (al 0)), (1, .ref (al 1)), (2, .ref (al 2)), (3, .ref (al 3)), (4, .ref (al 4)), (5, .ref (al 5)), (6, .ref (al 6)), (7, .ref (al 7)), (8, .ref (al 8)), (9, .ref (al 9)), (10, .int (nI a)), (11, .int (wI up))]) hx hb dL_step_47 hl (by decide) rfl (fun ls hl => ?_)
    refine lv_aload_n hx hb dL_step_49 rfl (lv_at hl 3 rfl) ?_
    refine lv_iconst (v := 0) hx hb dL_step_50 (by decide) ?_
    refine va_iald (f := lqN z k) hx hb hK hP 0 0 lw_0 rfl (in_nI (j := 0) rfl (by omega) (by decide)) dL_step_51 ?_
    refine W_top (v' := .int (z 6)) (rfl) ?_
    refine lv_iload hx hb dL_step_52 (lv_at hl 0 rfl) ?_
    refine lv_icmp_ge (tgt := 59) hx hb dL_step_54 (by decide) (fun c_2 => ?_) (fun c_2 => ?_)
    · skip
      replace c_2 := ge_n c_2
      have hc : ¬ z 6 < tollG (sl z a) z (wI up) := by rw [← hT]; exact c_2
      have hb5 := (hI.2 a ha).2.2.2.2.2.1
      have hb4 := (hI.2 a ha).2.2.2.2.1
      refine lv_aload_n hx hb dL_step_59 rfl (lv_at hl 3 rfl) ?_
      refine lv_iconst (v := 0) hx hb dL_step_60 (by decide) ?_
      refine lv_dup2_11 hx hb dL_step_61 rfl rfl ?_
      refine va_iald (f := lqN z k) hx hb hK hP 0 0 lw_0 rfl (in_nI (j := 0) rfl (by omega) (by decide)) dL_step_62 ?_
      refine W_top (v' := .int (z 6)) (rfl) ?_
      refine lv_iload hx hb dL_step_63 (lv_at hl 0 rfl) ?_
      refine lv_isub hx hb dL_step_65 ?_
      refine va_iast (f := lqN z k) hx hb hK hP hD hS 0 0 lw_0 rfl (in_nI (j := 0) rfl (by omega) (by decide)) dL_step_66 (fun H locs hP hD hS => ?_)
      rw [show (0 : Int32).toNatClampNeg = 0 from rfl] at hP hD
      have hP : va_P D vwCl (lqW kA al (upd z 6 ((z 6) - T)) k) H := by rw [← sn_0]; exact hP
      have hD : va_D (Aw (lqW kA al z k)) (lqW kA al (upd z 6 ((z 6) - T)) k) := by rw [← sn_0]; exact hD
      obtain ⟨z1, e_z1⟩ : ∃ y : Nat → Int32, y = upd z 6 ((z 6) - T) := ⟨_, rfl⟩
      rw [← e_z1] at hP hD
      have f1 : z1 = upd z 6 (z 6 - tollG (sl z a) z (wI up)) := by rw [e_z1, hT]
      have s1 : sl z1 a = sl z a := by rw [f1, sl_up (by omega)]
      refine lv_aload hx hb dL_step_67 (lv_at hl 10 rfl) ?_
      refine lv_iconst (v := 5) hx hb dL_step_69 (by decide) ?_
      refine lv_iload hx hb dL_step_70 (lv_at hl 13 rfl) ?_
      refine lv_imul hx hb dL_step_72 ?_
      refine lv_dup2_11 hx hb dL_step_73 rfl rfl ?_
      refine va_iald (f := lqU z1) hx hb hK hP 7 0 lw_7 rfl (in_nI (ux0) (by omega) (by decide)) dL_step_74 ?_
      refine W_top (v' := .int (sl z1 a 6)) (congrArg Value.int (vU (ux0) (by omega) (by omega))) ?_
      refine W_top (v' := .int (sl z a 6)) (congrArg Value.int (by rw [s1])) ?_
      refine lv_iconst (v := 1) hx hb dL_step_75 (by decide) ?_
      refine lv_iadd hx hb dL_step_76 ?_
      refine va_iast (f := lqU z1) hx hb hK hP hD hS 7 0 lw_7 rfl (in_nI (ux0) (by omega) (by decide)) dL_step_77 (fun H locs hP hD hS => ?_)
      rw [ux0, nI_clamp (by omega)] at hP hD
      have hP : va_P D vwCl (lqW kA al (puZ z1 a 6 ((sl z a 6) + 1)) k) H := by rw [← su_r (a := a) (w := 0) (by omega)]; exact hP
      have hD : va_D (Aw (lqW kA al z k)) (lqW kA al (puZ z1 a 6 ((sl z a 6) + 1)) k) := by rw [← su_r (a := a) (w := 0) (by omega)]; exact hD
      obtain ⟨z2, e_z2⟩ : ∃ y : Nat → Int32, y = puZ z1 a 6 ((sl z a 6) + 1) := ⟨_, rfl⟩
      rw [← e_z2] at hP hD
      have f2 : z2 = puZ z1 a 6 (stepG (sl z a) z (wI up) 6) := e_z2
      refine lv_aload hx hb dL_step_78 (lv_at hl 10 rfl) ?_
      refine lv_iconst (v := 5) hx hb dL_step_80 (by decide) ?_
      refine lv_iload hx hb dL_step_81 (lv_at hl 13 rfl) ?_
      refine lv_imul hx hb dL_step_83 ?_
      refine lv_iconst (v := 2) hx hb dL_step_84 (by decide) ?_
      refine lv_iadd hx hb dL_step_85 ?_
      refine lv_dup2_11 hx hb dL_step_86 rfl rfl ?_
      refine va_iald (f := lqU z2) hx hb hK hP 7 0 lw_7 rfl (in_nI (ux (x := 2) (r := 2) rfl) (by omega) (by decide)) dL_step_87 ?_
      refine W_top (v' := .int (sl z2 a 8)) (congrArg Value.int (vU (ux (x := 2) (r := 2) rfl) (by omega) (by omega))) ?_
      refine W_top (v' := .int (sl z a 8)) (congrArg Value.int (by rw [f2, sl_pn (by omega) (by omega) (by omega), s1])) ?_
      refine lv_iload hx hb dL_step_88 (lv_at hl 0 rfl) ?_
      refine lv_iadd hx hb dL_step_90 ?_
      refine va_iast (f := lqU z2) hx hb hK hP hD hS 7 0 lw_7 rfl (in_nI (ux (x := 2) (r := 2) rfl) (by omega) (by decide)) dL_step_91 (fun H locs hP hD hS => ?_)
      rw [ux (x := 2) (r := 2) rfl, nI_clamp (by omega)] at hP hD
      have hP : va_P D vwCl (lqW kA al (puZ z2 a 8 ((sl z a 8) + T)) k) H := by rw [← su_r (a := a) (w := 2) (by omega)]; exact hP
      have hD : va_D (Aw (lqW kA al z k)) (lqW kA al (puZ z2 a 8 ((sl z a 8) + T)) k) := by rw [← su_r (a := a) (w := 2) (by omega)]; exact hD
      obtain ⟨z3, e_z3⟩ : ∃ y : Nat → Int32, y = puZ z2 a 8 ((sl z a 8) + T) := ⟨_, rfl⟩
      rw [← e_z3] at hP hD
      have f3 : z3 = puZ z2 a 8 (stepG (sl z a) z (wI up) 8) := by rw [e_z3, hT]; rfl
      refine lv_aload hx hb dL_step_92 (lv_at hl 9 rfl) ?_
      refine lv_iload hx hb dL_step_94 (lv_at hl 13 rfl) ?_
      refine va_iald (f := lqG z3 5) hx hb hK hP 6 0 lw_6 rfl (in_nI rfl (by omega) (by decide)) dL_step_96 ?_
      refine W_top (v' := .int (sl z3 a 5)) (congrArg Value.int (vG (by omega))) ?_
      refine W_top (v' := .int (sl z a 5)) (congrArg Value.int (by rw [f3, sl_pn (by omega) (by omega) (by omega), f2, sl_pn (by omega) (by omega) (by omega), s1])) ?_
      have jp_97 : ∀ (z4 : Nat → Int32) (f4 : z4 = puZ z3 a 5 (stepG (sl z a) z (wI up) 5)), ∀ (H : Heap) (locs : List Loc), va_P D vwCl (lqW kA al z4 k) H → va_D (Aw (lqW kA al z k)) (lqW kA al z4 k) → va_S (Aw (lqW kA al z k)) s.heap H locs → ∀ ls : Array Slot, lv_has ls 16 [(0, .ref (al 0)), (1, .ref (al 1)), (2, .ref (al 2)), (3, .ref (al 3)), (4, .ref (al 4)), (5, .ref (al 5)), (6, .ref (al 6)), (7, .ref (al 7)), (8, .ref (al 8)), (9, .ref (al 9)), (10, .int (nI a)), (11, .int (wI up)), (12, .int (nI t)), (13, .int wv), (14, .int T)] → W p l e ({ frames := 1, cells := 0, slots := 0, locals := 24 } : Room) s m [.ref (al 0), .ref (al 1), .ref (al 2), .ref (al 3), .ref (al 4), .ref (al 5), .ref (al 6), .ref (al 7), .ref (al 8), .ref (al 9), .int (nI a), .int (wI up)].toArray below meth c H locs 0 0 (MQ below (fQ (some (.int (bI (canF z a (wI up))))) D (lqW kA al z k) (lqW kA al (stZ z a up) k)) [.ref (al 0), .ref (al 1), .ref (al 2), .ref (al 3), .ref (al 4), .ref (al 5), .ref (al 6), .ref (al 7), .ref (al 8), .ref (al 9), .int (nI a), .int (wI up)].toArray s 0 0 (Aw (lqW kA al z k))) (F0 m 109 ls []) := by
        intro z4 f4 H locs hP hD hS ls hl
        refine lv_iconst (v := 0) hx hb dL_step_109 (by decide) ?_
        refine lv_istore (lv' := [(15, .int 0), (0, .ref (al 0)), (1, .ref (al 1)), (2, .ref (al 2)), (3, .ref (al 3)), (4, .ref (al 4)), (5, .ref (al 5)), (6, .ref (al 6)), (7, .ref (al 7)), (8, .ref (al 8)), (9, .ref (al 9)), (10, .int (nI a)), (11, .int (wI up)), (12, .int (nI t)), (13, .int wv), (14, .int T)]) hx hb dL_step_110 hl (by decide) rfl (fun ls hl => ?_)
        refine lv_aload hx hb dL_step_112 (lv_at hl 5 rfl) ?_
        refine lv_iload hx hb dL_step_114 (lv_at hl 11 rfl) ?_
        refine va_iald (f := lqG z4 3) hx hb hK hP 4 0 lw_4 rfl (in_nI rfl (by omega) (by decide)) dL_step_116 ?_
        refine W_top (v' := .int (sl z4 a 3)) (congrArg Value.int (vG (by omega))) ?_
        refine W_top (v' := .int (sl z a 3)) (congrArg Value.int (by rw [f4, sl_pn (by omega) (by omega) (by omega), f3, sl_pn (by omega) (by omega) (by omega), f2, sl_pn (by omega) (by omega) (by omega), s1])) ?_
        refine lv_iload hx hb dL_step_117 (lv_at hl 12 rfl) ?_
        refine lv_ineg hx hb dL_step_119 ?_
        have jp_120 : ∀ (z6 : Nat → Int32) (sv : Int32) (f6 : ∃ z5, z5 = puZ z4 a 4 (stepG (sl z a) z (wI up) 4) ∧ z6 = puZ z5 a 9 (stepG (sl z a) z (wI up) 9)) (hsv : sv = bI (slB z a up)), ∀ (H : Heap) (locs : List Loc), va_P D vwCl (lqW kA al z6 k) H → va_D (Aw (lqW kA al z k)) (lqW kA al z6 k) → va_S (Aw (lqW kA al z k)) s.heap H locs → ∀ ls : Array Slot, lv_has ls 16 [(0, .ref (al 0)), (1, .ref (al 1)), (2, .ref (al 2)), (3, .ref (al 3)), (4, .ref (al 4)), (5, .ref (al 5)), (6, .ref (al 6)), (7, .ref (al 7)), (8, .ref (al 8)), (9, .ref (al 9)), (10, .int (nI a)), (11, .int (wI up)), (12, .int (nI t)), (13, .int wv), (14, .int T), (15, .int sv)] → W p l e ({ frames := 1, cells := 0, slots := 0, locals := 24 } : Room) s m [.ref (al 0), .ref (al 1), .ref (al 2), .ref (al 3), .ref (al 4), .ref (al 5), .ref (al 6), .ref (al 7), .ref (al 8), .ref (al 9), .int (nI a), .int (wI up)].toArray below meth c H locs 0 0 (MQ below (fQ (some (.int (bI (canF z a (wI up))))) D (lqW kA al z k) (lqW kA al (stZ z a up) k)) [.ref (al 0), .ref (al 1), .ref (al 2), .ref (al 3), .ref (al 4), .ref (al 5), .ref (al 6), .ref (al 7), .ref (al 8), .ref (al 9), .int (nI a), .int (wI up)].toArray s 0 0 (Aw (lqW kA al z k))) (F0 m 170 ls []) := by
          intro z6 sv f6 hsv H locs hP hD hS ls hl
          obtain ⟨z5, f5, f6⟩ := f6
          obtain rfl := hsv
          refine lv_aload_n hx hb dL_step_170 rfl (lv_at hl 2 rfl) ?_
          refine lv_iload hx hb dL_step_171 (lv_at hl 10 rfl) ?_
          refine lv_aload_n hx hb dL_step_173 rfl (lv_at hl 2 rfl) ?_
          refine lv_iload hx hb dL_step_174 (lv_at hl 10 rfl) ?_
          refine va_iald (f := lqG z6 1) hx hb hK hP 2 0 lw_2 rfl (in_nI rfl (by omega) (by decide)) dL_step_176 ?_
          refine W_top (v' := .int (sl z6 a 1)) (congrArg Value.int (vG (by omega))) ?_
          refine W_top (v' := .int (sl z a 1)) (congrArg Value.int (by rw [f6, sl_pn (by omega) (by omega) (by omega), f5, sl_pn (by omega) (by omega) (by omega), f4, sl_pn (by omega) (by omega) (by omega), f3, sl_pn (by omega) (by omega) (by omega), f2, sl_pn (by omega) (by omega) (by omega), s1])) ?_
          refine lv_iload hx hb dL_step_177 (lv_at hl 11 rfl) ?_
          refine cs_p (runS (As := [.int (sl z a 1), .int (wI up)]) (rest := [.int (nI a), .ref (al 2)]) ⟨hx, hb, hml, hown, hts⟩ (m_L_go l D kA (sl z a 1) ((sl z a 1).toNatClampNeg) up ((hI.p1 ha).1) ((hI.p1 ha).2)) q_211 q_212 q_0 q_213 hd_L_go ⟨rfl, rfl⟩ ⟨Nat.le_of_ble_eq_true rfl, Nat.le_of_ble_eq_true rfl⟩ hK (ws := []) (fun _ _ h => by simp at h) (D0 (A := fun _ => True)) rfl hl.1 rfl (Nat.le_of_ble_eq_true rfl) dL_step_179 ⟨Nat.zero_le _, Nat.zero_le _⟩) ?_
          refine va_iast (f := lqG z6 1) hx hb hK hP hD hS 2 0 lw_2 rfl (in_nI rfl (by omega) (by decide)) dL_step_182 (fun H locs hP hD hS => ?_)
          rw [nI_clamp (by omega)] at hP hD
          have hP : va_P D vwCl (lqW kA al (puZ z6 a 1 (nW (sl z a 1) (wI up))) k) H := by rw [← sg_1]; exact hP
          have hD : va_D (Aw (lqW kA al z k)) (lqW kA al (puZ z6 a 1 (nW (sl z a 1) (wI up))) k) := by rw [← sg_1]; exact hD
          obtain ⟨z7, e_z7⟩ : ∃ y : Nat → Int32, y = puZ z6 a 1 (nW (sl z a 1) (wI up)) := ⟨_, rfl⟩
          rw [← e_z7] at hP hD
          have f7 : z7 = puZ z6 a 1 (stepG (sl z a) z (wI up) 1) := e_z7
          refine lv_iload hx hb dL_step_183 (lv_at hl 15 rfl) ?_
          have jp_185 : ∀ (z9 : Nat → Int32) (f9 : ∃ z8, z8 = puZ z7 a 7 (stepG (sl z a) z (wI up) 7) ∧ z9 = puZ z8 a 0 (stepG (sl z a) z (wI up) 0)), ∀ (H : Heap) (locs : List Loc), va_P D vwCl (lqW kA al z9 k) H → va_D (Aw (lqW kA al z k)) (lqW kA al z9 k) → va_S (Aw (lqW kA al z k)) s.heap H locs → ∀ ls : Array Slot, lv_has ls 16 [(0, .ref (al 0)), (1, .ref (al 1)), (2, .ref (al 2)), (3, .ref (al 3)), (4, .ref (al 4)), (5, .ref (al 5)), (6, .ref (al 6)), (7, .ref (al 7)), (8, .ref (al 8)), (9, .ref (al 9)), (10, .int (nI a)), (11, .int (wI up)), (12, .int (nI t)), (13, .int wv), (14, .int T), (15, .int (bI (slB z a up)))] → W p l e ({ frames := 1, cells := 0, slots := 0, locals := 24 } : Room) s m [.ref (al 0), .ref (al 1), .ref (al 2), .ref (al 3), .ref (al 4), .ref (al 5), .ref (al 6), .ref (al 7), .ref (al 8), .ref (al 9), .int (nI a), .int (wI up)].toArray below meth c H locs 0 0 (MQ below (fQ (some (.int (bI (canF z a (wI up))))) D (lqW kA al z k) (lqW kA al (stZ z a up) k)) [.ref (al 0), .ref (al 1), .ref (al 2), .ref (al 3), .ref (al 4), .ref (al 5), .ref (al 6), .ref (al 7), .ref (al 8), .ref (al 9), .int (nI a), .int (wI up)].toArray s 0 0 (Aw (lqW kA al z k))) (F0 m 217 ls []) := by
            intro z9 f9 H locs hP hD hS ls hl
            obtain ⟨z8, f8, f9⟩ := f9
            refine lv_aload hx hb dL_step_217 (lv_at hl 8 rfl) ?_
            refine lv_aload hx hb dL_step_219 (lv_at hl 9 rfl) ?_
            refine lv_iload hx hb dL_step_221 (lv_at hl 10 rfl) ?_
            refine lv_iload hx hb dL_step_223 (lv_at hl 12 rfl) ?_
            refine lv_iload hx hb dL_step_225 (lv_at hl 13 rfl) ?_
            refine lv_aload_n hx hb dL_step_227 rfl (lv_at hl 0 rfl) ?_
            refine lv_iconst (v := 3) hx hb dL_step_228 (by decide) ?_
            refine va_iald (f := lqN z9 k) hx hb hK hP 0 0 lw_0 rfl (in_nI (j := 3) rfl (by omega) (by decide)) dL_step_229 ?_
            refine W_top (v' := .int (z9 0)) (rfl) ?_
            refine W_top (v' := .int (z 0)) (congrArg Value.int (by rw [f9, puZ_low (by omega), f8, puZ_low (by omega), f7, puZ_low (by omega), f6, puZ_low (by omega), f5, puZ_low (by omega), f4, puZ_low (by omega), f3, puZ_low (by omega), f2, puZ_low (by omega), f1, upd_ne (by omega)])) ?_
            refine lv_iadd hx hb dL_step_230 ?_
            refine lv_bipush (v := 99) hx hb dL_step_231 (by decide) ?_
            have jn_233_2 : ∀ v : Int32, v = (if 99 < (wv + (z 0)) then 99 else wv + (z 0)) → W p l e ({ frames := 1, cells := 0, slots := 0, locals := 24 } : Room) s m [.ref (al 0), .ref (al 1), .ref (al 2), .ref (al 3), .ref (al 4), .ref (al 5), .ref (al 6), .ref (al 7), .ref (al 8), .ref (al 9), .int (nI a), .int (wI up)].toArray below meth c H locs 0 0 (MQ below (fQ (some (.int (bI (canF z a (wI up))))) D (lqW kA al z k) (lqW kA al (stZ z a up) k)) [.ref (al 0), .ref (al 1), .ref (al 2), .ref (al 3), .ref (al 4), .ref (al 5), .ref (al 6), .ref (al 7), .ref (al 8), .ref (al 9), .int (nI a), .int (wI up)].toArray s 0 0 (Aw (lqW kA al z k))) (F0 m 247 ls (.int v :: [.int (nI t), .int (nI a), .ref (al 9), .ref (al 8)])) := by
              intro v ev
              subst ev
              refine cs_fn (runS (As := [.ref (al 8), .ref (al 9), .int (nI a), .int (nI t), .int (if 99 < (wv + (z 0)) then 99 else wv + (z 0))]) (rest := []) ⟨hx, hb, hml, hown, hts⟩ (m_L_setWear l D kA al z9 k a t (if 99 < (wv + (z 0)) then 99 else wv + (z 0)) (ha) (ht)) q_214 q_215 q_0 q_216 hd_L_setWear ⟨rfl, rfl⟩ ⟨Nat.le_of_ble_eq_true rfl, Nat.le_of_ble_eq_true rfl⟩ hK (ws := (lqW kA al z9 k)) hP hD rfl hl.1 rfl (Nat.le_of_ble_eq_true rfl) dL_step_247 ⟨Nat.zero_le _, Nat.zero_le _⟩) hS (fun q h => lw_Aw h) (fun H locs hP _ hS => ?_)
              have hD : va_D (Aw (lqW kA al z k)) (lqW kA al (puZ z9 a (t + 11) (if 99 < (wv + (z 0)) then 99 else wv + (z 0))) k) := hD.congr lw_fst
              obtain ⟨z10, e_z10⟩ : ∃ y : Nat → Int32, y = puZ z9 a (t + 11) (if 99 < (wv + (z 0)) then 99 else wv + (z 0)) := ⟨_, rfl⟩
              rw [← e_z10] at hP hD
              have f10 : z10 = puZ z9 a (t + 11) (stepG (sl z a) z (wI up) (t + 11)) := by rw [e_z10, hwv, st_w et ht]
              refine lv_aload hx hb dL_step_250 (lv_at hl 4 rfl) ?_
              refine lv_iload hx hb dL_step_252 (lv_at hl 10 rfl) ?_
              refine lv_iload hx hb dL_step_254 (lv_at hl 11 rfl) ?_
              refine va_iast (f := lqG z10 3) hx hb hK hP hD hS 4 0 lw_4 rfl (in_nI rfl (by omega) (by decide)) dL_step_256 (fun H locs hP hD hS => ?_)
              rw [nI_clamp (by omega)] at hP hD
              have hP : va_P D vwCl (lqW kA al (puZ z10 a 3 (wI up)) k) H := by rw [← sg_3]; exact hP
              have hD : va_D (Aw (lqW kA al z k)) (lqW kA al (puZ z10 a 3 (wI up)) k) := by rw [← sg_3]; exact hD
              obtain ⟨z11, e_z11⟩ : ∃ y : Nat → Int32, y = puZ z10 a 3 (wI up) := ⟨_, rfl⟩
              rw [← e_z11] at hP hD
              have f11 : z11 = puZ z10 a 3 (stepG (sl z a) z (wI up) 3) := e_z11
              refine lv_iconst (v := 1) hx hb dL_step_257 (by decide) ?_
              exact end_fz hx hb hrt hlk (by decide) hP hS (can_t hc) (fun h => by rw [stZ, if_neg hc, ← ls_fin ha hc et ht f1 f2 f3 f4 f5 f6 f7 f8 f9 f10 f11]; exact h) dL_step_258
            refine lv_icmp_le (tgt := 241) hx hb dL_step_233 (by decide) (fun c_4 => ?_) (fun c_4 => ?_)
            · skip
              replace c_4 := ge_n c_4
              refine lv_iload hx hb dL_step_241 (lv_at hl 13 rfl) ?_
              refine lv_aload_n hx hb dL_step_243 rfl (lv_at hl 0 rfl) ?_
              refine lv_iconst (v := 3) hx hb dL_step_244 (by decide) ?_
              refine va_iald (f := lqN z9 k) hx hb hK hP 0 0 lw_0 rfl (in_nI (j := 3) rfl (by omega) (by decide)) dL_step_245 ?_
              refine W_top (v' := .int (z9 0)) (rfl) ?_
              refine W_top (v' := .int (z 0)) (congrArg Value.int (by rw [f9, puZ_low (by omega), f8, puZ_low (by omega), f7, puZ_low (by omega), f6, puZ_low (by omega), f5, puZ_low (by omega), f4, puZ_low (by omega), f3, puZ_low (by omega), f2, puZ_low (by omega), f1, upd_ne (by omega)])) ?_
              refine lv_iadd hx hb dL_step_246 ?_
              exact jn_233_2 _ (by rw [if_neg c_4])
            · skip
              replace c_4 := nge_l c_4
              refine lv_bipush (v := 99) hx hb dL_step_236 (by decide) ?_
              refine lv_goto (tgt := 247) hx hb dL_step_238 (by decide) ?_
              exact jn_233_2 _ (by rw [if_pos c_4])
          refine lv_if_eq (tgt := 204) hx hb dL_step_185 (by decide) (fun c_5 => ?_) (fun c_5 => ?_)
          · skip
            replace c_5 := bI_0.mp c_5
            refine lv_aload_n hx hb dL_step_204 rfl (lv_at hl 1 rfl) ?_
            refine lv_iload hx hb dL_step_205 (lv_at hl 10 rfl) ?_
            refine lv_aload_n hx hb dL_step_207 rfl (lv_at hl 1 rfl) ?_
            refine lv_iload hx hb dL_step_208 (lv_at hl 10 rfl) ?_
            refine va_iald (f := lqG z7 0) hx hb hK hP 1 0 lw_1 rfl (in_nI rfl (by omega) (by decide)) dL_step_210 ?_
            refine W_top (v' := .int (sl z7 a 0)) (congrArg Value.int (vG (by omega))) ?_
            refine W_top (v' := .int (sl z a 0)) (congrArg Value.int (by rw [f7, sl_pn (by omega) (by omega) (by omega), f6, sl_pn (by omega) (by omega) (by omega), f5, sl_pn (by omega) (by omega) (by omega), f4, sl_pn (by omega) (by omega) (by omega), f3, sl_pn (by omega) (by omega) (by omega), f2, sl_pn (by omega) (by omega) (by omega), s1])) ?_
            refine lv_iload hx hb dL_step_211 (lv_at hl 11 rfl) ?_
            refine cs_p (runS (As := [.int (sl z a 0), .int (wI up)]) (rest := [.int (nI a), .ref (al 1)]) ⟨hx, hb, hml, hown, hts⟩ (m_L_go l D kA (sl z a 0) ((sl z a 0).toNatClampNeg) up ((hI.p0 ha).1) ((hI.p0 ha).2)) q_211 q_212 q_0 q_213 hd_L_go ⟨rfl, rfl⟩ ⟨Nat.le_of_ble_eq_true rfl, Nat.le_of_ble_eq_true rfl⟩ hK (ws := []) (fun _ _ h => by simp at h) (D0 (A := fun _ => True)) rfl hl.1 rfl (Nat.le_of_ble_eq_true rfl) dL_step_213 ⟨Nat.zero_le _, Nat.zero_le _⟩) ?_
            refine va_iast (f := lqG z7 0) hx hb hK hP hD hS 1 0 lw_1 rfl (in_nI rfl (by omega) (by decide)) dL_step_216 (fun H locs hP hD hS => ?_)
            rw [nI_clamp (by omega)] at hP hD
            have hP : va_P D vwCl (lqW kA al (puZ z7 a 0 (nW (sl z a 0) (wI up))) k) H := by rw [← sg_0]; exact hP
            have hD : va_D (Aw (lqW kA al z k)) (lqW kA al (puZ z7 a 0 (nW (sl z a 0) (wI up))) k) := by rw [← sg_0]; exact hD
            obtain ⟨z9y, e_z9y⟩ : ∃ y : Nat → Int32, y = puZ z7 a 0 (nW (sl z a 0) (wI up)) := ⟨_, rfl⟩
            rw [← e_z9y] at hP hD
            exact jp_185 z9y (⟨z7, by rw [show stepG (sl z a) z (wI up) 7 = sl z7 a 7 from (st7_n c_5).trans (by rw [f7, sl_pn (by omega) (by omega) (by omega), f6, sl_pn (by omega) (by omega) (by omega), f5, sl_pn (by omega) (by omega) (by omega), f4, sl_pn (by omega) (by omega) (by omega), f3, sl_pn (by omega) (by omega) (by omega), f2, sl_pn (by omega) (by omega) (by omega), s1] : sl z7 a 7 = sl z a 7).symm, pu_self (by omega)], e_z9y.trans (congrArg (puZ z7 a 0) (st0_n c_5).symm)⟩) _ _ hP hD hS ls (lv_sub hl [0, 1, 2, 3, 4, 5, 6, 7, 8, 9, 10, 11, 12, 13, 14, 15] rfl)
          · skip
            replace c_5 := bI_n0 c_5
            refine lv_aload hx hb dL_step_188 (lv_at hl 7 rfl) ?_
            refine lv_iconst (v := 5) hx hb dL_step_190 (by decide) ?_
            refine lv_iload hx hb dL_step_191 (lv_at hl 10 rfl) ?_
            refine lv_imul hx hb dL_step_193 ?_
            refine lv_iconst (v := 1) hx hb dL_step_194 (by decide) ?_
            refine lv_iadd hx hb dL_step_195 ?_
            refine lv_dup2_11 hx hb dL_step_196 rfl rfl ?_
            refine va_iald (f := lqU z7) hx hb hK hP 7 0 lw_7 rfl (in_nI (ux (x := 1) (r := 1) rfl) (by omega) (by decide)) dL_step_197 ?_
            refine W_top (v' := .int (sl z7 a 7)) (congrArg Value.int (vU (ux (x := 1) (r := 1) rfl) (by omega) (by omega))) ?_
            refine W_top (v' := .int (sl z a 7)) (congrArg Value.int (by rw [f7, sl_pn (by omega) (by omega) (by omega), f6, sl_pn (by omega) (by omega) (by omega), f5, sl_pn (by omega) (by omega) (by omega), f4, sl_pn (by omega) (by omega) (by omega), f3, sl_pn (by omega) (by omega) (by omega), f2, sl_pn (by omega) (by omega) (by omega), s1])) ?_
            refine lv_iconst (v := 1) hx hb dL_step_198 (by decide) ?_
            refine lv_iadd hx hb dL_step_199 ?_
            refine va_iast (f := lqU z7) hx hb hK hP hD hS 7 0 lw_7 rfl (in_nI (ux (x := 1) (r := 1) rfl) (by omega) (by decide)) dL_step_200 (fun H locs hP hD hS => ?_)
            rw [ux (x := 1) (r := 1) rfl, nI_clamp (by omega)] at hP hD
            have hP : va_P D vwCl (lqW kA al (puZ z7 a 7 ((sl z a 7) + 1)) k) H := by rw [← su_r (a := a) (w := 1) (by omega)]; exact hP
            have hD : va_D (Aw (lqW kA al z k)) (lqW kA al (puZ z7 a 7 ((sl z a 7) + 1)) k) := by rw [← su_r (a := a) (w := 1) (by omega)]; exact hD
            obtain ⟨z8y, e_z8y⟩ : ∃ y : Nat → Int32, y = puZ z7 a 7 ((sl z a 7) + 1) := ⟨_, rfl⟩
            rw [← e_z8y] at hP hD
            refine lv_goto (tgt := 217) hx hb dL_step_201 (by decide) ?_
            exact jp_185 z8y (⟨z8y, e_z8y.trans (congrArg (puZ z7 a 7) (st7_y c_5).symm), by rw [show stepG (sl z a) z (wI up) 0 = sl z8y a 0 from (st0_y c_5).trans (by rw [e_z8y, sl_pn (by omega) (by omega) (by omega), f7, sl_pn (by omega) (by omega) (by omega), f6, sl_pn (by omega) (by omega) (by omega), f5, sl_pn (by omega) (by omega) (by omega), f4, sl_pn (by omega) (by omega) (by omega), f3, sl_pn (by omega) (by omega) (by omega), f2, sl_pn (by omega) (by omega) (by omega), s1] : sl z8y a 0 = sl z a 0).symm, pu_self (by omega)]⟩) _ _ hP hD hS ls (lv_sub hl [0, 1, 2, 3, 4, 5, 6, 7, 8, 9, 10, 11, 12, 13, 14, 15] rfl)
        refine lv_icmp_ne (tgt := 170) hx hb dL_step_120 (by decide) (fun c_6 => ?_) (fun c_6 => ?_)
        · skip
          exact jp_120 z4 0 (⟨z4, by rw [show stepG (sl z a) z (wI up) 4 = sl z4 a 4 from (st4_f (fun q => c_6 (of_decide_eq_true q))).trans (by rw [f4, sl_pn (by omega) (by omega) (by omega), f3, sl_pn (by omega) (by omega) (by omega), f2, sl_pn (by omega) (by omega) (by omega), s1] : sl z4 a 4 = sl z a 4).symm, pu_self (by omega)], by rw [show stepG (sl z a) z (wI up) 9 = sl z4 a 9 from (st9_f (fun q => c_6 (of_decide_eq_true q))).trans (by rw [f4, sl_pn (by omega) (by omega) (by omega), f3, sl_pn (by omega) (by omega) (by omega), f2, sl_pn (by omega) (by omega) (by omega), s1] : sl z4 a 9 = sl z a 9).symm, pu_self (by omega)]⟩) (slB_f (fun q => c_6 (of_decide_eq_true q))) _ _ hP hD hS ls (lv_sub hl [1, 2, 3, 4, 5, 6, 7, 8, 9, 10, 11, 12, 13, 14, 15, 0] rfl)
        · skip
          have htn : turnG (sl z a) (wI up) = true := decide_eq_true c_6
          refine lv_aload hx hb dL_step_123 (lv_at hl 6 rfl) ?_
          refine lv_iload hx hb dL_step_125 (lv_at hl 11 rfl) ?_
          refine va_iald (f := lqG z4 4) hx hb hK hP 5 0 lw_5 rfl (in_nI rfl (by omega) (by decide)) dL_step_127 ?_
          refine W_top (v' := .int (sl z4 a 4)) (congrArg Value.int (vG (by omega))) ?_
          refine W_top (v' := .int (sl z a 4)) (congrArg Value.int (by rw [f4, sl_pn (by omega) (by omega) (by omega), f3, sl_pn (by omega) (by omega) (by omega), f2, sl_pn (by omega) (by omega) (by omega), s1])) ?_
          refine lv_bipush (v := 12) hx hb dL_step_128 (by decide) ?_
          have jp_130 : ∀ (z5 : Nat → Int32) (f5 : z5 = puZ z4 a 4 (stepG (sl z a) z (wI up) 4)), ∀ (H : Heap) (locs : List Loc), va_P D vwCl (lqW kA al z5 k) H → va_D (Aw (lqW kA al z k)) (lqW kA al z5 k) → va_S (Aw (lqW kA al z k)) s.heap H locs → ∀ ls : Array Slot, lv_has ls 16 [(0, .ref (al 0)), (1, .ref (al 1)), (2, .ref (al 2)), (3, .ref (al 3)), (4, .ref (al 4)), (5, .ref (al 5)), (6, .ref (al 6)), (7, .ref (al 7)), (8, .ref (al 8)), (9, .ref (al 9)), (10, .int (nI a)), (11, .int (wI up)), (12, .int (nI t)), (13, .int wv), (14, .int T), (15, .int 0)] → W p l e ({ frames := 1, cells := 0, slots := 0, locals := 24 } : Room) s m [.ref (al 0), .ref (al 1), .ref (al 2), .ref (al 3), .ref (al 4), .ref (al 5), .ref (al 6), .ref (al 7), .ref (al 8), .ref (al 9), .int (nI a), .int (wI up)].toArray below meth c H locs 0 0 (MQ below (fQ (some (.int (bI (canF z a (wI up))))) D (lqW kA al z k) (lqW kA al (stZ z a up) k)) [.ref (al 0), .ref (al 1), .ref (al 2), .ref (al 3), .ref (al 4), .ref (al 5), .ref (al 6), .ref (al 7), .ref (al 8), .ref (al 9), .int (nI a), .int (wI up)].toArray s 0 0 (Aw (lqW kA al z k))) (F0 m 142 ls []) := by
            intro z5 f5 H locs hP hD hS ls hl
            refine lv_aload hx hb dL_step_142 (lv_at hl 7 rfl) ?_
            refine lv_iconst (v := 5) hx hb dL_step_144 (by decide) ?_
            refine lv_iload hx hb dL_step_145 (lv_at hl 10 rfl) ?_
            refine lv_imul hx hb dL_step_147 ?_
            refine lv_iconst (v := 3) hx hb dL_step_148 (by decide) ?_
            refine lv_iadd hx hb dL_step_149 ?_
            refine lv_dup2_11 hx hb dL_step_150 rfl rfl ?_
            refine va_iald (f := lqU z5) hx hb hK hP 7 0 lw_7 rfl (in_nI (ux (x := 3) (r := 3) rfl) (by omega) (by decide)) dL_step_151 ?_
            refine W_top (v' := .int (sl z5 a 9)) (congrArg Value.int (vU (ux (x := 3) (r := 3) rfl) (by omega) (by omega))) ?_
            refine W_top (v' := .int (sl z a 9)) (congrArg Value.int (by rw [f5, sl_pn (by omega) (by omega) (by omega), f4, sl_pn (by omega) (by omega) (by omega), f3, sl_pn (by omega) (by omega) (by omega), f2, sl_pn (by omega) (by omega) (by omega), s1])) ?_
            refine lv_iconst (v := 1) hx hb dL_step_152 (by decide) ?_
            refine lv_iadd hx hb dL_step_153 ?_
            refine va_iast (f := lqU z5) hx hb hK hP hD hS 7 0 lw_7 rfl (in_nI (ux (x := 3) (r := 3) rfl) (by omega) (by decide)) dL_step_154 (fun H locs hP hD hS => ?_)
            rw [ux (x := 3) (r := 3) rfl, nI_clamp (by omega)] at hP hD
            have hP : va_P D vwCl (lqW kA al (puZ z5 a 9 ((sl z a 9) + 1)) k) H := by rw [← su_r (a := a) (w := 3) (by omega)]; exact hP
            have hD : va_D (Aw (lqW kA al z k)) (lqW kA al (puZ z5 a 9 ((sl z a 9) + 1)) k) := by rw [← su_r (a := a) (w := 3) (by omega)]; exact hD
            obtain ⟨z6y, e_z6y⟩ : ∃ y : Nat → Int32, y = puZ z5 a 9 ((sl z a 9) + 1) := ⟨_, rfl⟩
            rw [← e_z6y] at hP hD
            refine lv_iload hx hb dL_step_155 (lv_at hl 13 rfl) ?_
            refine lv_aload_n hx hb dL_step_157 rfl (lv_at hl 0 rfl) ?_
            refine lv_iconst (v := 5) hx hb dL_step_158 (by decide) ?_
            refine va_iald (f := lqN z6y k) hx hb hK hP 0 0 lw_0 rfl (in_nI (j := 5) rfl (by omega) (by decide)) dL_step_159 ?_
            refine W_top (v' := .int (z6y 2)) (rfl) ?_
            refine W_top (v' := .int (z 2)) (congrArg Value.int (by rw [e_z6y, puZ_low (by omega), f5, puZ_low (by omega), f4, puZ_low (by omega), f3, puZ_low (by omega), f2, puZ_low (by omega), f1, upd_ne (by omega)])) ?_
            have jn_160_6 : ∀ v : Int32, v = (if wv < (z 2) then 0 else 1) → W p l e ({ frames := 1, cells := 0, slots := 0, locals := 24 } : Room) s m [.ref (al 0), .ref (al 1), .ref (al 2), .ref (al 3), .ref (al 4), .ref (al 5), .ref (al 6), .ref (al 7), .ref (al 8), .ref (al 9), .int (nI a), .int (wI up)].toArray below meth c H locs 0 0 (MQ below (fQ (some (.int (bI (canF z a (wI up))))) D (lqW kA al z k) (lqW kA al (stZ z a up) k)) [.ref (al 0), .ref (al 1), .ref (al 2), .ref (al 3), .ref (al 4), .ref (al 5), .ref (al 6), .ref (al 7), .ref (al 8), .ref (al 9), .int (nI a), .int (wI up)].toArray s 0 0 (Aw (lqW kA al z k))) (F0 m 168 ls (.int v :: [])) := by
              intro v ev
              have hsv9 : v = bI (slB z a up) := by rw [ev, hwv]; exact slB_v htn
              obtain ⟨sv9, e_sv9⟩ : ∃ y, y = v := ⟨_, rfl⟩
              rw [← e_sv9] at hsv9
              rw [← e_sv9]
              refine lv_istore (lv' := [(15, .int sv9), (0, .ref (al 0)), (1, .ref (al 1)), (2, .ref (al 2)), (3, .ref (al 3)), (4, .ref (al 4)), (5, .ref (al 5)), (6, .ref (al 6)), (7, .ref (al 7)), (8, .ref (al 8)), (9, .ref (al 9)), (10, .int (nI a)), (11, .int (wI up)), (12, .int (nI t)), (13, .int wv), (14, .int T)]) hx hb dL_step_168 hl (by decide) rfl (fun ls hl => ?_)
              exact jp_120 z6y sv9 (⟨z5, f5, e_z6y.trans (congrArg (puZ z5 a 9) (st9_t htn).symm)⟩) (hsv9) _ _ hP hD hS ls (lv_sub hl [1, 2, 3, 4, 5, 6, 7, 8, 9, 10, 11, 12, 13, 14, 15, 0] rfl)
            refine lv_icmp_lt (tgt := 167) hx hb dL_step_160 (by decide) (fun c_8 => ?_) (fun c_8 => ?_)
            · skip
              refine lv_iconst (v := 0) hx hb dL_step_167 (by decide) ?_
              exact jn_160_6 _ (by rw [if_pos c_8])
            · skip
              refine lv_iconst (v := 1) hx hb dL_step_163 (by decide) ?_
              refine lv_goto (tgt := 168) hx hb dL_step_164 (by decide) ?_
              exact jn_160_6 _ (by rw [if_neg c_8])
          refine lv_icmp_ge (tgt := 142) hx hb dL_step_130 (by decide) (fun c_9 => ?_) (fun c_9 => ?_)
          · skip
            replace c_9 := ge_n c_9
            exact jp_130 z4 (by rw [show stepG (sl z a) z (wI up) 4 = sl z4 a 4 from (st4_t htn).trans ((g4_n hb4 c_9).symm.trans (by rw [f4, sl_pn (by omega) (by omega) (by omega), f3, sl_pn (by omega) (by omega) (by omega), f2, sl_pn (by omega) (by omega) (by omega), s1] : sl z4 a 4 = sl z a 4).symm), pu_self (by omega)]) _ _ hP hD hS ls (lv_sub hl [1, 2, 3, 4, 5, 6, 7, 8, 9, 10, 11, 12, 13, 14, 15, 0] rfl)
          · skip
            replace c_9 := nge_l c_9
            refine lv_aload hx hb dL_step_133 (lv_at hl 6 rfl) ?_
            refine lv_iload hx hb dL_step_135 (lv_at hl 11 rfl) ?_
            refine lv_dup2_11 hx hb dL_step_137 rfl rfl ?_
            refine va_iald (f := lqG z4 4) hx hb hK hP 5 0 lw_5 rfl (in_nI rfl (by omega) (by decide)) dL_step_138 ?_
            refine W_top (v' := .int (sl z4 a 4)) (congrArg Value.int (vG (by omega))) ?_
            refine W_top (v' := .int (sl z a 4)) (congrArg Value.int (by rw [f4, sl_pn (by omega) (by omega) (by omega), f3, sl_pn (by omega) (by omega) (by omega), f2, sl_pn (by omega) (by omega) (by omega), s1])) ?_
            refine lv_iconst (v := 1) hx hb dL_step_139 (by decide) ?_
            refine lv_iadd hx hb dL_step_140 ?_
            refine va_iast (f := lqG z4 4) hx hb hK hP hD hS 5 0 lw_5 rfl (in_nI rfl (by omega) (by decide)) dL_step_141 (fun H locs hP hD hS => ?_)
            rw [nI_clamp (by omega)] at hP hD
            have hP : va_P D vwCl (lqW kA al (puZ z4 a 4 ((sl z a 4) + 1)) k) H := by rw [← sg_4]; exact hP
            have hD : va_D (Aw (lqW kA al z k)) (lqW kA al (puZ z4 a 4 ((sl z a 4) + 1)) k) := by rw [← sg_4]; exact hD
            obtain ⟨z5y, e_z5y⟩ : ∃ y : Nat → Int32, y = puZ z4 a 4 ((sl z a 4) + 1) := ⟨_, rfl⟩
            rw [← e_z5y] at hP hD
            exact jp_130 z5y (e_z5y.trans (congrArg (puZ z4 a 4) ((g4_y hb4 c_9).trans (st4_t htn).symm))) _ _ hP hD hS ls (lv_sub hl [1, 2, 3, 4, 5, 6, 7, 8, 9, 10, 11, 12, 13, 14, 15, 0] rfl)
      refine lv_if_le (tgt := 109) hx hb dL_step_97 (by decide) (fun c_10 => ?_) (fun c_10 => ?_)
      · skip
        replace c_10 := ge_n c_10
        exact jp_97 z3 (by rw [show stepG (sl z a) z (wI up) 5 = sl z3 a 5 from (g5_n hb5 c_10).symm.trans (by rw [f3, sl_pn (by omega) (by omega) (by omega), f2, sl_pn (by omega) (by omega) (by omega), s1] : sl z3 a 5 = sl z a 5).symm, pu_self (by omega)]) _ _ hP hD hS ls (lv_sub hl [3, 4, 5, 6, 7, 8, 9, 10, 11, 12, 13, 14, 2, 1, 0] rfl)
      · skip
        replace c_10 := nge_l c_10
        refine lv_aload hx hb dL_step_100 (lv_at hl 9 rfl) ?_
        refine lv_iload hx hb dL_step_102 (lv_at hl 13 rfl) ?_
        refine lv_dup2_11 hx hb dL_step_104 rfl rfl ?_
        refine va_iald (f := lqG z3 5) hx hb hK hP 6 0 lw_6 rfl (in_nI rfl (by omega) (by decide)) dL_step_105 ?_
        refine W_top (v' := .int (sl z3 a 5)) (congrArg Value.int (vG (by omega))) ?_
        refine W_top (v' := .int (sl z a 5)) (congrArg Value.int (by rw [f3, sl_pn (by omega) (by omega) (by omega), f2, sl_pn (by omega) (by omega) (by omega), s1])) ?_
        refine lv_iconst (v := 1) hx hb dL_step_106 (by decide) ?_
        refine lv_isub hx hb dL_step_107 ?_
        refine va_iast (f := lqG z3 5) hx hb hK hP hD hS 6 0 lw_6 rfl (in_nI rfl (by omega) (by decide)) dL_step_108 (fun H locs hP hD hS => ?_)
        rw [nI_clamp (by omega)] at hP hD
        have hP : va_P D vwCl (lqW kA al (puZ z3 a 5 ((sl z a 5) - 1)) k) H := by rw [← sg_5]; exact hP
        have hD : va_D (Aw (lqW kA al z k)) (lqW kA al (puZ z3 a 5 ((sl z a 5) - 1)) k) := by rw [← sg_5]; exact hD
        obtain ⟨z4y, e_z4y⟩ : ∃ y : Nat → Int32, y = puZ z3 a 5 ((sl z a 5) - 1) := ⟨_, rfl⟩
        rw [← e_z4y] at hP hD
        exact jp_97 z4y (e_z4y.trans (congrArg (puZ z3 a 5) (g5_y hb5 c_10))) _ _ hP hD hS ls (lv_sub hl [3, 4, 5, 6, 7, 8, 9, 10, 11, 12, 13, 14, 2, 1, 0] rfl)
    · skip
      replace c_2 := nge_l c_2
      refine lv_iconst (v := 0) hx hb dL_step_57 (by decide) ?_
      exact end_fz hx hb hrt hlk (by decide) hP hS (can_f hT c_2) (fun h => by rw [stZ, if_pos (hT ▸ c_2)]; exact h) dL_step_58
  refine lv_if_le (tgt := 43) hx hb dL_step_36 (by decide) (fun c_11 => ?_) (fun c_11 => ?_)
  · skip
    replace c_11 := ge_n c_11
    refine lv_iconst (v := 0) hx hb dL_step_43 (by decide) ?_
    exact jn_36_0 _ (by rw [if_neg c_11])
  · skip
    replace c_11 := nge_l c_11
    refine lv_iconst (v := 1) hx hb dL_step_39 (by decide) ?_
    refine lv_goto (tgt := 44) hx hb dL_step_40 (by decide) ?_
    exact jn_36_0 _ (by rw [if_pos c_11])
