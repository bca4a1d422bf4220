set_option maxRecDepth 100000 in
set_option maxHeartbeats 4000000 in
theorem k_append {p : Program} {l : Launch} {e : Env} {s : State} {m : MethodId} {below : List Frame} {meth : Method} {c : Code} {Q : State → Prop} {D : va_G} {kA ad : Nat → Nat} {m0 m1 m2 m3 m4 m5 o b L i N cells slots : Nat} {xs : Nat → Int32} (C0 : LC l p s m meth c D kA b L xs) {X : Nat → Nat → Int32} {z h tx pt kp : Nat → Int32} {w n0 r : Nat} {th rd nu du : Int32} {hs : Int64} {f : Nat → Int64} {H : Heap} {locs : List Loc} {ls : Array Slot} (hR2 : REL X z h tx w n0 r N) (hN : N + 1000 ≤ 600000) (hi : i + 4 ≤ L) (hL : L ≤ 2048) (hP : va_P D vwCl (LWd kA ad m0 m1 m2 m3 m4 m5 o X z h tx pt kp w n0 th rd nu du hs f) H) (hD : va_D (fun q => s.heap.size ≤ q) (LWd kA ad m0 m1 m2 m3 m4 m5 o X z h tx pt kp w n0 th rd nu du hs f)) (hS : va_S (fun q => s.heap.size ≤ q) s.heap H locs) (hl : lv_has ls 9 (lB ad b m0 o i)) (hroom : cells + 1 ≤ 601024 ∧ slots + 6 ≤ 7293034) (K : KT p l e s m below meth c Q D kA ad m0 m1 m2 m3 m4 m5 o b i (N + 1000) (cells + 1) (slots + 6)) : W p l e room_1 s m #[Value.ref b] below meth c H locs cells slots Q (F0 m 664 ls []) := by
  obtain ⟨hx, hb, hml, hown, hts, hK, hXb, hbl, hX0, hLW, hnt⟩ := C0
  obtain ⟨hXz, hI, hC, hw6, hr6, h80, h81, h82, hN3, hTB, hring⟩ := id hR2
  have hn60 := hTB.1
  have hl : lv_has ls 9 [(0, .ref b), (1, .ref (ad 0)), (2, .ref m0), (3, .ref o), (4, .int (nI i))] := hl
  have hP : va_P D vwCl (mL kA m0 m1 m2 m3 m4 m5 z h tx pt kp (nI w) (nI n0) th (-1) rd nu du hs ++ ([(o, oO kA f)] ++ cw kA ad X)) H := hP
  have hD : va_D (fun q => s.heap.size ≤ q) (mL kA m0 m1 m2 m3 m4 m5 z h tx pt kp (nI w) (nI n0) th (-1) rd nu du hs ++ ([(o, oO kA f)] ++ cw kA ad X)) := hD
  obtain ⟨v0, hv0⟩ : ∃ y, xs (nI (i + 1)).toNatClampNeg = y := ⟨_, rfl⟩
  refine lv_aload_n hx hb dL_law_664 rfl (lv_at hl 1 rfl) ?_
  refine lv_aload_n hx hb dL_law_665 rfl (lv_at hl 0 rfl) ?_
  refine lv_iload hx hb dL_law_666 (lv_at hl 4 rfl) ?_
  refine lv_iconst (v := 1) hx hb dL_law_668 (by decide) ?_
  refine lv_iadd hx hb dL_law_669 ?_
  refine W_top (v' := .int (nI (i + 1))) (congrArg Value.int (nI_add i 1)) ?_
  refine va_sld hx hb hXb hbl (Nat.not_le.mpr hbl) hS (in_nI (j := i + 1) rfl (by omega) (by omega)) dL_law_670 ?_
  refine W_top (v' := .int v0) (congrArg Value.int hv0) ?_
  refine lv_aload_n hx hb dL_law_671 rfl (lv_at hl 3 rfl) ?_
  have hXH : XW (Aw (cw kA ad X)) s H := (hX0.kept hS.2.1).narrow (fun q9 h9 => aw_D hD.rt.rt q9 h9)
  refine cs_fk (wrunS (As := [.ref (ad 0), .int v0, .ref o]) (rest := []) ⟨hx, hb, hml, hown, hts⟩ (w_append l D kA ad X v0 o f  hnt) q_638 q_639 q_0 q_640 hdw_append ⟨rfl, rfl⟩ ⟨Nat.le_of_ble_eq_true rfl, Nat.le_of_ble_eq_true rfl⟩ hK hP.r hD.rt hXH hLW rfl hl.1 rfl (Nat.le_of_ble_eq_true rfl) dL_law_672 ⟨hroom.1, hroom.2⟩) hS (aw_D hD.rt) (fun H locs hP1 hk1 hS => ?_)
  obtain ⟨hP, hD⟩ := jR hP hD hk1 hP1 lw_fst
  clear hP1 hk1 hXH
  refine lv_istore (lv' := [(5, .int (axpT (X 8 2) v0)), (0, .ref b), (1, .ref (ad 0)), (2, .ref m0), (3, .ref o), (4, .int (nI i))]) hx hb dL_law_675 hl (by decide) rfl (fun ls hl => ?_)
  refine lv_aload_n hx hb dL_law_677 rfl (lv_at hl 3 rfl) ?_
  refine lv_aload_n hx hb dL_law_678 rfl (lv_at hl 1 rfl) ?_
  refine lv_iload hx hb dL_law_679 (lv_at hl 5 rfl) ?_
  refine lv_iconst (v := 1) hx hb dL_law_681 (by decide) ?_
  refine lv_iadd hx hb dL_law_682 ?_
  refine W_top (v' := .int (nI (i + 1))) (congrArg Value.int (nI_add i 1)) ?_
  refine va_sld hx hb hXb hbl (Nat.not_le.mpr hbl) hS (in_nI (j := i + 1) rfl (by omega) (by omega)) dL_law_683 ?_
  refine W_top (v' := .int v0) (congrArg Value.int hv0) ?_
  have eT : (axpT (X 8 2) v0) = (apT (nI n0) v0) := by rw [h82]; exact ap_T hn60
  refine cs_fs (runV (As := [.int v0]) (rest := []) ⟨hx, hb, hml, hown, hts⟩ (m_X6_append l D kA m0 m1 m2 m3 m4 m5 z h tx pt kp (nI w) (nI n0) th (-1) rd nu du hs v0 n0 rfl hn60) q_944 q_945 q_946 q_7 q_947 hd_X6_append ⟨rfl, rfl⟩ ⟨Nat.le_of_ble_eq_true rfl, Nat.le_of_ble_eq_true rfl⟩ hK hP.l hD.lf 0 (ci := 6) (C := RX6) (T := TX6) (N := 13) rfl rfl rfl hl.1 rfl (Nat.le_of_ble_eq_true rfl) dL_law_684 ⟨hroom.1, hroom.2⟩) hS (aw_D hD.lf) (fun H locs hP1 hk1 hS => ?_)
  obtain ⟨hP, hD⟩ := jL hP hD hk1 hP1 rfl
  clear hP1 hk1
  by_cases hT : (axpT (X 8 2) v0) = 0
  · have hT2 : (apT (nI n0) v0) = 0 := eT.symm.trans hT
    have hP : va_P D vwCl ([(m0, .inr (6, [.ref m1, .int (nI w), .ref m2, .int ((nI n0) + 1), .ref m3, .int (apT (nI n0) v0), .int (-1), .ref m4, .int rd, .int nu, .int du, .ref m5, .long hs])), (m1, .inl (kA 0, 148, .inl z)), (m2, .inl (kA 0, 888, .inl h)), (m3, .inl (kA 0, 60, .inl (upd tx n0 v0))), (m4, .inl (kA 0, 72, .inl pt)), (m5, .inl (kA 0, 148, .inl kp))] ++ ([(o, oO kA (vp_updL f 0 (((up3 (up3 X 9 ((X 8) 2).toNatClampNeg v0) 8 2 (((X 8) 2) + 1)) 8) 2 : Int32).toInt64))] ++ cw kA ad ((up3 (up3 X 9 ((X 8) 2).toNatClampNeg v0) 8 2 (((X 8) 2) + 1))))) H := Pcg (by simp only [if_pos hT, if_pos hT2]) hP
    have hD : va_D (fun q => s.heap.size ≤ q) ([(m0, .inr (6, [.ref m1, .int (nI w), .ref m2, .int ((nI n0) + 1), .ref m3, .int (apT (nI n0) v0), .int (-1), .ref m4, .int rd, .int nu, .int du, .ref m5, .long hs])), (m1, .inl (kA 0, 148, .inl z)), (m2, .inl (kA 0, 888, .inl h)), (m3, .inl (kA 0, 60, .inl (upd tx n0 v0))), (m4, .inl (kA 0, 72, .inl pt)), (m5, .inl (kA 0, 148, .inl kp))] ++ ([(o, oO kA (vp_updL f 0 (((up3 (up3 X 9 ((X 8) 2).toNatClampNeg v0) 8 2 (((X 8) 2) + 1)) 8) 2 : Int32).toInt64))] ++ cw kA ad ((up3 (up3 X 9 ((X 8) 2).toNatClampNeg v0) 8 2 (((X 8) 2) + 1))))) := Dcg (by simp only [if_pos hT, if_pos hT2]) hD
    refine W_top (v' := .int ((nI n0) + 1)) (congrArg Value.int (if_pos hT2)) ?_
    refine lv_istore (lv' := [(6, .int ((nI n0) + 1)), (5, .int (axpT (X 8 2) v0)), (0, .ref b), (1, .ref (ad 0)), (2, .ref m0), (3, .ref o), (4, .int (nI i))]) hx hb dL_law_687 hl (by decide) rfl (fun ls hl => ?_)
    refine lv_aload_n hx hb dL_law_689 rfl (lv_at hl 4 rfl) ?_
    refine cs_p (runV (As := []) (rest := []) ⟨hx, hb, hml, hown, hts⟩ (m_X6_thrown l D kA m0 m1 m2 m3 m4 m5 z h (upd tx n0 v0) pt kp (nI w) ((nI n0) + 1) (apT (nI n0) v0) (-1) rd nu du hs) q_810 q_811 q_812 q_7 q_813 hd_X6_thrown ⟨rfl, rfl⟩ ⟨Nat.le_of_ble_eq_true rfl, Nat.le_of_ble_eq_true rfl⟩ hK hP.l hD.lf 0 (ci := 6) (C := RX6) (T := TX6) (N := 13) rfl rfl rfl hl.1 rfl (Nat.le_of_ble_eq_true rfl) dL_law_690 ⟨hroom.1, hroom.2⟩) ?_
    refine lv_iload hx hb dL_law_693 (lv_at hl 1 rfl) ?_
    refine lv_icmp_eq (tgt := 700) hx hb dL_law_695 (by decide) (fun c9 => ?_) (fun c9 => absurd (eT.symm) c9)
    refine lv_iload hx hb dL_law_700 (lv_at hl 1 rfl) ?_
    refine lv_if_ne (tgt := 717) hx hb dL_law_702 (by decide) (fun c8 => absurd hT c8) (fun c8 => ?_)
    refine lv_aload_n hx hb dL_law_705 rfl (lv_at hl 5 rfl) ?_
    refine lv_iconst (v := 0) hx hb dL_law_706 (by decide) ?_
    refine va_lald hx hb hK hP 6 3 rfl rfl (in_nI (j := 0) rfl (by omega) (by decide)) dL_law_707 ?_
    refine W_top (v' := .long (((up3 (up3 X 9 ((X 8) 2).toNatClampNeg v0) 8 2 (((X 8) 2) + 1)) 8) 2 : Int32).toInt64) rfl ?_
    refine lv_iload hx hb dL_law_708 (lv_at hl 0 rfl) ?_
    refine lv_i2l (v := ((nI n0) + 1 : Int32).toInt64) hx hb dL_law_710 rfl ?_
    refine W.lcmp hx hb dL_law_711 ?_
    have eV : (((up3 (up3 X 9 ((X 8) 2).toNatClampNeg v0) 8 2 (((X 8) 2) + 1)) 8) 2 : Int32) = ((nI n0) + 1) := by rw [up3_s, h82]
    refine lv_if_eq (tgt := 717) hx hb dL_law_712 (by decide) (fun c7 => ?_) (fun c7 => absurd ((lg_cmp_eq _ _).mpr (congrArg Int32.toInt64 eV)) c7)
    refine lv_goto (tgt := 1677) hx hb dL_law_717 (by decide) ?_
    rw [nI_1] at hP hD
    exact K _ _ _ _ _ _ _ _ _ _ _ _ _ _ _ _ _ _ (by exact rel_mono (rel_app hR2 (ap_lt hn60 hT2).1 (ap_lt hn60 hT2).2) (by omega)) hP hD hS (lv_sub hl [2, 3, 4, 5, 6] rfl)
  · have hT2 : ¬ (apT (nI n0) v0) = 0 := fun q9 => hT (eT.trans q9)
    have hP : va_P D vwCl ([(m0, .inr (6, [.ref m1, .int (nI w), .ref m2, .int ((nI n0)), .ref m3, .int (apT (nI n0) v0), .int (-1), .ref m4, .int rd, .int nu, .int du, .ref m5, .long hs])), (m1, .inl (kA 0, 148, .inl z)), (m2, .inl (kA 0, 888, .inl h)), (m3, .inl (kA 0, 60, .inl (tx))), (m4, .inl (kA 0, 72, .inl pt)), (m5, .inl (kA 0, 148, .inl kp))] ++ ([(o, oO kA (f))] ++ cw kA ad (X))) H := Pcg (by simp only [if_neg hT, if_neg hT2]) hP
    have hD : va_D (fun q => s.heap.size ≤ q) ([(m0, .inr (6, [.ref m1, .int (nI w), .ref m2, .int ((nI n0)), .ref m3, .int (apT (nI n0) v0), .int (-1), .ref m4, .int rd, .int nu, .int du, .ref m5, .long hs])), (m1, .inl (kA 0, 148, .inl z)), (m2, .inl (kA 0, 888, .inl h)), (m3, .inl (kA 0, 60, .inl (tx))), (m4, .inl (kA 0, 72, .inl pt)), (m5, .inl (kA 0, 148, .inl kp))] ++ ([(o, oO kA (f))] ++ cw kA ad (X))) := Dcg (by simp only [if_neg hT, if_neg hT2]) hD
    refine W_top (v' := .int (0)) (congrArg Value.int (if_neg hT2)) ?_
    refine lv_istore (lv' := [(6, .int (0)), (5, .int (axpT (X 8 2) v0)), (0, .ref b), (1, .ref (ad 0)), (2, .ref m0), (3, .ref o), (4, .int (nI i))]) hx hb dL_law_687 hl (by decide) rfl (fun ls hl => ?_)
    refine lv_aload_n hx hb dL_law_689 rfl (lv_at hl 4 rfl) ?_
    refine cs_p (runV (As := []) (rest := []) ⟨hx, hb, hml, hown, hts⟩ (m_X6_thrown l D kA m0 m1 m2 m3 m4 m5 z h tx pt kp (nI w) (nI n0) (apT (nI n0) v0) (-1) rd nu du hs) q_810 q_811 q_812 q_7 q_813 hd_X6_thrown ⟨rfl, rfl⟩ ⟨Nat.le_of_ble_eq_true rfl, Nat.le_of_ble_eq_true rfl⟩ hK hP.l hD.lf 0 (ci := 6) (C := RX6) (T := TX6) (N := 13) rfl rfl rfl hl.1 rfl (Nat.le_of_ble_eq_true rfl) dL_law_690 ⟨hroom.1, hroom.2⟩) ?_
    refine lv_iload hx hb dL_law_693 (lv_at hl 1 rfl) ?_
    refine lv_icmp_eq (tgt := 700) hx hb dL_law_695 (by decide) (fun c9 => ?_) (fun c9 => absurd (eT.symm) c9)
    refine lv_iload hx hb dL_law_700 (lv_at hl 1 rfl) ?_
    refine lv_if_ne (tgt := 717) hx hb dL_law_702 (by decide) (fun c8 => ?_) (fun c8 => absurd c8 hT)
    refine lv_goto (tgt := 1677) hx hb dL_law_717 (by decide) ?_
    exact K _ _ _ _ _ _ _ _ _ _ _ _ _ _ _ _ _ _ (by exact rel_mono hR2 (by omega)) hP hD hS (lv_sub hl [2, 3, 4, 5, 6] rfl)

set_option maxRecDepth 100000 in
set_option maxHeartbeats 4000000 in
theorem k_run {p : Program} {l : Launch} {e : Env} {s : State} {m : MethodId} {below : List Frame} {meth : Method} {c : Code} {Q : State → Prop} {D : va_G} {kA ad : Nat → Nat} {m0 m1 m2 m3 m4 m5 o b L i N cells slots : Nat} {xs : Nat → Int32} (C0 : LC l p s m meth c D kA b L xs) {X : Nat → Nat → Int32} {z h tx pt kp : Nat → Int32} {w n0 r : Nat} {th rd nu du : Int32} {hs : Int64} {f : Nat → Int64} {H : Heap} {locs : List Loc} {ls : Array Slot} (hR2 : REL X z h tx w n0 r N) (hN : N + 1000 ≤ 600000) (hi : i + 4 ≤ L) (hL : L ≤ 2048) (hP : va_P D vwCl (LWd kA ad m0 m1 m2 m3 m4 m5 o X z h tx pt kp w n0 th rd nu du hs f) H) (hD : va_D (fun q => s.heap.size ≤ q) (LWd kA ad m0 m1 m2 m3 m4 m5 o X z h tx pt kp w n0 th rd nu du hs f)) (hS : va_S (fun q => s.heap.size ≤ q) s.heap H locs) (hl : lv_has ls 9 (lB ad b m0 o i)) (hroom : cells + 1 ≤ 601024 ∧ slots + 6 ≤ 7293034) (K : KT p l e s m below meth c Q D kA ad m0 m1 m2 m3 m4 m5 o b i (N + 1000) (cells + 1) (slots + 6)) : W p l e room_1 s m #[Value.ref b] below meth c H locs cells slots Q (F0 m 746 ls []) := by
  obtain ⟨hx, hb, hml, hown, hts, hK, hXb, hbl, hX0, hLW, hnt⟩ := C0
  obtain ⟨hXz, hI, hC, hw6, hr6, h80, h81, h82, hN3, hTB, hring⟩ := id hR2
  have hn60 := hTB.1
  have hl : lv_has ls 9 [(0, .ref b), (1, .ref (ad 0)), (2, .ref m0), (3, .ref o), (4, .int (nI i))] := hl
  have hP : va_P D vwCl (mL kA m0 m1 m2 m3 m4 m5 z h tx pt kp (nI w) (nI n0) th (-1) rd nu du hs ++ ([(o, oO kA f)] ++ cw kA ad X)) H := hP
  have hD : va_D (fun q => s.heap.size ≤ q) (mL kA m0 m1 m2 m3 m4 m5 z h tx pt kp (nI w) (nI n0) th (-1) rd nu du hs ++ ([(o, oO kA f)] ++ cw kA ad X)) := hD
  refine lv_aload_n hx hb dL_law_746 rfl (lv_at hl 1 rfl) ?_
  refine lv_aload_n hx hb dL_law_747 rfl (lv_at hl 3 rfl) ?_
  have hval : ipF X n0 = true → ∀ j, j ≤ n0 → codeN (X 9) n0 j = 59 → QV (Qs (X 9) n0 (ieF X n0).2 j) := fun q9 => run_val hR2 (if_pos q9)
  have hXH : XW (Aw (cw kA ad X)) s H := (hX0.kept hS.2.1).narrow (fun q9 h9 => aw_D hD.rt.rt q9 h9)
  refine cs_fk (wrunS (As := [.ref (ad 0), .ref o]) (rest := []) ⟨hx, hb, hml, hown, hts⟩ (w_run l D kA ad X r n0 o f h80 hr6 h82 hn60 hval hnt) q_647 q_648 q_0 q_649 hdw_run ⟨rfl, rfl⟩ ⟨Nat.le_of_ble_eq_true rfl, Nat.le_of_ble_eq_true rfl⟩ hK hP.r hD.rt hXH hLW rfl hl.1 rfl (Nat.le_of_ble_eq_true rfl) dL_law_748 ⟨hroom.1, hroom.2⟩) hS (aw_D hD.rt) (fun H locs hP1 hk1 hS => ?_)
  obtain ⟨hP, hD⟩ := jR hP hD hk1 hP1 lw_fst
  clear hP1 hk1 hXH
  refine lv_istore (lv' := [(5, .int (ruX X n0)), (0, .ref b), (1, .ref (ad 0)), (2, .ref m0), (3, .ref o), (4, .int (nI i))]) hx hb dL_law_751 hl (by decide) rfl (fun ls hl => ?_)
  refine lv_aload_n hx hb dL_law_753 rfl (lv_at hl 3 rfl) ?_
  have eT : (ruX X n0) = (ruT (nI n0) tx n0 pt) := ru_T hTB hN3 h82
  refine cs_fs (runV (As := []) (rest := []) ⟨hx, hb, hml, hown, hts⟩ (m_X6_run l D kA m0 m1 m2 m3 m4 m5 z h tx pt kp (nI w) (nI n0) th (-1) rd nu du hs w n0 rfl hw6 rfl hn60 hI rfl) q_980 q_981 q_982 q_7 q_983 hd_X6_run ⟨rfl, rfl⟩ ⟨Nat.le_of_ble_eq_true rfl, Nat.le_of_ble_eq_true rfl⟩ hK hP.l hD.lf 0 (ci := 6) (C := RX6) (T := TX6) (N := 13) rfl rfl rfl hl.1 rfl (Nat.le_of_ble_eq_true rfl) dL_law_754 ⟨hroom.1, hroom.2⟩) hS (aw_D hD.lf) (fun H locs hP1 hk1 hS => ?_)
  obtain ⟨hP, hD⟩ := jL hP hD hk1 hP1 rfl
  clear hP1 hk1
  by_cases hT : (ruX X n0) = 0
  · have hT2 : (ruT (nI n0) tx n0 pt) = 0 := eT.symm.trans hT
    have hP : va_P D vwCl ([(m0, .inr (6, [.ref m1, .int (nI (svN w)), .ref m2, .int (0), .ref m3, .int (ruT (nI n0) tx n0 pt), .int (-1), .ref m4, .int (nI ((rtL tx n0 0 (pt, 0, -1, 0)).2.2.1 + 1)), .int (-1), .int (0), .ref m5, .long hs])), (m1, .inl (kA 0, 148, .inl ((cyL (upd (rtL tx n0 0 (pt, 0, -1, 0)).2.1 (3 * (rtL tx n0 0 (pt, 0, -1, 0)).2.2.1 + 2) (rtL tx n0 0 (pt, 0, -1, 0)).2.2.2.1) ((rtL tx n0 0 (pt, 0, -1, 0)).2.2.1 + 1) 0 z).2))), (m2, .inl (kA 0, 888, .inl (svH h z w))), (m3, .inl (kA 0, 60, .inl tx)), (m4, .inl (kA 0, 72, .inl ((upd (rtL tx n0 0 (pt, 0, -1, 0)).2.1 (3 * (rtL tx n0 0 (pt, 0, -1, 0)).2.2.1 + 2) (rtL tx n0 0 (pt, 0, -1, 0)).2.2.2.1)))), (m5, .inl (kA 0, 148, .inl kp))] ++ ([(o, oO kA (vp_updL f 0 ((cbF (svX (upQ X (ieF X n0).2) r) n0).1 : Int32).toInt64))] ++ cw kA ad ((up3 (upQ (up2 (svX (upQ X (ieF X n0).2) r) 0 (cbF (svX (upQ X (ieF X n0).2) r) n0).2.1) (cbF (svX (upQ X (ieF X n0).2) r) n0).2.2) 8 2 0)))) H := Pcg (by simp only [if_pos hT, if_pos hT2]) hP
    have hD : va_D (fun q => s.heap.size ≤ q) ([(m0, .inr (6, [.ref m1, .int (nI (svN w)), .ref m2, .int (0), .ref m3, .int (ruT (nI n0) tx n0 pt), .int (-1), .ref m4, .int (nI ((rtL tx n0 0 (pt, 0, -1, 0)).2.2.1 + 1)), .int (-1), .int (0), .ref m5, .long hs])), (m1, .inl (kA 0, 148, .inl ((cyL (upd (rtL tx n0 0 (pt, 0, -1, 0)).2.1 (3 * (rtL tx n0 0 (pt, 0, -1, 0)).2.2.1 + 2) (rtL tx n0 0 (pt, 0, -1, 0)).2.2.2.1) ((rtL tx n0 0 (pt, 0, -1, 0)).2.2.1 + 1) 0 z).2))), (m2, .inl (kA 0, 888, .inl (svH h z w))), (m3, .inl (kA 0, 60, .inl tx)), (m4, .inl (kA 0, 72, .inl ((upd (rtL tx n0 0 (pt, 0, -1, 0)).2.1 (3 * (rtL tx n0 0 (pt, 0, -1, 0)).2.2.1 + 2) (rtL tx n0 0 (pt, 0, -1, 0)).2.2.2.1)))), (m5, .inl (kA 0, 148, .inl kp))] ++ ([(o, oO kA (vp_updL f 0 ((cbF (svX (upQ X (ieF X n0).2) r) n0).1 : Int32).toInt64))] ++ cw kA ad ((up3 (upQ (up2 (svX (upQ X (ieF X n0).2) r) 0 (cbF (svX (upQ X (ieF X n0).2) r) n0).2.1) (cbF (svX (upQ X (ieF X n0).2) r) n0).2.2) 8 2 0)))) := Dcg (by simp only [if_pos hT, if_pos hT2]) hD
    refine W_top (v' := .int (nI (cyL (upd (rtL tx n0 0 (pt, 0, -1, 0)).2.1 (3 * (rtL tx n0 0 (pt, 0, -1, 0)).2.2.1 + 2) (rtL tx n0 0 (pt, 0, -1, 0)).2.2.2.1) ((rtL tx n0 0 (pt, 0, -1, 0)).2.2.1 + 1) 0 z).1)) (congrArg Value.int (if_pos hT2)) ?_
    refine lv_istore (lv' := [(6, .int (nI (cyL (upd (rtL tx n0 0 (pt, 0, -1, 0)).2.1 (3 * (rtL tx n0 0 (pt, 0, -1, 0)).2.2.1 + 2) (rtL tx n0 0 (pt, 0, -1, 0)).2.2.2.1) ((rtL tx n0 0 (pt, 0, -1, 0)).2.2.1 + 1) 0 z).1)), (5, .int (ruX X n0)), (0, .ref b), (1, .ref (ad 0)), (2, .ref m0), (3, .ref o), (4, .int (nI i))]) hx hb dL_law_757 hl (by decide) rfl (fun ls hl => ?_)
    refine lv_aload_n hx hb dL_law_759 rfl (lv_at hl 4 rfl) ?_
    refine cs_p (runV (As := []) (rest := []) ⟨hx, hb, hml, hown, hts⟩ (m_X6_thrown l D kA m0 m1 m2 m3 m4 m5 ((cyL (upd (rtL tx n0 0 (pt, 0, -1, 0)).2.1 (3 * (rtL tx n0 0 (pt, 0, -1, 0)).2.2.1 + 2) (rtL tx n0 0 (pt, 0, -1, 0)).2.2.2.1) ((rtL tx n0 0 (pt, 0, -1, 0)).2.2.1 + 1) 0 z).2) (svH h z w) tx (upd (rtL tx n0 0 (pt, 0, -1, 0)).2.1 (3 * (rtL tx n0 0 (pt, 0, -1, 0)).2.2.1 + 2) (rtL tx n0 0 (pt, 0, -1, 0)).2.2.2.1) kp (nI (svN w)) 0 (ruT (nI n0) tx n0 pt) (-1) (nI ((rtL tx n0 0 (pt, 0, -1, 0)).2.2.1 + 1)) (-1) 0 hs) q_810 q_811 q_812 q_7 q_813 hd_X6_thrown ⟨rfl, rfl⟩ ⟨Nat.le_of_ble_eq_true rfl, Nat.le_of_ble_eq_true rfl⟩ hK hP.l hD.lf 0 (ci := 6) (C := RX6) (T := TX6) (N := 13) rfl rfl rfl hl.1 rfl (Nat.le_of_ble_eq_true rfl) dL_law_760 ⟨hroom.1, hroom.2⟩) ?_
    refine lv_iload hx hb dL_law_763 (lv_at hl 1 rfl) ?_
    refine lv_icmp_eq (tgt := 770) hx hb dL_law_765 (by decide) (fun c9 => ?_) (fun c9 => absurd (eT.symm) c9)
    refine lv_iload hx hb dL_law_770 (lv_at hl 1 rfl) ?_
    refine lv_if_ne (tgt := 787) hx hb dL_law_772 (by decide) (fun c8 => absurd hT c8) (fun c8 => ?_)
    refine lv_aload_n hx hb dL_law_775 rfl (lv_at hl 5 rfl) ?_
    refine lv_iconst (v := 0) hx hb dL_law_776 (by decide) ?_
    refine va_lald hx hb hK hP 6 3 rfl rfl (in_nI (j := 0) rfl (by omega) (by decide)) dL_law_777 ?_
    refine W_top (v' := .long ((cbF (svX (upQ X (ieF X n0).2) r) n0).1 : Int32).toInt64) rfl ?_
    refine lv_iload hx hb dL_law_778 (lv_at hl 0 rfl) ?_
    refine lv_i2l (v := (nI (cyL (upd (rtL tx n0 0 (pt, 0, -1, 0)).2.1 (3 * (rtL tx n0 0 (pt, 0, -1, 0)).2.2.1 + 2) (rtL tx n0 0 (pt, 0, -1, 0)).2.2.2.1) ((rtL tx n0 0 (pt, 0, -1, 0)).2.2.1 + 1) 0 z).1 : Int32).toInt64) hx hb dL_law_780 rfl ?_
    refine W.lcmp hx hb dL_law_781 ?_
    have eV : ((cbF (svX (upQ X (ieF X n0).2) r) n0).1 : Int32) = (nI (cyL (upd (rtL tx n0 0 (pt, 0, -1, 0)).2.1 (3 * (rtL tx n0 0 (pt, 0, -1, 0)).2.2.1 + 2) (rtL tx n0 0 (pt, 0, -1, 0)).2.2.2.1) ((rtL tx n0 0 (pt, 0, -1, 0)).2.2.1 + 1) 0 z).1) := (run_all (pt := pt) hR2 hT).1
    refine lv_if_eq (tgt := 787) hx hb dL_law_782 (by decide) (fun c7 => ?_) (fun c7 => absurd ((lg_cmp_eq _ _).mpr (congrArg Int32.toInt64 eV)) c7)
    refine lv_goto (tgt := 1677) hx hb dL_law_787 (by decide) ?_
    exact K _ _ _ _ _ _ _ 0 _ _ _ _ _ _ _ _ _ _ (by rw [(run_all (pt := pt) hR2 hT).2.1]; exact rel_len0 (rel_Q (rel_save (M := 1000) (rel_Q hR2 (ie_F (pt := pt) hTB hN3).2.1) (run_all (pt := pt) hR2 hT).2.2.1 (run_all (pt := pt) hR2 hT).2.2.2.1) (run_all (pt := pt) hR2 hT).2.2.2.2)) hP hD hS (lv_sub hl [2, 3, 4, 5, 6] rfl)
  · have hT2 : ¬ (ruT (nI n0) tx n0 pt) = 0 := fun q9 => hT (eT.trans q9)
    have hP : va_P D vwCl ([(m0, .inr (6, [.ref m1, .int (nI (w)), .ref m2, .int ((nI n0)), .ref m3, .int (ruT (nI n0) tx n0 pt), .int (-1), .ref m4, .int (nI ((rtL tx n0 0 (pt, 0, -1, 0)).2.2.1)), .int ((rtL tx n0 0 (pt, 0, -1, 0)).2.2.2.1), .int ((rtL tx n0 0 (pt, 0, -1, 0)).2.2.2.2), .ref m5, .long hs])), (m1, .inl (kA 0, 148, .inl (z))), (m2, .inl (kA 0, 888, .inl (h))), (m3, .inl (kA 0, 60, .inl tx)), (m4, .inl (kA 0, 72, .inl ((rtL tx n0 0 (pt, 0, -1, 0)).2.1))), (m5, .inl (kA 0, 148, .inl kp))] ++ ([(o, oO kA (f))] ++ cw kA ad ((upQ X (ieF X n0).2)))) H := Pcg (by simp only [if_neg hT, if_neg hT2]) hP
    have hD : va_D (fun q => s.heap.size ≤ q) ([(m0, .inr (6, [.ref m1, .int (nI (w)), .ref m2, .int ((nI n0)), .ref m3, .int (ruT (nI n0) tx n0 pt), .int (-1), .ref m4, .int (nI ((rtL tx n0 0 (pt, 0, -1, 0)).2.2.1)), .int ((rtL tx n0 0 (pt, 0, -1, 0)).2.2.2.1), .int ((rtL tx n0 0 (pt, 0, -1, 0)).2.2.2.2), .ref m5, .long hs])), (m1, .inl (kA 0, 148, .inl (z))), (m2, .inl (kA 0, 888, .inl (h))), (m3, .inl (kA 0, 60, .inl tx)), (m4, .inl (kA 0, 72, .inl ((rtL tx n0 0 (pt, 0, -1, 0)).2.1))), (m5, .inl (kA 0, 148, .inl kp))] ++ ([(o, oO kA (f))] ++ cw kA ad ((upQ X (ieF X n0).2)))) := Dcg (by simp only [if_neg hT, if_neg hT2]) hD
    refine W_top (v' := .int (0)) (congrArg Value.int (if_neg hT2)) ?_
    refine lv_istore (lv' := [(6, .int (0)), (5, .int (ruX X n0)), (0, .ref b), (1, .ref (ad 0)), (2, .ref m0), (3, .ref o), (4, .int (nI i))]) hx hb dL_law_757 hl (by decide) rfl (fun ls hl => ?_)
    refine lv_aload_n hx hb dL_law_759 rfl (lv_at hl 4 rfl) ?_
    refine cs_p (runV (As := []) (rest := []) ⟨hx, hb, hml, hown, hts⟩ (m_X6_thrown l D kA m0 m1 m2 m3 m4 m5 z h tx ((rtL tx n0 0 (pt, 0, -1, 0)).2.1) kp (nI (w)) (nI n0) (ruT (nI n0) tx n0 pt) (-1) (nI ((rtL tx n0 0 (pt, 0, -1, 0)).2.2.1)) ((rtL tx n0 0 (pt, 0, -1, 0)).2.2.2.1) ((rtL tx n0 0 (pt, 0, -1, 0)).2.2.2.2) hs) q_810 q_811 q_812 q_7 q_813 hd_X6_thrown ⟨rfl, rfl⟩ ⟨Nat.le_of_ble_eq_true rfl, Nat.le_of_ble_eq_true rfl⟩ hK hP.l hD.lf 0 (ci := 6) (C := RX6) (T := TX6) (N := 13) rfl rfl rfl hl.1 rfl (Nat.le_of_ble_eq_true rfl) dL_law_760 ⟨hroom.1, hroom.2⟩) ?_
    refine lv_iload hx hb dL_law_763 (lv_at hl 1 rfl) ?_
    refine lv_icmp_eq (tgt := 770) hx hb dL_law_765 (by decide) (fun c9 => ?_) (fun c9 => absurd (eT.symm) c9)
    refine lv_iload hx hb dL_law_770 (lv_at hl 1 rfl) ?_
    refine lv_if_ne (tgt := 787) hx hb dL_law_772 (by decide) (fun c8 => ?_) (fun c8 => absurd c8 hT)
    refine lv_goto (tgt := 1677) hx hb dL_law_787 (by decide) ?_
    exact K _ _ _ _ _ _ _ _ _ _ _ _ _ _ _ _ _ _ (by exact rel_mono (rel_Q hR2 (ie_F (pt := pt) hTB hN3).2.1) (by omega)) hP hD hS (lv_sub hl [2, 3, 4, 5, 6] rfl)

set_option maxRecDepth 100000 in
set_option maxHeartbeats 4000000 in
theorem k_undo {p : Program} {l : Launch} {e : Env} {s : State} {m : MethodId} {below : List Frame} {meth : Method} {c : Code} {Q : State → Prop} {D : va_G} {kA ad : Nat → Nat} {m0 m1 m2 m3 m4 m5 o b L i N cells slots : Nat} {xs : Nat → Int32} (C0 : LC l p s m meth c D kA b L xs) {X : Nat → Nat → Int32} {z h tx pt kp : Nat → Int32} {w n0 r : Nat} {th rd nu du : Int32} {hs : Int64} {f : Nat → Int64} {H : Heap} {locs : List Loc} {ls : Array Slot} (hR2 : REL X z h tx w n0 r N) (hN : N + 1000 ≤ 600000) (hi : i + 4 ≤ L) (hL : L ≤ 2048) (hP : va_P D vwCl (LWd kA ad m0 m1 m2 m3 m4 m5 o X z h tx pt kp w n0 th rd nu du hs f) H) (hD : va_D (fun q => s.heap.size ≤ q) (LWd kA ad m0 m1 m2 m3 m4 m5 o X z h tx pt kp w n0 th rd nu du hs f)) (hS : va_S (fun q => s.heap.size ≤ q) s.heap H locs) (hl : lv_has ls 9 (lB ad b m0 o i)) (hroom : cells + 1 ≤ 601024 ∧ slots + 6 ≤ 7293034) (K : KT p l e s m below meth c Q D kA ad m0 m1 m2 m3 m4 m5 o b i (N + 1000) (cells + 1) (slots + 6)) : W p l e room_1 s m #[Value.ref b] below meth c H locs cells slots Q (F0 m 790 ls []) := by
  obtain ⟨hx, hb, hml, hown, hts, hK, hXb, hbl, hX0, hLW, hnt⟩ := C0
  obtain ⟨hXz, hI, hC, hw6, hr6, h80, h81, h82, hN3, hTB, hring⟩ := id hR2
  have hn60 := hTB.1
  have hl : lv_has ls 9 [(0, .ref b), (1, .ref (ad 0)), (2, .ref m0), (3, .ref o), (4, .int (nI i))] := hl
  have hP : va_P D vwCl (mL kA m0 m1 m2 m3 m4 m5 z h tx pt kp (nI w) (nI n0) th (-1) rd nu du hs ++ ([(o, oO kA f)] ++ cw kA ad X)) H := hP
  have hD : va_D (fun q => s.heap.size ≤ q) (mL kA m0 m1 m2 m3 m4 m5 z h tx pt kp (nI w) (nI n0) th (-1) rd nu du hs ++ ([(o, oO kA f)] ++ cw kA ad X)) := hD
  refine lv_aload_n hx hb dL_law_790 rfl (lv_at hl 1 rfl) ?_
  refine lv_aload_n hx hb dL_law_791 rfl (lv_at hl 3 rfl) ?_
  have hXH : XW (Aw (cw kA ad X)) s H := (hX0.kept hS.2.1).narrow (fun q9 h9 => aw_D hD.rt.rt q9 h9)
  refine cs_fk (wrunS (As := [.ref (ad 0), .ref o]) (rest := []) ⟨hx, hb, hml, hown, hts⟩ (w_undo l D kA ad X r o f h80 hr6 hnt) q_671 q_672 q_0 q_673 hdw_undo ⟨rfl, rfl⟩ ⟨Nat.le_of_ble_eq_true rfl, Nat.le_of_ble_eq_true rfl⟩ hK hP.r hD.rt hXH hLW rfl hl.1 rfl (Nat.le_of_ble_eq_true rfl) dL_law_792 ⟨hroom.1, hroom.2⟩) hS (aw_D hD.rt) (fun H locs hP1 hk1 hS => ?_)
  obtain ⟨hP, hD⟩ := jR hP hD hk1 hP1 lw_fst
  clear hP1 hk1 hXH
  refine lv_istore (lv' := [(5, .int (unT (X 8 1))), (0, .ref b), (1, .ref (ad 0)), (2, .ref m0), (3, .ref o), (4, .int (nI i))]) hx hb dL_law_795 hl (by decide) rfl (fun ls hl => ?_)
  refine lv_aload_n hx hb dL_law_797 rfl (lv_at hl 3 rfl) ?_
  have eT : (unT (X 8 1)) = (if 0 < (nI w) then (0 : Int32) else 1) := by rw [h81]; exact un_T hw6
  refine cs_fs (runV (As := []) (rest := []) ⟨hx, hb, hml, hown, hts⟩ (m_X6_undo l D kA m0 m1 m2 m3 m4 m5 z h tx pt kp (nI w) (nI n0) th (-1) rd nu du hs w rfl hw6) q_988 q_989 q_990 q_7 q_991 hd_X6_undo ⟨rfl, rfl⟩ ⟨Nat.le_of_ble_eq_true rfl, Nat.le_of_ble_eq_true rfl⟩ hK hP.l hD.lf 0 (ci := 6) (C := RX6) (T := TX6) (N := 13) rfl rfl rfl hl.1 rfl (Nat.le_of_ble_eq_true rfl) dL_law_798 ⟨hroom.1, hroom.2⟩) hS (aw_D hD.lf) (fun H locs hP1 hk1 hS => ?_)
  obtain ⟨hP, hD⟩ := jL hP hD hk1 hP1 rfl
  clear hP1 hk1
  by_cases hT : (unT (X 8 1)) = 0
  · have hT2 : (if 0 < (nI w) then (0 : Int32) else 1) = 0 := eT.symm.trans hT
    have hCd : 0 < (nI w) := Classical.byContradiction fun q9 => by rw [if_neg q9] at hT2; exact absurd hT2 (by decide)
    have hP : va_P D vwCl ([(m0, .inr (6, [.ref m1, .int (nI (w - 1)), .ref m2, .int (nI n0), .ref m3, .int (0), .int (-1), .ref m4, .int rd, .int nu, .int du, .ref m5, .long hs])), (m1, .inl (kA 0, 148, .inl (unL z h (w - 1) 148))), (m2, .inl (kA 0, 888, .inl h)), (m3, .inl (kA 0, 60, .inl tx)), (m4, .inl (kA 0, 72, .inl pt)), (m5, .inl (kA 0, 148, .inl kp))] ++ ([(o, oO kA (vp_updL f 0 (((rsX X r) 8) 1 : Int32).toInt64))] ++ cw kA ad ((rsX X r)))) H := Pcg (by simp only [if_pos hT, if_pos hCd]) hP
    have hD : va_D (fun q => s.heap.size ≤ q) ([(m0, .inr (6, [.ref m1, .int (nI (w - 1)), .ref m2, .int (nI n0), .ref m3, .int (0), .int (-1), .ref m4, .int rd, .int nu, .int du, .ref m5, .long hs])), (m1, .inl (kA 0, 148, .inl (unL z h (w - 1) 148))), (m2, .inl (kA 0, 888, .inl h)), (m3, .inl (kA 0, 60, .inl tx)), (m4, .inl (kA 0, 72, .inl pt)), (m5, .inl (kA 0, 148, .inl kp))] ++ ([(o, oO kA (vp_updL f 0 (((rsX X r) 8) 1 : Int32).toInt64))] ++ cw kA ad ((rsX X r)))) := Dcg (by simp only [if_pos hT, if_pos hCd]) hD
    refine W_top (v' := .int ((nI w) - 1)) (congrArg Value.int (if_pos hCd)) ?_
    refine lv_istore (lv' := [(6, .int ((nI w) - 1)), (5, .int (unT (X 8 1))), (0, .ref b), (1, .ref (ad 0)), (2, .ref m0), (3, .ref o), (4, .int (nI i))]) hx hb dL_law_801 hl (by decide) rfl (fun ls hl => ?_)
    refine lv_aload_n hx hb dL_law_803 rfl (lv_at hl 4 rfl) ?_
    refine cs_p (runV (As := []) (rest := []) ⟨hx, hb, hml, hown, hts⟩ (m_X6_thrown l D kA m0 m1 m2 m3 m4 m5 (unL z h (w - 1) 148) h tx pt kp (nI (w - 1)) (nI n0) 0 (-1) rd nu du hs) q_810 q_811 q_812 q_7 q_813 hd_X6_thrown ⟨rfl, rfl⟩ ⟨Nat.le_of_ble_eq_true rfl, Nat.le_of_ble_eq_true rfl⟩ hK hP.l hD.lf 0 (ci := 6) (C := RX6) (T := TX6) (N := 13) rfl rfl rfl hl.1 rfl (Nat.le_of_ble_eq_true rfl) dL_law_804 ⟨hroom.1, hroom.2⟩) ?_
    refine lv_iload hx hb dL_law_807 (lv_at hl 1 rfl) ?_
    refine lv_icmp_eq (tgt := 814) hx hb dL_law_809 (by decide) (fun c9 => ?_) (fun c9 => absurd (hT.symm) c9)
    refine lv_iload hx hb dL_law_814 (lv_at hl 1 rfl) ?_
    refine lv_if_ne (tgt := 831) hx hb dL_law_816 (by decide) (fun c8 => absurd hT c8) (fun c8 => ?_)
    refine lv_aload_n hx hb dL_law_819 rfl (lv_at hl 5 rfl) ?_
    refine lv_iconst (v := 0) hx hb dL_law_820 (by decide) ?_
    refine va_lald hx hb hK hP 6 3 rfl rfl (in_nI (j := 0) rfl (by omega) (by decide)) dL_law_821 ?_
    refine W_top (v' := .long (((rsX X r) 8) 1 : Int32).toInt64) rfl ?_
    refine lv_iload hx hb dL_law_822 (lv_at hl 0 rfl) ?_
    refine lv_i2l (v := ((nI w) - 1 : Int32).toInt64) hx hb dL_law_824 rfl ?_
    refine W.lcmp hx hb dL_law_825 ?_
    have eV : (((rsX X r) 8) 1 : Int32) = ((nI w) - 1) := by show rsX X r 8 1 = _; unfold rsX; rw [up3_s, h81]; exact un_V hw6 hCd
    refine lv_if_eq (tgt := 831) hx hb dL_law_826 (by decide) (fun c7 => ?_) (fun c7 => absurd ((lg_cmp_eq _ _).mpr (congrArg Int32.toInt64 eV)) c7)
    refine lv_goto (tgt := 1677) hx hb dL_law_831 (by decide) ?_
    have hun := rel_undo hR2 (un_w hw6 hCd)
    rw [← cw_norm (kA := kA) (ad := ad) hun.1] at hP hD
    exact K _ _ _ _ _ _ _ _ _ _ _ _ _ _ _ _ _ _ (by exact rel_mono hun.2 (by omega)) hP hD hS (lv_sub hl [2, 3, 4, 5, 6] rfl)
  · have hT2 : ¬ (if 0 < (nI w) then (0 : Int32) else 1) = 0 := fun q9 => hT (eT.trans q9)
    have hCd : ¬ 0 < (nI w) := fun q9 => hT2 (if_pos q9)
    have hP : va_P D vwCl ([(m0, .inr (6, [.ref m1, .int (nI (w)), .ref m2, .int (nI n0), .ref m3, .int (1), .int (-1), .ref m4, .int rd, .int nu, .int du, .ref m5, .long hs])), (m1, .inl (kA 0, 148, .inl (z))), (m2, .inl (kA 0, 888, .inl h)), (m3, .inl (kA 0, 60, .inl tx)), (m4, .inl (kA 0, 72, .inl pt)), (m5, .inl (kA 0, 148, .inl kp))] ++ ([(o, oO kA (f))] ++ cw kA ad (X))) H := Pcg (by simp only [if_neg hT, if_neg hCd]) hP
    have hD : va_D (fun q => s.heap.size ≤ q) ([(m0, .inr (6, [.ref m1, .int (nI (w)), .ref m2, .int (nI n0), .ref m3, .int (1), .int (-1), .ref m4, .int rd, .int nu, .int du, .ref m5, .long hs])), (m1, .inl (kA 0, 148, .inl (z))), (m2, .inl (kA 0, 888, .inl h)), (m3, .inl (kA 0, 60, .inl tx)), (m4, .inl (kA 0, 72, .inl pt)), (m5, .inl (kA 0, 148, .inl kp))] ++ ([(o, oO kA (f))] ++ cw kA ad (X))) := Dcg (by simp only [if_neg hT, if_neg hCd]) hD
    refine W_top (v' := .int (0)) (congrArg Value.int (if_neg hCd)) ?_
    refine lv_istore (lv' := [(6, .int (0)), (5, .int (unT (X 8 1))), (0, .ref b), (1, .ref (ad 0)), (2, .ref m0), (3, .ref o), (4, .int (nI i))]) hx hb dL_law_801 hl (by decide) rfl (fun ls hl => ?_)
    refine lv_aload_n hx hb dL_law_803 rfl (lv_at hl 4 rfl) ?_
    refine cs_p (runV (As := []) (rest := []) ⟨hx, hb, hml, hown, hts⟩ (m_X6_thrown l D kA m0 m1 m2 m3 m4 m5 z h tx pt kp (nI (w)) (nI n0) 1 (-1) rd nu du hs) q_810 q_811 q_812 q_7 q_813 hd_X6_thrown ⟨rfl, rfl⟩ ⟨Nat.le_of_ble_eq_true rfl, Nat.le_of_ble_eq_true rfl⟩ hK hP.l hD.lf 0 (ci := 6) (C := RX6) (T := TX6) (N := 13) rfl rfl rfl hl.1 rfl (Nat.le_of_ble_eq_true rfl) dL_law_804 ⟨hroom.1, hroom.2⟩) ?_
    refine lv_iload hx hb dL_law_807 (lv_at hl 1 rfl) ?_
    refine lv_icmp_eq (tgt := 814) hx hb dL_law_809 (by decide) (fun c9 => ?_) (fun c9 => absurd ((eT.trans (if_neg hCd)).symm) c9)
    refine lv_iload hx hb dL_law_814 (lv_at hl 1 rfl) ?_
    refine lv_if_ne (tgt := 831) hx hb dL_law_816 (by decide) (fun c8 => ?_) (fun c8 => absurd c8 hT)
    refine lv_goto (tgt := 1677) hx hb dL_law_831 (by decide) ?_
    exact K _ _ _ _ _ _ _ _ _ _ _ _ _ _ _ _ _ _ (by exact rel_mono hR2 (by omega)) hP hD hS (lv_sub hl [2, 3, 4, 5, 6] rfl)

set_option maxRecDepth 100000 in
set_option maxHeartbeats 4000000 in
theorem k_axis {p : Program} {l : Launch} {e : Env} {s : State} {m : MethodId} {below : List Frame} {meth : Method} {c : Code} {Q : State → Prop} {D : va_G} {kA ad : Nat → Nat} {m0 m1 m2 m3 m4 m5 o b L i N cells slots : Nat} {xs : Nat → Int32} (C0 : LC l p s m meth c D kA b L xs) {X : Nat → Nat → Int32} {z h tx pt kp : Nat → Int32} {w n0 r : Nat} {th rd nu du : Int32} {hs : Int64} {f : Nat → Int64} {H : Heap} {locs : List Loc} {ls : Array Slot} (hR2 : REL X z h tx w n0 r N) (hN : N + 1000 ≤ 600000) (hi : i + 4 ≤ L) (hL : L ≤ 2048) (hP : va_P D vwCl (LWd kA ad m0 m1 m2 m3 m4 m5 o X z h tx pt kp w n0 th rd nu du hs f) H) (hD : va_D (fun q => s.heap.size ≤ q) (LWd kA ad m0 m1 m2 m3 m4 m5 o X z h tx pt kp w n0 th rd nu du hs f)) (hS : va_S (fun q => s.heap.size ≤ q) s.heap H locs) (hl : lv_has ls 9 (lB ad b m0 o i)) (hroom : cells + 1 ≤ 601024 ∧ slots + 6 ≤ 7293034) (K : KT p l e s m below meth c Q D kA ad m0 m1 m2 m3 m4 m5 o b i (N + 1000) (cells + 1) (slots + 6)) : W p l e room_1 s m #[Value.ref b] below meth c H locs cells slots Q (F0 m 834 ls []) := by
  obtain ⟨hx, hb, hml, hown, hts, hK, hXb, hbl, hX0, hLW, hnt⟩ := C0
  obtain ⟨hXz, hI, hC, hw6, hr6, h80, h81, h82, hN3, hTB, hring⟩ := id hR2
  have hn60 := hTB.1
  have hl : lv_has ls 9 [(0, .ref b), (1, .ref (ad 0)), (2, .ref m0), (3, .ref o), (4, .int (nI i))] := hl
  have hP : va_P D vwCl (mL kA m0 m1 m2 m3 m4 m5 z h tx pt kp (nI w) (nI n0) th (-1) rd nu du hs ++ ([(o, oO kA f)] ++ cw kA ad X)) H := hP
  have hD : va_D (fun q => s.heap.size ≤ q) (mL kA m0 m1 m2 m3 m4 m5 z h tx pt kp (nI w) (nI n0) th (-1) rd nu du hs ++ ([(o, oO kA f)] ++ cw kA ad X)) := hD
  obtain ⟨v0, hv0⟩ : ∃ y, xs (nI (i + 1)).toNatClampNeg = y := ⟨_, rfl⟩
  obtain ⟨v1, hv1⟩ : ∃ y, xs (nI (i + 2)).toNatClampNeg = y := ⟨_, rfl⟩
  refine lv_aload_n hx hb dL_law_834 rfl (lv_at hl 1 rfl) ?_
  refine lv_aload_n hx hb dL_law_835 rfl (lv_at hl 0 rfl) ?_
  refine lv_iload hx hb dL_law_836 (lv_at hl 4 rfl) ?_
  refine lv_iconst (v := 1) hx hb dL_law_838 (by decide) ?_
  refine lv_iadd hx hb dL_law_839 ?_
  refine W_top (v' := .int (nI (i + 1))) (congrArg Value.int (nI_add i 1)) ?_
  refine va_sld hx hb hXb hbl (Nat.not_le.mpr hbl) hS (in_nI (j := i + 1) rfl (by omega) (by omega)) dL_law_840 ?_
  refine W_top (v' := .int v0) (congrArg Value.int hv0) ?_
  refine lv_aload_n hx hb dL_law_841 rfl (lv_at hl 0 rfl) ?_
  refine lv_iload hx hb dL_law_842 (lv_at hl 4 rfl) ?_
  refine lv_iconst (v := 2) hx hb dL_law_844 (by decide) ?_
  refine lv_iadd hx hb dL_law_845 ?_
  refine W_top (v' := .int (nI (i + 2))) (congrArg Value.int (nI_add i 2)) ?_
  refine va_sld hx hb hXb hbl (Nat.not_le.mpr hbl) hS (in_nI (j := i + 2) rfl (by omega) (by omega)) dL_law_846 ?_
  refine W_top (v' := .int v1) (congrArg Value.int hv1) ?_
  refine lv_aload_n hx hb dL_law_847 rfl (lv_at hl 3 rfl) ?_
  have hXH : XW (Aw (cw kA ad X)) s H := (hX0.kept hS.2.1).narrow (fun q9 h9 => aw_D hD.rt.rt q9 h9)
  refine cs_fk (wrunS (As := [.ref (ad 0), .int v0, .int v1, .ref o]) (rest := []) ⟨hx, hb, hml, hown, hts⟩ (w_axis l D kA ad X v0 v1 o f  hnt) q_684 q_685 q_0 q_686 hdw_axis ⟨rfl, rfl⟩ ⟨Nat.le_of_ble_eq_true rfl, Nat.le_of_ble_eq_true rfl⟩ hK hP.r hD.rt hXH hLW rfl hl.1 rfl (Nat.le_of_ble_eq_true rfl) dL_law_848 ⟨hroom.1, hroom.2⟩) hS (aw_D hD.rt) (fun H locs hP1 hk1 hS => ?_)
  obtain ⟨hP, hD⟩ := jR hP hD hk1 hP1 lw_fst
  clear hP1 hk1 hXH
  refine lv_istore (lv' := [(5, .int (apxT v0 v1)), (0, .ref b), (1, .ref (ad 0)), (2, .ref m0), (3, .ref o), (4, .int (nI i))]) hx hb dL_law_851 hl (by decide) rfl (fun ls hl => ?_)
  refine lv_aload_n hx hb dL_law_853 rfl (lv_at hl 3 rfl) ?_
  refine lv_aload_n hx hb dL_law_854 rfl (lv_at hl 1 rfl) ?_
  refine lv_iload hx hb dL_law_855 (lv_at hl 5 rfl) ?_
  refine lv_iconst (v := 1) hx hb dL_law_857 (by decide) ?_
  refine lv_iadd hx hb dL_law_858 ?_
  refine W_top (v' := .int (nI (i + 1))) (congrArg Value.int (nI_add i 1)) ?_
  refine va_sld hx hb hXb hbl (Nat.not_le.mpr hbl) hS (in_nI (j := i + 1) rfl (by omega) (by omega)) dL_law_859 ?_
  refine W_top (v' := .int v0) (congrArg Value.int hv0) ?_
  refine lv_aload_n hx hb dL_law_860 rfl (lv_at hl 1 rfl) ?_
  refine lv_iload hx hb dL_law_861 (lv_at hl 5 rfl) ?_
  refine lv_iconst (v := 2) hx hb dL_law_863 (by decide) ?_
  refine lv_iadd hx hb dL_law_864 ?_
  refine W_top (v' := .int (nI (i + 2))) (congrArg Value.int (nI_add i 2)) ?_
  refine va_sld hx hb hXb hbl (Nat.not_le.mpr hbl) hS (in_nI (j := i + 2) rfl (by omega) (by omega)) dL_law_865 ?_
  refine W_top (v' := .int v1) (congrArg Value.int hv1) ?_
  have eT : (apxT v0 v1) = (apxT v0 v1) := rfl
  refine cs_fs (runV (As := [.int v0, .int v1]) (rest := []) ⟨hx, hb, hml, hown, hts⟩ (m_X6_axis l D kA m0 m1 m2 m3 m4 m5 z h tx pt kp (nI w) (nI n0) th (-1) rd nu du hs v0 v1 hI) q_992 q_993 q_994 q_7 q_995 hd_X6_axis ⟨rfl, rfl⟩ ⟨Nat.le_of_ble_eq_true rfl, Nat.le_of_ble_eq_true rfl⟩ hK hP.l hD.lf 0 (ci := 6) (C := RX6) (T := TX6) (N := 13) rfl rfl rfl hl.1 rfl (Nat.le_of_ble_eq_true rfl) dL_law_866 ⟨hroom.1, hroom.2⟩) hS (aw_D hD.lf) (fun H locs hP1 hk1 hS => ?_)
  obtain ⟨hP, hD⟩ := jL hP hD hk1 hP1 rfl
  clear hP1 hk1
  by_cases hT : (apxT v0 v1) = 0
  · have hT2 : (apxT v0 v1) = 0 := eT.symm.trans hT
    have hP : va_P D vwCl ([(m0, .inr (6, [.ref m1, .int (nI w), .ref m2, .int (nI n0), .ref m3, .int (apxT v0 v1), .int (-1), .ref m4, .int rd, .int nu, .int du, .ref m5, .long hs])), (m1, .inl (kA 0, 148, .inl z)), (m2, .inl (kA 0, 888, .inl h)), (m3, .inl (kA 0, 60, .inl tx)), (m4, .inl (kA 0, 72, .inl pt)), (m5, .inl (kA 0, 148, .inl kp))] ++ ([(o, oO kA (vp_updL f 0 (propG (sl ((X 0)) v0.toNatClampNeg) v1 : Int32).toInt64))] ++ cw kA ad X)) H := Pcg (by simp only [if_pos hT, if_pos hT2]) hP
    have hD : va_D (fun q => s.heap.size ≤ q) ([(m0, .inr (6, [.ref m1, .int (nI w), .ref m2, .int (nI n0), .ref m3, .int (apxT v0 v1), .int (-1), .ref m4, .int rd, .int nu, .int du, .ref m5, .long hs])), (m1, .inl (kA 0, 148, .inl z)), (m2, .inl (kA 0, 888, .inl h)), (m3, .inl (kA 0, 60, .inl tx)), (m4, .inl (kA 0, 72, .inl pt)), (m5, .inl (kA 0, 148, .inl kp))] ++ ([(o, oO kA (vp_updL f 0 (propG (sl ((X 0)) v0.toNatClampNeg) v1 : Int32).toInt64))] ++ cw kA ad X)) := Dcg (by simp only [if_pos hT, if_pos hT2]) hD
    refine W_top (v' := .int (propG (sl z v0.toNatClampNeg) v1)) (congrArg Value.int (if_pos hT2)) ?_
    refine lv_istore (lv' := [(6, .int (propG (sl z v0.toNatClampNeg) v1)), (5, .int (apxT v0 v1)), (0, .ref b), (1, .ref (ad 0)), (2, .ref m0), (3, .ref o), (4, .int (nI i))]) hx hb dL_law_869 hl (by decide) rfl (fun ls hl => ?_)
    refine lv_aload_n hx hb dL_law_871 rfl (lv_at hl 4 rfl) ?_
    refine cs_p (runV (As := []) (rest := []) ⟨hx, hb, hml, hown, hts⟩ (m_X6_thrown l D kA m0 m1 m2 m3 m4 m5 z h tx pt kp (nI w) (nI n0) (apxT v0 v1) (-1) rd nu du hs) q_810 q_811 q_812 q_7 q_813 hd_X6_thrown ⟨rfl, rfl⟩ ⟨Nat.le_of_ble_eq_true rfl, Nat.le_of_ble_eq_true rfl⟩ hK hP.l hD.lf 0 (ci := 6) (C := RX6) (T := TX6) (N := 13) rfl rfl rfl hl.1 rfl (Nat.le_of_ble_eq_true rfl) dL_law_872 ⟨hroom.1, hroom.2⟩) ?_
    refine lv_iload hx hb dL_law_875 (lv_at hl 1 rfl) ?_
    refine lv_icmp_eq (tgt := 882) hx hb dL_law_877 (by decide) (fun c9 => ?_) (fun c9 => absurd (eT.symm) c9)
    refine lv_iload hx hb dL_law_882 (lv_at hl 1 rfl) ?_
    refine lv_if_ne (tgt := 899) hx hb dL_law_884 (by decide) (fun c8 => absurd hT c8) (fun c8 => ?_)
    refine lv_aload_n hx hb dL_law_887 rfl (lv_at hl 5 rfl) ?_
    refine lv_iconst (v := 0) hx hb dL_law_888 (by decide) ?_
    refine va_lald hx hb hK hP 6 3 rfl rfl (in_nI (j := 0) rfl (by omega) (by decide)) dL_law_889 ?_
    refine W_top (v' := .long (propG (sl ((X 0)) v0.toNatClampNeg) v1 : Int32).toInt64) rfl ?_
    refine lv_iload hx hb dL_law_890 (lv_at hl 0 rfl) ?_
    refine lv_i2l (v := (propG (sl z v0.toNatClampNeg) v1 : Int32).toInt64) hx hb dL_law_892 rfl ?_
    refine W.lcmp hx hb dL_law_893 ?_
    have eV : (propG (sl ((X 0)) v0.toNatClampNeg) v1 : Int32) = (propG (sl z v0.toNatClampNeg) v1) := by rw [hXz]
    refine lv_if_eq (tgt := 899) hx hb dL_law_894 (by decide) (fun c7 => ?_) (fun c7 => absurd ((lg_cmp_eq _ _).mpr (congrArg Int32.toInt64 eV)) c7)
    refine lv_goto (tgt := 1677) hx hb dL_law_899 (by decide) ?_
    exact K _ _ _ _ _ _ _ _ _ _ _ _ _ _ _ _ _ _ (by exact rel_mono hR2 (by omega)) hP hD hS (lv_sub hl [2, 3, 4, 5, 6] rfl)
  · have hT2 : ¬ (apxT v0 v1) = 0 := fun q9 => hT (eT.trans q9)
    have hP : va_P D vwCl ([(m0, .inr (6, [.ref m1, .int (nI w), .ref m2, .int (nI n0), .ref m3, .int (apxT v0 v1), .int (-1), .ref m4, .int rd, .int nu, .int du, .ref m5, .long hs])), (m1, .inl (kA 0, 148, .inl z)), (m2, .inl (kA 0, 888, .inl h)), (m3, .inl (kA 0, 60, .inl tx)), (m4, .inl (kA 0, 72, .inl pt)), (m5, .inl (kA 0, 148, .inl kp))] ++ ([(o, oO kA (f))] ++ cw kA ad X)) H := Pcg (by simp only [if_neg hT, if_neg hT2]) hP
    have hD : va_D (fun q => s.heap.size ≤ q) ([(m0, .inr (6, [.ref m1, .int (nI w), .ref m2, .int (nI n0), .ref m3, .int (apxT v0 v1), .int (-1), .ref m4, .int rd, .int nu, .int du, .ref m5, .long hs])), (m1, .inl (kA 0, 148, .inl z)), (m2, .inl (kA 0, 888, .inl h)), (m3, .inl (kA 0, 60, .inl tx)), (m4, .inl (kA 0, 72, .inl pt)), (m5, .inl (kA 0, 148, .inl kp))] ++ ([(o, oO kA (f))] ++ cw kA ad X)) := Dcg (by simp only [if_neg hT, if_neg hT2]) hD
    refine W_top (v' := .int (0)) (congrArg Value.int (if_neg hT2)) ?_
    refine lv_istore (lv' := [(6, .int (0)), (5, .int (apxT v0 v1)), (0, .ref b), (1, .ref (ad 0)), (2, .ref m0), (3, .ref o), (4, .int (nI i))]) hx hb dL_law_869 hl (by decide) rfl (fun ls hl => ?_)
    refine lv_aload_n hx hb dL_law_871 rfl (lv_at hl 4 rfl) ?_
    refine cs_p (runV (As := []) (rest := []) ⟨hx, hb, hml, hown, hts⟩ (m_X6_thrown l D kA m0 m1 m2 m3 m4 m5 z h tx pt kp (nI w) (nI n0) (apxT v0 v1) (-1) rd nu du hs) q_810 q_811 q_812 q_7 q_813 hd_X6_thrown ⟨rfl, rfl⟩ ⟨Nat.le_of_ble_eq_true rfl, Nat.le_of_ble_eq_true rfl⟩ hK hP.l hD.lf 0 (ci := 6) (C := RX6) (T := TX6) (N := 13) rfl rfl rfl hl.1 rfl (Nat.le_of_ble_eq_true rfl) dL_law_872 ⟨hroom.1, hroom.2⟩) ?_
    refine lv_iload hx hb dL_law_875 (lv_at hl 1 rfl) ?_
    refine lv_icmp_eq (tgt := 882) hx hb dL_law_877 (by decide) (fun c9 => ?_) (fun c9 => absurd (eT.symm) c9)
    refine lv_iload hx hb dL_law_882 (lv_at hl 1 rfl) ?_
    refine lv_if_ne (tgt := 899) hx hb dL_law_884 (by decide) (fun c8 => ?_) (fun c8 => absurd c8 hT)
    refine lv_goto (tgt := 1677) hx hb dL_law_899 (by decide) ?_
    exact K _ _ _ _ _ _ _ _ _ _ _ _ _ _ _ _ _ _ (by exact rel_mono hR2 (by omega)) hP hD hS (lv_sub hl [2, 3, 4, 5, 6] rfl)

set_option maxRecDepth 100000 in
set_option maxHeartbeats 4000000 in
theorem k_wear {p : Program} {l : Launch} {e : Env} {s : State} {m : MethodId} {below : List Frame} {meth : Method} {c : Code} {Q : State → Prop} {D : va_G} {kA ad : Nat → Nat} {m0 m1 m2 m3 m4 m5 o b L i N cells slots : Nat} {xs : Nat → Int32} (C0 : LC l p s m meth c D kA b L xs) {X : Nat → Nat → Int32} {z h tx pt kp : Nat → Int32} {w n0 r : Nat} {th rd nu du : Int32} {hs : Int64} {f : Nat → Int64} {H : Heap} {locs : List Loc} {ls : Array Slot} (hR2 : REL X z h tx w n0 r N) (hN : N + 1000 ≤ 600000) (hi : i + 4 ≤ L) (hL : L ≤ 2048) (hP : va_P D vwCl (LWd kA ad m0 m1 m2 m3 m4 m5 o X z h tx pt kp w n0 th rd nu du hs f) H) (hD : va_D (fun q => s.heap.size ≤ q) (LWd kA ad m0 m1 m2 m3 m4 m5 o X z h tx pt kp w n0 th rd nu du hs f)) (hS : va_S (fun q => s.heap.size ≤ q) s.heap H locs) (hl : lv_has ls 9 (lB ad b m0 o i)) (hroom : cells + 1 ≤ 601024 ∧ slots + 6 ≤ 7293034) (K : KT p l e s m below meth c Q D kA ad m0 m1 m2 m3 m4 m5 o b i (N + 1000) (cells + 1) (slots + 6)) : W p l e room_1 s m #[Value.ref b] below meth c H locs cells slots Q (F0 m 902 ls []) := by
  obtain ⟨hx, hb, hml, hown, hts, hK, hXb, hbl, hX0, hLW, hnt⟩ := C0
  obtain ⟨hXz, hI, hC, hw6, hr6, h80, h81, h82, hN3, hTB, hring⟩ := id hR2
  have hn60 := hTB.1
  have hl : lv_has ls 9 [(0, .ref b), (1, .ref (ad 0)), (2, .ref m0), (3, .ref o), (4, .int (nI i))] := hl
  have hP : va_P D vwCl (mL kA m0 m1 m2 m3 m4 m5 z h tx pt kp (nI w) (nI n0) th (-1) rd nu du hs ++ ([(o, oO kA f)] ++ cw kA ad X)) H := hP
  have hD : va_D (fun q => s.heap.size ≤ q) (mL kA m0 m1 m2 m3 m4 m5 z h tx pt kp (nI w) (nI n0) th (-1) rd nu du hs ++ ([(o, oO kA f)] ++ cw kA ad X)) := hD
  obtain ⟨v0, hv0⟩ : ∃ y, xs (nI (i + 1)).toNatClampNeg = y := ⟨_, rfl⟩
  obtain ⟨v1, hv1⟩ : ∃ y, xs (nI (i + 2)).toNatClampNeg = y := ⟨_, rfl⟩
  refine lv_aload_n hx hb dL_law_902 rfl (lv_at hl 1 rfl) ?_
  refine lv_aload_n hx hb dL_law_903 rfl (lv_at hl 0 rfl) ?_
  refine lv_iload hx hb dL_law_904 (lv_at hl 4 rfl) ?_
  refine lv_iconst (v := 1) hx hb dL_law_906 (by decide) ?_
  refine lv_iadd hx hb dL_law_907 ?_
  refine W_top (v' := .int (nI (i + 1))) (congrArg Value.int (nI_add i 1)) ?_
  refine va_sld hx hb hXb hbl (Nat.not_le.mpr hbl) hS (in_nI (j := i + 1) rfl (by omega) (by omega)) dL_law_908 ?_
  refine W_top (v' := .int v0) (congrArg Value.int hv0) ?_
  refine lv_aload_n hx hb dL_law_909 rfl (lv_at hl 0 rfl) ?_
  refine lv_iload hx hb dL_law_910 (lv_at hl 4 rfl) ?_
  refine lv_iconst (v := 2) hx hb dL_law_912 (by decide) ?_
  refine lv_iadd hx hb dL_law_913 ?_
  refine W_top (v' := .int (nI (i + 2))) (congrArg Value.int (nI_add i 2)) ?_
  refine va_sld hx hb hXb hbl (Nat.not_le.mpr hbl) hS (in_nI (j := i + 2) rfl (by omega) (by omega)) dL_law_914 ?_
  refine W_top (v' := .int v1) (congrArg Value.int hv1) ?_
  refine lv_aload_n hx hb dL_law_915 rfl (lv_at hl 3 rfl) ?_
  have hXH : XW (Aw (cw kA ad X)) s H := (hX0.kept hS.2.1).narrow (fun q9 h9 => aw_D hD.rt.rt q9 h9)
  refine cs_fk (wrunS (As := [.ref (ad 0), .int v0, .int v1, .ref o]) (rest := []) ⟨hx, hb, hml, hown, hts⟩ (w_wear l D kA ad X v0 v1 o f  hnt) q_692 q_693 q_0 q_694 hdw_wear ⟨rfl, rfl⟩ ⟨Nat.le_of_ble_eq_true rfl, Nat.le_of_ble_eq_true rfl⟩ hK hP.r hD.rt hXH hLW rfl hl.1 rfl (Nat.le_of_ble_eq_true rfl) dL_law_916 ⟨hroom.1, hroom.2⟩) hS (aw_D hD.rt) (fun H locs hP1 hk1 hS => ?_)
  obtain ⟨hP, hD⟩ := jR hP hD hk1 hP1 lw_fst
  clear hP1 hk1 hXH
  refine lv_istore (lv' := [(5, .int (weT v0 v1)), (0, .ref b), (1, .ref (ad 0)), (2, .ref m0), (3, .ref o), (4, .int (nI i))]) hx hb dL_law_919 hl (by decide) rfl (fun ls hl => ?_)
  refine lv_aload_n hx hb dL_law_921 rfl (lv_at hl 3 rfl) ?_
  refine lv_aload_n hx hb dL_law_922 rfl (lv_at hl 1 rfl) ?_
  refine lv_iload hx hb dL_law_923 (lv_at hl 5 rfl) ?_
  refine lv_iconst (v := 1) hx hb dL_law_925 (by decide) ?_
  refine lv_iadd hx hb dL_law_926 ?_
  refine W_top (v' := .int (nI (i + 1))) (congrArg Value.int (nI_add i 1)) ?_
  refine va_sld hx hb hXb hbl (Nat.not_le.mpr hbl) hS (in_nI (j := i + 1) rfl (by omega) (by omega)) dL_law_927 ?_
  refine W_top (v' := .int v0) (congrArg Value.int hv0) ?_
  refine lv_aload_n hx hb dL_law_928 rfl (lv_at hl 1 rfl) ?_
  refine lv_iload hx hb dL_law_929 (lv_at hl 5 rfl) ?_
  refine lv_iconst (v := 2) hx hb dL_law_931 (by decide) ?_
  refine lv_iadd hx hb dL_law_932 ?_
  refine W_top (v' := .int (nI (i + 2))) (congrArg Value.int (nI_add i 2)) ?_
  refine va_sld hx hb hXb hbl (Nat.not_le.mpr hbl) hS (in_nI (j := i + 2) rfl (by omega) (by omega)) dL_law_933 ?_
  refine W_top (v' := .int v1) (congrArg Value.int hv1) ?_
  have eT : (weT v0 v1) = (weT v0 v1) := rfl
  refine cs_fs (runV (As := [.int v0, .int v1]) (rest := []) ⟨hx, hb, hml, hown, hts⟩ (m_X6_wear l D kA m0 m1 m2 m3 m4 m5 z h tx pt kp (nI w) (nI n0) th (-1) rd nu du hs v0 v1 ) q_1003 q_1004 q_1005 q_7 q_1006 hd_X6_wear ⟨rfl, rfl⟩ ⟨Nat.le_of_ble_eq_true rfl, Nat.le_of_ble_eq_true rfl⟩ hK hP.l hD.lf 0 (ci := 6) (C := RX6) (T := TX6) (N := 13) rfl rfl rfl hl.1 rfl (Nat.le_of_ble_eq_true rfl) dL_law_934 ⟨hroom.1, hroom.2⟩) hS (aw_D hD.lf) (fun H locs hP1 hk1 hS => ?_)
  obtain ⟨hP, hD⟩ := jL hP hD hk1 hP1 rfl
  clear hP1 hk1
  by_cases hT : (weT v0 v1) = 0
  · have hT2 : (weT v0 v1) = 0 := eT.symm.trans hT
    have hP : va_P D vwCl ([(m0, .inr (6, [.ref m1, .int (nI w), .ref m2, .int (nI n0), .ref m3, .int (weT v0 v1), .int (-1), .ref m4, .int rd, .int nu, .int du, .ref m5, .long hs])), (m1, .inl (kA 0, 148, .inl z)), (m2, .inl (kA 0, 888, .inl h)), (m3, .inl (kA 0, 60, .inl tx)), (m4, .inl (kA 0, 72, .inl pt)), (m5, .inl (kA 0, 148, .inl kp))] ++ ([(o, oO kA (vp_updL f 0 (wrF (fun t => (sl ((X 0)) v0.toNatClampNeg) (t + 11)) v1 : Int32).toInt64))] ++ cw kA ad X)) H := Pcg (by simp only [if_pos hT, if_pos hT2]) hP
    have hD : va_D (fun q => s.heap.size ≤ q) ([(m0, .inr (6, [.ref m1, .int (nI w), .ref m2, .int (nI n0), .ref m3, .int (weT v0 v1), .int (-1), .ref m4, .int rd, .int nu, .int du, .ref m5, .long hs])), (m1, .inl (kA 0, 148, .inl z)), (m2, .inl (kA 0, 888, .inl h)), (m3, .inl (kA 0, 60, .inl tx)), (m4, .inl (kA 0, 72, .inl pt)), (m5, .inl (kA 0, 148, .inl kp))] ++ ([(o, oO kA (vp_updL f 0 (wrF (fun t => (sl ((X 0)) v0.toNatClampNeg) (t + 11)) v1 : Int32).toInt64))] ++ cw kA ad X)) := Dcg (by simp only [if_pos hT, if_pos hT2]) hD
    refine W_top (v' := .int (gwr (sl z v0.toNatClampNeg) v1)) (congrArg Value.int (if_pos hT2)) ?_
    refine lv_istore (lv' := [(6, .int (gwr (sl z v0.toNatClampNeg) v1)), (5, .int (weT v0 v1)), (0, .ref b), (1, .ref (ad 0)), (2, .ref m0), (3, .ref o), (4, .int (nI i))]) hx hb dL_law_937 hl (by decide) rfl (fun ls hl => ?_)
    refine lv_aload_n hx hb dL_law_939 rfl (lv_at hl 4 rfl) ?_
    refine cs_p (runV (As := []) (rest := []) ⟨hx, hb, hml, hown, hts⟩ (m_X6_thrown l D kA m0 m1 m2 m3 m4 m5 z h tx pt kp (nI w) (nI n0) (weT v0 v1) (-1) rd nu du hs) q_810 q_811 q_812 q_7 q_813 hd_X6_thrown ⟨rfl, rfl⟩ ⟨Nat.le_of_ble_eq_true rfl, Nat.le_of_ble_eq_true rfl⟩ hK hP.l hD.lf 0 (ci := 6) (C := RX6) (T := TX6) (N := 13) rfl rfl rfl hl.1 rfl (Nat.le_of_ble_eq_true rfl) dL_law_940 ⟨hroom.1, hroom.2⟩) ?_
    refine lv_iload hx hb dL_law_943 (lv_at hl 1 rfl) ?_
    refine lv_icmp_eq (tgt := 950) hx hb dL_law_945 (by decide) (fun c9 => ?_) (fun c9 => absurd (eT.symm) c9)
    refine lv_iload hx hb dL_law_950 (lv_at hl 1 rfl) ?_
    refine lv_if_ne (tgt := 967) hx hb dL_law_952 (by decide) (fun c8 => absurd hT c8) (fun c8 => ?_)
    refine lv_aload_n hx hb dL_law_955 rfl (lv_at hl 5 rfl) ?_
    refine lv_iconst (v := 0) hx hb dL_law_956 (by decide) ?_
    refine va_lald hx hb hK hP 6 3 rfl rfl (in_nI (j := 0) rfl (by omega) (by decide)) dL_law_957 ?_
    refine W_top (v' := .long (wrF (fun t => (sl ((X 0)) v0.toNatClampNeg) (t + 11)) v1 : Int32).toInt64) rfl ?_
    refine lv_iload hx hb dL_law_958 (lv_at hl 0 rfl) ?_
    refine lv_i2l (v := (gwr (sl z v0.toNatClampNeg) v1 : Int32).toInt64) hx hb dL_law_960 rfl ?_
    refine W.lcmp hx hb dL_law_961 ?_
    have eV : (wrF (fun t => (sl ((X 0)) v0.toNatClampNeg) (t + 11)) v1 : Int32) = (gwr (sl z v0.toNatClampNeg) v1) := by rw [hXz] <;> rfl
    refine lv_if_eq (tgt := 967) hx hb dL_law_962 (by decide) (fun c7 => ?_) (fun c7 => absurd ((lg_cmp_eq _ _).mpr (congrArg Int32.toInt64 eV)) c7)
    refine lv_goto (tgt := 1677) hx hb dL_law_967 (by decide) ?_
    exact K _ _ _ _ _ _ _ _ _ _ _ _ _ _ _ _ _ _ (by exact rel_mono hR2 (by omega)) hP hD hS (lv_sub hl [2, 3, 4, 5, 6] rfl)
  · have hT2 : ¬ (weT v0 v1) = 0 := fun q9 => hT (eT.trans q9)
    have hP : va_P D vwCl ([(m0, .inr (6, [.ref m1, .int (nI w), .ref m2, .int (nI n0), .ref m3, .int (weT v0 v1), .int (-1), .ref m4, .int rd, .int nu, .int du, .ref m5, .long hs])), (m1, .inl (kA 0, 148, .inl z)), (m2, .inl (kA 0, 888, .inl h)), (m3, .inl (kA 0, 60, .inl tx)), (m4, .inl (kA 0, 72, .inl pt)), (m5, .inl (kA 0, 148, .inl kp))] ++ ([(o, oO kA (f))] ++ cw kA ad X)) H := Pcg (by simp only [if_neg hT, if_neg hT2]) hP
    have hD : va_D (fun q => s.heap.size ≤ q) ([(m0, .inr (6, [.ref m1, .int (nI w), .ref m2, .int (nI n0), .ref m3, .int (weT v0 v1), .int (-1), .ref m4, .int rd, .int nu, .int du, .ref m5, .long hs])), (m1, .inl (kA 0, 148, .inl z)), (m2, .inl (kA 0, 888, .inl h)), (m3, .inl (kA 0, 60, .inl tx)), (m4, .inl (kA 0, 72, .inl pt)), (m5, .inl (kA 0, 148, .inl kp))] ++ ([(o, oO kA (f))] ++ cw kA ad X)) := Dcg (by simp only [if_neg hT, if_neg hT2]) hD
    refine W_top (v' := .int (0)) (congrArg Value.int (if_neg hT2)) ?_
    refine lv_istore (lv' := [(6, .int (0)), (5, .int (weT v0 v1)), (0, .ref b), (1, .ref (ad 0)), (2, .ref m0), (3, .ref o), (4, .int (nI i))]) hx hb dL_law_937 hl (by decide) rfl (fun ls hl => ?_)
    refine lv_aload_n hx hb dL_law_939 rfl (lv_at hl 4 rfl) ?_
    refine cs_p (runV (As := []) (rest := []) ⟨hx, hb, hml, hown, hts⟩ (m_X6_thrown l D kA m0 m1 m2 m3 m4 m5 z h tx pt kp (nI w) (nI n0) (weT v0 v1) (-1) rd nu du hs) q_810 q_811 q_812 q_7 q_813 hd_X6_thrown ⟨rfl, rfl⟩ ⟨Nat.le_of_ble_eq_true rfl, Nat.le_of_ble_eq_true rfl⟩ hK hP.l hD.lf 0 (ci := 6) (C := RX6) (T := TX6) (N := 13) rfl rfl rfl hl.1 rfl (Nat.le_of_ble_eq_true rfl) dL_law_940 ⟨hroom.1, hroom.2⟩) ?_
    refine lv_iload hx hb dL_law_943 (lv_at hl 1 rfl) ?_
    refine lv_icmp_eq (tgt := 950) hx hb dL_law_945 (by decide) (fun c9 => ?_) (fun c9 => absurd (eT.symm) c9)
    refine lv_iload hx hb dL_law_950 (lv_at hl 1 rfl) ?_
    refine lv_if_ne (tgt := 967) hx hb dL_law_952 (by decide) (fun c8 => ?_) (fun c8 => absurd c8 hT)
    refine lv_goto (tgt := 1677) hx hb dL_law_967 (by decide) ?_
    exact K _ _ _ _ _ _ _ _ _ _ _ _ _ _ _ _ _ _ (by exact rel_mono hR2 (by omega)) hP hD hS (lv_sub hl [2, 3, 4, 5, 6] rfl)

set_option maxRecDepth 100000 in
set_option maxHeartbeats 4000000 in
theorem k_count {p : Program} {l : Launch} {e : Env} {s : State} {m : MethodId} {below : List Frame} {meth : Method} {c : Code} {Q : State → Prop} {D : va_G} {kA ad : Nat → Nat} {m0 m1 m2 m3 m4 m5 o b L i N cells slots : Nat} {xs : Nat → Int32} (C0 : LC l p s m meth c D kA b L xs) {X : Nat → Nat → Int32} {z h tx pt kp : Nat → Int32} {w n0 r : Nat} {th rd nu du : Int32} {hs : Int64} {f : Nat → Int64} {H : Heap} {locs : List Loc} {ls : Array Slot} (hR2 : REL X z h tx w n0 r N) (hN : N + 1000 ≤ 600000) (hi : i + 4 ≤ L) (hL : L ≤ 2048) (hP : va_P D vwCl (LWd kA ad m0 m1 m2 m3 m4 m5 o X z h tx pt kp w n0 th rd nu du hs f) H) (hD : va_D (fun q => s.heap.size ≤ q) (LWd kA ad m0 m1 m2 m3 m4 m5 o X z h tx pt kp w n0 th rd nu du hs f)) (hS : va_S (fun q => s.heap.size ≤ q) s.heap H locs) (hl : lv_has ls 9 (lB ad b m0 o i)) (hroom : cells + 1 ≤ 601024 ∧ slots + 6 ≤ 7293034) (K : KT p l e s m below meth c Q D kA ad m0 m1 m2 m3 m4 m5 o b i (N + 1000) (cells + 1) (slots + 6)) : W p l e room_1 s m #[Value.ref b] below meth c H locs cells slots Q (F0 m 970 ls []) := by
  obtain ⟨hx, hb, hml, hown, hts, hK, hXb, hbl, hX0, hLW, hnt⟩ := C0
  obtain ⟨hXz, hI, hC, hw6, hr6, h80, h81, h82, hN3, hTB, hring⟩ := id hR2
  have hn60 := hTB.1
  have hl : lv_has ls 9 [(0, .ref b), (1, .ref (ad 0)), (2, .ref m0), (3, .ref o), (4, .int (nI i))] := hl
  have hP : va_P D vwCl (mL kA m0 m1 m2 m3 m4 m5 z h tx pt kp (nI w) (nI n0) th (-1) rd nu du hs ++ ([(o, oO kA f)] ++ cw kA ad X)) H := hP
  have hD : va_D (fun q => s.heap.size ≤ q) (mL kA m0 m1 m2 m3 m4 m5 z h tx pt kp (nI w) (nI n0) th (-1) rd nu du hs ++ ([(o, oO kA f)] ++ cw kA ad X)) := hD
  obtain ⟨v0, hv0⟩ : ∃ y, xs (nI (i + 1)).toNatClampNeg = y := ⟨_, rfl⟩
  refine lv_aload_n hx hb dL_law_970 rfl (lv_at hl 1 rfl) ?_
  refine lv_aload_n hx hb dL_law_971 rfl (lv_at hl 0 rfl) ?_
  refine lv_iload hx hb dL_law_972 (lv_at hl 4 rfl) ?_
  refine lv_iconst (v := 1) hx hb dL_law_974 (by decide) ?_
  refine lv_iadd hx hb dL_law_975 ?_
  refine W_top (v' := .int (nI (i + 1))) (congrArg Value.int (nI_add i 1)) ?_
  refine va_sld hx hb hXb hbl (Nat.not_le.mpr hbl) hS (in_nI (j := i + 1) rfl (by omega) (by omega)) dL_law_976 ?_
  refine W_top (v' := .int v0) (congrArg Value.int hv0) ?_
  refine lv_aload_n hx hb dL_law_977 rfl (lv_at hl 3 rfl) ?_
  have hXH : XW (Aw (cw kA ad X)) s H := (hX0.kept hS.2.1).narrow (fun q9 h9 => aw_D hD.rt.rt q9 h9)
  refine cs_fk (wrunS (As := [.ref (ad 0), .int v0, .ref o]) (rest := []) ⟨hx, hb, hml, hown, hts⟩ (w_count l D kA ad X v0 o f  hnt) q_699 q_700 q_0 q_701 hdw_count ⟨rfl, rfl⟩ ⟨Nat.le_of_ble_eq_true rfl, Nat.le_of_ble_eq_true rfl⟩ hK hP.r hD.rt hXH hLW rfl hl.1 rfl (Nat.le_of_ble_eq_true rfl) dL_law_978 ⟨hroom.1, hroom.2⟩) hS (aw_D hD.rt) (fun H locs hP1 hk1 hS => ?_)
  obtain ⟨hP, hD⟩ := jR hP hD hk1 hP1 lw_fst
  clear hP1 hk1 hXH
  refine lv_istore (lv' := [(5, .int (couT v0)), (0, .ref b), (1, .ref (ad 0)), (2, .ref m0), (3, .ref o), (4, .int (nI i))]) hx hb dL_law_981 hl (by decide) rfl (fun ls hl => ?_)
  refine lv_aload_n hx hb dL_law_983 rfl (lv_at hl 3 rfl) ?_
  refine lv_aload_n hx hb dL_law_984 rfl (lv_at hl 1 rfl) ?_
  refine lv_iload hx hb dL_law_985 (lv_at hl 5 rfl) ?_
  refine lv_iconst (v := 1) hx hb dL_law_987 (by decide) ?_
  refine lv_iadd hx hb dL_law_988 ?_
  refine W_top (v' := .int (nI (i + 1))) (congrArg Value.int (nI_add i 1)) ?_
  refine va_sld hx hb hXb hbl (Nat.not_le.mpr hbl) hS (in_nI (j := i + 1) rfl (by omega) (by omega)) dL_law_989 ?_
  refine W_top (v' := .int v0) (congrArg Value.int hv0) ?_
  have eT : (couT v0) = (couT v0) := rfl
  refine cs_fs (runV (As := [.int v0]) (rest := []) ⟨hx, hb, hml, hown, hts⟩ (m_X6_count l D kA m0 m1 m2 m3 m4 m5 z h tx pt kp (nI w) (nI n0) th (-1) rd nu du hs v0 ) q_1007 q_1008 q_1009 q_7 q_1010 hd_X6_count ⟨rfl, rfl⟩ ⟨Nat.le_of_ble_eq_true rfl, Nat.le_of_ble_eq_true rfl⟩ hK hP.l hD.lf 0 (ci := 6) (C := RX6) (T := TX6) (N := 13) rfl rfl rfl hl.1 rfl (Nat.le_of_ble_eq_true rfl) dL_law_990 ⟨hroom.1, hroom.2⟩) hS (aw_D hD.lf) (fun H locs hP1 hk1 hS => ?_)
  obtain ⟨hP, hD⟩ := jL hP hD hk1 hP1 rfl
  clear hP1 hk1
  by_cases hT : (couT v0) = 0
  · have hT2 : (couT v0) = 0 := eT.symm.trans hT
    have hP : va_P D vwCl ([(m0, .inr (6, [.ref m1, .int (nI w), .ref m2, .int (nI n0), .ref m3, .int (couT v0), .int (-1), .ref m4, .int rd, .int nu, .int du, .ref m5, .long hs])), (m1, .inl (kA 0, 148, .inl z)), (m2, .inl (kA 0, 888, .inl h)), (m3, .inl (kA 0, 60, .inl tx)), (m4, .inl (kA 0, 72, .inl pt)), (m5, .inl (kA 0, 148, .inl kp))] ++ ([(o, oO kA (vp_updL f 0 (coF X v0 : Int32).toInt64))] ++ cw kA ad X)) H := Pcg (by simp only [if_pos hT, if_pos hT2]) hP
    have hD : va_D (fun q => s.heap.size ≤ q) ([(m0, .inr (6, [.ref m1, .int (nI w), .ref m2, .int (nI n0), .ref m3, .int (couT v0), .int (-1), .ref m4, .int rd, .int nu, .int du, .ref m5, .long hs])), (m1, .inl (kA 0, 148, .inl z)), (m2, .inl (kA 0, 888, .inl h)), (m3, .inl (kA 0, 60, .inl tx)), (m4, .inl (kA 0, 72, .inl pt)), (m5, .inl (kA 0, 148, .inl kp))] ++ ([(o, oO kA (vp_updL f 0 (coF X v0 : Int32).toInt64))] ++ cw kA ad X)) := Dcg (by simp only [if_pos hT, if_pos hT2]) hD
    refine W_top (v' := .int (coM z (nI w) v0)) (congrArg Value.int (if_pos hT2)) ?_
    refine lv_istore (lv' := [(6, .int (coM z (nI w) v0)), (5, .int (couT v0)), (0, .ref b), (1, .ref (ad 0)), (2, .ref m0), (3, .ref o), (4, .int (nI i))]) hx hb dL_law_993 hl (by decide) rfl (fun ls hl => ?_)
    refine lv_aload_n hx hb dL_law_995 rfl (lv_at hl 4 rfl) ?_
    refine cs_p (runV (As := []) (rest := []) ⟨hx, hb, hml, hown, hts⟩ (m_X6_thrown l D kA m0 m1 m2 m3 m4 m5 z h tx pt kp (nI w) (nI n0) (couT v0) (-1) rd nu du hs) q_810 q_811 q_812 q_7 q_813 hd_X6_thrown ⟨rfl, rfl⟩ ⟨Nat.le_of_ble_eq_true rfl, Nat.le_of_ble_eq_true rfl⟩ hK hP.l hD.lf 0 (ci := 6) (C := RX6) (T := TX6) (N := 13) rfl rfl rfl hl.1 rfl (Nat.le_of_ble_eq_true rfl) dL_law_996 ⟨hroom.1, hroom.2⟩) ?_
    refine lv_iload hx hb dL_law_999 (lv_at hl 1 rfl) ?_
    refine lv_icmp_eq (tgt := 1006) hx hb dL_law_1001 (by decide) (fun c9 => ?_) (fun c9 => absurd (eT.symm) c9)
    refine lv_iload hx hb dL_law_1006 (lv_at hl 1 rfl) ?_
    refine lv_if_ne (tgt := 1023) hx hb dL_law_1008 (by decide) (fun c8 => absurd hT c8) (fun c8 => ?_)
    refine lv_aload_n hx hb dL_law_1011 rfl (lv_at hl 5 rfl) ?_
    refine lv_iconst (v := 0) hx hb dL_law_1012 (by decide) ?_
    refine va_lald hx hb hK hP 6 3 rfl rfl (in_nI (j := 0) rfl (by omega) (by decide)) dL_law_1013 ?_
    refine W_top (v' := .long (coF X v0 : Int32).toInt64) rfl ?_
    refine lv_iload hx hb dL_law_1014 (lv_at hl 0 rfl) ?_
    refine lv_i2l (v := (coM z (nI w) v0 : Int32).toInt64) hx hb dL_law_1016 rfl ?_
    refine W.lcmp hx hb dL_law_1017 ?_
    have eV : (coF X v0 : Int32) = (coM z (nI w) v0) := by rw [co_eq h81, hXz]
    refine lv_if_eq (tgt := 1023) hx hb dL_law_1018 (by decide) (fun c7 => ?_) (fun c7 => absurd ((lg_cmp_eq _ _).mpr (congrArg Int32.toInt64 eV)) c7)
    refine lv_goto (tgt := 1677) hx hb dL_law_1023 (by decide) ?_
    exact K _ _ _ _ _ _ _ _ _ _ _ _ _ _ _ _ _ _ (by exact rel_mono hR2 (by omega)) hP hD hS (lv_sub hl [2, 3, 4, 5, 6] rfl)
  · have hT2 : ¬ (couT v0) = 0 := fun q9 => hT (eT.trans q9)
    have hP : va_P D vwCl ([(m0, .inr (6, [.ref m1, .int (nI w), .ref m2, .int (nI n0), .ref m3, .int (couT v0), .int (-1), .ref m4, .int rd, .int nu, .int du, .ref m5, .long hs])), (m1, .inl (kA 0, 148, .inl z)), (m2, .inl (kA 0, 888, .inl h)), (m3, .inl (kA 0, 60, .inl tx)), (m4, .inl (kA 0, 72, .inl pt)), (m5, .inl (kA 0, 148, .inl kp))] ++ ([(o, oO kA (f))] ++ cw kA ad X)) H := Pcg (by simp only [if_neg hT, if_neg hT2]) hP
    have hD : va_D (fun q => s.heap.size ≤ q) ([(m0, .inr (6, [.ref m1, .int (nI w), .ref m2, .int (nI n0), .ref m3, .int (couT v0), .int (-1), .ref m4, .int rd, .int nu, .int du, .ref m5, .long hs])), (m1, .inl (kA 0, 148, .inl z)), (m2, .inl (kA 0, 888, .inl h)), (m3, .inl (kA 0, 60, .inl tx)), (m4, .inl (kA 0, 72, .inl pt)), (m5, .inl (kA 0, 148, .inl kp))] ++ ([(o, oO kA (f))] ++ cw kA ad X)) := Dcg (by simp only [if_neg hT, if_neg hT2]) hD
    refine W_top (v' := .int (0)) (congrArg Value.int (if_neg hT2)) ?_
    refine lv_istore (lv' := [(6, .int (0)), (5, .int (couT v0)), (0, .ref b), (1, .ref (ad 0)), (2, .ref m0), (3, .ref o), (4, .int (nI i))]) hx hb dL_law_993 hl (by decide) rfl (fun ls hl => ?_)
    refine lv_aload_n hx hb dL_law_995 rfl (lv_at hl 4 rfl) ?_
    refine cs_p (runV (As := []) (rest := []) ⟨hx, hb, hml, hown, hts⟩ (m_X6_thrown l D kA m0 m1 m2 m3 m4 m5 z h tx pt kp (nI w) (nI n0) (couT v0) (-1) rd nu du hs) q_810 q_811 q_812 q_7 q_813 hd_X6_thrown ⟨rfl, rfl⟩ ⟨Nat.le_of_ble_eq_true rfl, Nat.le_of_ble_eq_true rfl⟩ hK hP.l hD.lf 0 (ci := 6) (C := RX6) (T := TX6) (N := 13) rfl rfl rfl hl.1 rfl (Nat.le_of_ble_eq_true rfl) dL_law_996 ⟨hroom.1, hroom.2⟩) ?_
    refine lv_iload hx hb dL_law_999 (lv_at hl 1 rfl) ?_
    refine lv_icmp_eq (tgt := 1006) hx hb dL_law_1001 (by decide) (fun c9 => ?_) (fun c9 => absurd (eT.symm) c9)
    refine lv_iload hx hb dL_law_1006 (lv_at hl 1 rfl) ?_
    refine lv_if_ne (tgt := 1023) hx hb dL_law_1008 (by decide) (fun c8 => ?_) (fun c8 => absurd c8 hT)
    refine lv_goto (tgt := 1677) hx hb dL_law_1023 (by decide) ?_
    exact K _ _ _ _ _ _ _ _ _ _ _ _ _ _ _ _ _ _ (by exact rel_mono hR2 (by omega)) hP hD hS (lv_sub hl [2, 3, 4, 5, 6] rfl)

set_option maxRecDepth 100000 in
set_option maxHeartbeats 4000000 in
theorem k_setting {p : Program} {l : Launch} {e : Env} {s : State} {m : MethodId} {below : List Frame} {meth : Method} {c : Code} {Q : State → Prop} {D : va_G} {kA ad : Nat → Nat} {m0 m1 m2 m3 m4 m5 o b L i N cells slots : Nat} {xs : Nat → Int32} (C0 : LC l p s m meth c D kA b L xs) {X : Nat → Nat → Int32} {z h tx pt kp : Nat → Int32} {w n0 r : Nat} {th rd nu du : Int32} {hs : Int64} {f : Nat → Int64} {H : Heap} {locs : List Loc} {ls : Array Slot} (hR2 : REL X z h tx w n0 r N) (hN : N + 1000 ≤ 600000) (hi : i + 4 ≤ L) (hL : L ≤ 2048) (hP : va_P D vwCl (LWd kA ad m0 m1 m2 m3 m4 m5 o X z h tx pt kp w n0 th rd nu du hs f) H) (hD : va_D (fun q => s.heap.size ≤ q) (LWd kA ad m0 m1 m2 m3 m4 m5 o X z h tx pt kp w n0 th rd nu du hs f)) (hS : va_S (fun q => s.heap.size ≤ q) s.heap H locs) (hl : lv_has ls 9 (lB ad b m0 o i)) (hroom : cells + 1 ≤ 601024 ∧ slots + 6 ≤ 7293034) (K : KT p l e s m below meth c Q D kA ad m0 m1 m2 m3 m4 m5 o b i (N + 1000) (cells + 1) (slots + 6)) : W p l e room_1 s m #[Value.ref b] below meth c H locs cells slots Q (F0 m 1026 ls []) := by
  obtain ⟨hx, hb, hml, hown, hts, hK, hXb, hbl, hX0, hLW, hnt⟩ := C0
  obtain ⟨hXz, hI, hC, hw6, hr6, h80, h81, h82, hN3, hTB, hring⟩ := id hR2
  have hn60 := hTB.1
  have hl : lv_has ls 9 [(0, .ref b), (1, .ref (ad 0)), (2, .ref m0), (3, .ref o), (4, .int (nI i))] := hl
  have hP : va_P D vwCl (mL kA m0 m1 m2 m3 m4 m5 z h tx pt kp (nI w) (nI n0) th (-1) rd nu du hs ++ ([(o, oO kA f)] ++ cw kA ad X)) H := hP
  have hD : va_D (fun q => s.heap.size ≤ q) (mL kA m0 m1 m2 m3 m4 m5 z h tx pt kp (nI w) (nI n0) th (-1) rd nu du hs ++ ([(o, oO kA f)] ++ cw kA ad X)) := hD
  obtain ⟨v0, hv0⟩ : ∃ y, xs (nI (i + 1)).toNatClampNeg = y := ⟨_, rfl⟩
  refine lv_aload_n hx hb dL_law_1026 rfl (lv_at hl 1 rfl) ?_
  refine lv_aload_n hx hb dL_law_1027 rfl (lv_at hl 0 rfl) ?_
  refine lv_iload hx hb dL_law_1028 (lv_at hl 4 rfl) ?_
  refine lv_iconst (v := 1) hx hb dL_law_1030 (by decide) ?_
  refine lv_iadd hx hb dL_law_1031 ?_
  refine W_top (v' := .int (nI (i + 1))) (congrArg Value.int (nI_add i 1)) ?_
  refine va_sld hx hb hXb hbl (Nat.not_le.mpr hbl) hS (in_nI (j := i + 1) rfl (by omega) (by omega)) dL_law_1032 ?_
  refine W_top (v' := .int v0) (congrArg Value.int hv0) ?_
  refine lv_aload_n hx hb dL_law_1033 rfl (lv_at hl 3 rfl) ?_
  have hXH : XW (Aw (cw kA ad X)) s H := (hX0.kept hS.2.1).narrow (fun q9 h9 => aw_D hD.rt.rt q9 h9)
  refine cs_fk (wrunS (As := [.ref (ad 0), .int v0, .ref o]) (rest := []) ⟨hx, hb, hml, hown, hts⟩ (w_setting l D kA ad X v0 o f  hnt) q_707 q_708 q_0 q_709 hdw_setting ⟨rfl, rfl⟩ ⟨Nat.le_of_ble_eq_true rfl, Nat.le_of_ble_eq_true rfl⟩ hK hP.r hD.rt hXH hLW rfl hl.1 rfl (Nat.le_of_ble_eq_true rfl) dL_law_1034 ⟨hroom.1, hroom.2⟩) hS (aw_D hD.rt) (fun H locs hP1 hk1 hS => ?_)
  obtain ⟨hP, hD⟩ := jR hP hD hk1 hP1 lw_fst
  clear hP1 hk1 hXH
  refine lv_istore (lv' := [(5, .int (stgT v0)), (0, .ref b), (1, .ref (ad 0)), (2, .ref m0), (3, .ref o), (4, .int (nI i))]) hx hb dL_law_1037 hl (by decide) rfl (fun ls hl => ?_)
  refine lv_aload_n hx hb dL_law_1039 rfl (lv_at hl 3 rfl) ?_
  refine lv_aload_n hx hb dL_law_1040 rfl (lv_at hl 1 rfl) ?_
  refine lv_iload hx hb dL_law_1041 (lv_at hl 5 rfl) ?_
  refine lv_iconst (v := 1) hx hb dL_law_1043 (by decide) ?_
  refine lv_iadd hx hb dL_law_1044 ?_
  refine W_top (v' := .int (nI (i + 1))) (congrArg Value.int (nI_add i 1)) ?_
  refine va_sld hx hb hXb hbl (Nat.not_le.mpr hbl) hS (in_nI (j := i + 1) rfl (by omega) (by omega)) dL_law_1045 ?_
  refine W_top (v' := .int v0) (congrArg Value.int hv0) ?_
  have eT : (stgT v0) = (stgT v0) := rfl
  refine cs_fs (runV (As := [.int v0]) (rest := []) ⟨hx, hb, hml, hown, hts⟩ (m_X6_setting l D kA m0 m1 m2 m3 m4 m5 z h tx pt kp (nI w) (nI n0) th (-1) rd nu du hs v0 ) q_1027 q_1028 q_1029 q_7 q_1030 hd_X6_setting ⟨rfl, rfl⟩ ⟨Nat.le_of_ble_eq_true rfl, Nat.le_of_ble_eq_true rfl⟩ hK hP.l hD.lf 0 (ci := 6) (C := RX6) (T := TX6) (N := 13) rfl rfl rfl hl.1 rfl (Nat.le_of_ble_eq_true rfl) dL_law_1046 ⟨hroom.1, hroom.2⟩) hS (aw_D hD.lf) (fun H locs hP1 hk1 hS => ?_)
  obtain ⟨hP, hD⟩ := jL hP hD hk1 hP1 rfl
  clear hP1 hk1
  by_cases hT : (stgT v0) = 0
  · have hT2 : (stgT v0) = 0 := eT.symm.trans hT
    have hP : va_P D vwCl ([(m0, .inr (6, [.ref m1, .int (nI w), .ref m2, .int (nI n0), .ref m3, .int (stgT v0), .int (-1), .ref m4, .int rd, .int nu, .int du, .ref m5, .long hs])), (m1, .inl (kA 0, 148, .inl z)), (m2, .inl (kA 0, 888, .inl h)), (m3, .inl (kA 0, 60, .inl tx)), (m4, .inl (kA 0, 72, .inl pt)), (m5, .inl (kA 0, 148, .inl kp))] ++ ([(o, oO kA (vp_updL f 0 (rvF (X 0) v0 : Int32).toInt64))] ++ cw kA ad X)) H := Pcg (by simp only [if_pos hT, if_pos hT2]) hP
    have hD : va_D (fun q => s.heap.size ≤ q) ([(m0, .inr (6, [.ref m1, .int (nI w), .ref m2, .int (nI n0), .ref m3, .int (stgT v0), .int (-1), .ref m4, .int rd, .int nu, .int du, .ref m5, .long hs])), (m1, .inl (kA 0, 148, .inl z)), (m2, .inl (kA 0, 888, .inl h)), (m3, .inl (kA 0, 60, .inl tx)), (m4, .inl (kA 0, 72, .inl pt)), (m5, .inl (kA 0, 148, .inl kp))] ++ ([(o, oO kA (vp_updL f 0 (rvF (X 0) v0 : Int32).toInt64))] ++ cw kA ad X)) := Dcg (by simp only [if_pos hT, if_pos hT2]) hD
    refine W_top (v' := .int (z v0.toNatClampNeg)) (congrArg Value.int (if_pos hT2)) ?_
    refine lv_istore (lv' := [(6, .int (z v0.toNatClampNeg)), (5, .int (stgT v0)), (0, .ref b), (1, .ref (ad 0)), (2, .ref m0), (3, .ref o), (4, .int (nI i))]) hx hb dL_law_1049 hl (by decide) rfl (fun ls hl => ?_)
    refine lv_aload_n hx hb dL_law_1051 rfl (lv_at hl 4 rfl) ?_
    refine cs_p (runV (As := []) (rest := []) ⟨hx, hb, hml, hown, hts⟩ (m_X6_thrown l D kA m0 m1 m2 m3 m4 m5 z h tx pt kp (nI w) (nI n0) (stgT v0) (-1) rd nu du hs) q_810 q_811 q_812 q_7 q_813 hd_X6_thrown ⟨rfl, rfl⟩ ⟨Nat.le_of_ble_eq_true rfl, Nat.le_of_ble_eq_true rfl⟩ hK hP.l hD.lf 0 (ci := 6) (C := RX6) (T := TX6) (N := 13) rfl rfl rfl hl.1 rfl (Nat.le_of_ble_eq_true rfl) dL_law_1052 ⟨hroom.1, hroom.2⟩) ?_
    refine lv_iload hx hb dL_law_1055 (lv_at hl 1 rfl) ?_
    refine lv_icmp_eq (tgt := 1062) hx hb dL_law_1057 (by decide) (fun c9 => ?_) (fun c9 => absurd (eT.symm) c9)
    refine lv_iload hx hb dL_law_1062 (lv_at hl 1 rfl) ?_
    refine lv_if_ne (tgt := 1079) hx hb dL_law_1064 (by decide) (fun c8 => absurd hT c8) (fun c8 => ?_)
    refine lv_aload_n hx hb dL_law_1067 rfl (lv_at hl 5 rfl) ?_
    refine lv_iconst (v := 0) hx hb dL_law_1068 (by decide) ?_
    refine va_lald hx hb hK hP 6 3 rfl rfl (in_nI (j := 0) rfl (by omega) (by decide)) dL_law_1069 ?_
    refine W_top (v' := .long (rvF (X 0) v0 : Int32).toInt64) rfl ?_
    refine lv_iload hx hb dL_law_1070 (lv_at hl 0 rfl) ?_
    refine lv_i2l (v := (z v0.toNatClampNeg : Int32).toInt64) hx hb dL_law_1072 rfl ?_
    refine W.lcmp hx hb dL_law_1073 ?_
    have eV : (rvF (X 0) v0 : Int32) = (z v0.toNatClampNeg) := by rw [hXz]; exact rv_z (stgT_0 hT2)
    refine lv_if_eq (tgt := 1079) hx hb dL_law_1074 (by decide) (fun c7 => ?_) (fun c7 => absurd ((lg_cmp_eq _ _).mpr (congrArg Int32.toInt64 eV)) c7)
    refine lv_goto (tgt := 1677) hx hb dL_law_1079 (by decide) ?_
    exact K _ _ _ _ _ _ _ _ _ _ _ _ _ _ _ _ _ _ (by exact rel_mono hR2 (by omega)) hP hD hS (lv_sub hl [2, 3, 4, 5, 6] rfl)
  · have hT2 : ¬ (stgT v0) = 0 := fun q9 => hT (eT.trans q9)
    have hP : va_P D vwCl ([(m0, .inr (6, [.ref m1, .int (nI w), .ref m2, .int (nI n0), .ref m3, .int (stgT v0), .int (-1), .ref m4, .int rd, .int nu, .int du, .ref m5, .long hs])), (m1, .inl (kA 0, 148, .inl z)), (m2, .inl (kA 0, 888, .inl h)), (m3, .inl (kA 0, 60, .inl tx)), (m4, .inl (kA 0, 72, .inl pt)), (m5, .inl (kA 0, 148, .inl kp))] ++ ([(o, oO kA (f))] ++ cw kA ad X)) H := Pcg (by simp only [if_neg hT, if_neg hT2]) hP
    have hD : va_D (fun q => s.heap.size ≤ q) ([(m0, .inr (6, [.ref m1, .int (nI w), .ref m2, .int (nI n0), .ref m3, .int (stgT v0), .int (-1), .ref m4, .int rd, .int nu, .int du, .ref m5, .long hs])), (m1, .inl (kA 0, 148, .inl z)), (m2, .inl (kA 0, 888, .inl h)), (m3, .inl (kA 0, 60, .inl tx)), (m4, .inl (kA 0, 72, .inl pt)), (m5, .inl (kA 0, 148, .inl kp))] ++ ([(o, oO kA (f))] ++ cw kA ad X)) := Dcg (by simp only [if_neg hT, if_neg hT2]) hD
    refine W_top (v' := .int (0)) (congrArg Value.int (if_neg hT2)) ?_
    refine lv_istore (lv' := [(6, .int (0)), (5, .int (stgT v0)), (0, .ref b), (1, .ref (ad 0)), (2, .ref m0), (3, .ref o), (4, .int (nI i))]) hx hb dL_law_1049 hl (by decide) rfl (fun ls hl => ?_)
    refine lv_aload_n hx hb dL_law_1051 rfl (lv_at hl 4 rfl) ?_
    refine cs_p (runV (As := []) (rest := []) ⟨hx, hb, hml, hown, hts⟩ (m_X6_thrown l D kA m0 m1 m2 m3 m4 m5 z h tx pt kp (nI w) (nI n0) (stgT v0) (-1) rd nu du hs) q_810 q_811 q_812 q_7 q_813 hd_X6_thrown ⟨rfl, rfl⟩ ⟨Nat.le_of_ble_eq_true rfl, Nat.le_of_ble_eq_true rfl⟩ hK hP.l hD.lf 0 (ci := 6) (C := RX6) (T := TX6) (N := 13) rfl rfl rfl hl.1 rfl (Nat.le_of_ble_eq_true rfl) dL_law_1052 ⟨hroom.1, hroom.2⟩) ?_
    refine lv_iload hx hb dL_law_1055 (lv_at hl 1 rfl) ?_
    refine lv_icmp_eq (tgt := 1062) hx hb dL_law_1057 (by decide) (fun c9 => ?_) (fun c9 => absurd (eT.symm) c9)
    refine lv_iload hx hb dL_law_1062 (lv_at hl 1 rfl) ?_
    refine lv_if_ne (tgt := 1079) hx hb dL_law_1064 (by decide) (fun c8 => ?_) (fun c8 => absurd c8 hT)
    refine lv_goto (tgt := 1677) hx hb dL_law_1079 (by decide) ?_
    exact K _ _ _ _ _ _ _ _ _ _ _ _ _ _ _ _ _ _ (by exact rel_mono hR2 (by omega)) hP hD hS (lv_sub hl [2, 3, 4, 5, 6] rfl)
