set_option maxRecDepth 100000 in
set_option maxHeartbeats 4000000 in
theorem k_clearBuffer {p : Program} {l : Launch} {e : Env} {s : State} {m : MethodId} {below : List Frame} {meth : Method} {c : Code} {Q : State → Prop} {D : va_G} {kA ad : Nat → Nat} {m0 m1 m2 m3 m4 m5 o b L i N cells slots : Nat} {xs : Nat → Int32} (C0 : LC l p s m meth c D kA b L xs) {X : Nat → Nat → Int32} {z h tx pt kp : Nat → Int32} {w n0 r : Nat} {th rd nu du : Int32} {hs : Int64} {f : Nat → Int64} {H : Heap} {locs : List Loc} {ls : Array Slot} (hR2 : REL X z h tx w n0 r N) (hN : N + 1000 ≤ 600000) (hi : i + 4 ≤ L) (hL : L ≤ 2048) (hP : va_P D vwCl (LWd kA ad m0 m1 m2 m3 m4 m5 o X z h tx pt kp w n0 th rd nu du hs f) H) (hD : va_D (fun q => s.heap.size ≤ q) (LWd kA ad m0 m1 m2 m3 m4 m5 o X z h tx pt kp w n0 th rd nu du hs f)) (hS : va_S (fun q => s.heap.size ≤ q) s.heap H locs) (hl : lv_has ls 9 (lB ad b m0 o i)) (hroom : cells + 1 ≤ 601024 ∧ slots + 6 ≤ 7293034) (K : KT p l e s m below meth c Q D kA ad m0 m1 m2 m3 m4 m5 o b i (N + 1000) (cells + 1) (slots + 6)) : W p l e room_1 s m #[Value.ref b] below meth c H locs cells slots Q (F0 m 720 ls []) := by
  obtain ⟨hx, hb, hml, hown, hts, hK, hXb, hbl, hX0, hLW, hnt⟩ := C0
  obtain ⟨hXz, hI, hC, hw6, hr6, h80, h81, h82, hN3, hTB, hring⟩ := id hR2
  have hn60 := hTB.1
  obtain ⟨em, hok⟩ := mt_mn hC (by omega)
  have hr9 : cells ≤ 601024 ∧ slots ≤ 7293034 := ⟨by omega, by omega⟩
  have hl : lv_has ls 9 [(0, .ref b), (1, .ref (ad 0)), (2, .ref m0), (3, .ref o), (4, .int (nI i))] := hl
  have hP : va_P D vwCl (mL kA m0 m1 m2 m3 m4 m5 z h tx pt kp (nI w) (nI n0) th (-1) rd nu du hs ++ ([(o, oO kA f)] ++ cw kA ad X)) H := hP
  have hD : va_D (fun q => s.heap.size ≤ q) (mL kA m0 m1 m2 m3 m4 m5 z h tx pt kp (nI w) (nI n0) th (-1) rd nu du hs ++ ([(o, oO kA f)] ++ cw kA ad X)) := hD
  refine lv_aload_n hx hb dL_law_720 rfl (lv_at hl 1 rfl) ?_
  refine cs_fs (runV (As := []) (rest := []) ⟨hx, hb, hml, hown, hts⟩ (m_X5_clearBuffer l D kA ad X ) q_195 q_196 q_197 q_1 q_198 hd_X5_clearBuffer ⟨rfl, rfl⟩ ⟨Nat.le_of_ble_eq_true rfl, Nat.le_of_ble_eq_true rfl⟩ hK hP.r.r hD.rt.rt _ (ci := 5) (C := RX5) (T := TX5) (N := 6) rfl (cw_arm (kA := kA) (ad := ad) (X := X)) rfl hl.1 rfl (Nat.le_of_ble_eq_true rfl) dL_law_721 ⟨hr9.1, hr9.2⟩) hS (aw_D hD.rt.rt) (fun H locs hP1 hk1 hS => ?_)
  obtain ⟨hP, hD⟩ := jRR hP hD hk1 hP1 cw_fst
  clear hP1 hk1
  refine lv_aload_n hx hb dL_law_724 rfl (lv_at hl 2 rfl) ?_
  refine cs_fs (runV (As := []) (rest := [.int (X 8 2)]) ⟨hx, hb, hml, hown, hts⟩ (m_X6_clearBuffer l D kA m0 m1 m2 m3 m4 m5 z h tx pt kp (nI w) (nI n0) th (-1) rd nu du hs ) q_948 q_949 q_950 q_7 q_951 hd_X6_clearBuffer ⟨rfl, rfl⟩ ⟨Nat.le_of_ble_eq_true rfl, Nat.le_of_ble_eq_true rfl⟩ hK hP.l hD.lf 0 (ci := 6) (C := RX6) (T := TX6) (N := 13) rfl rfl rfl hl.1 rfl (Nat.le_of_ble_eq_true rfl) dL_law_725 ⟨hr9.1, hr9.2⟩) hS (aw_D hD.lf) (fun H locs hP1 hk1 hS => ?_)
  obtain ⟨hP, hD⟩ := jL hP hD hk1 hP1 rfl
  clear hP1 hk1
  refine lv_icmp_eq (tgt := 1677) hx hb dL_law_728 (by decide) (fun c9 => ?_) (fun c9 => absurd (h82) c9)
  refine W.widen (k := cells + 1) (n := slots + 6) (Nat.le_succ _) (Nat.le_add_right _ _) ?_
  exact K _ _ _ _ _ _ _ 0 _ _ _ _ _ _ _ _ _ _ (rel_mono (rel_len0 hR2) (by omega)) hP hD hS (lv_sub hl [0, 1, 2, 3, 4] rfl)

set_option maxRecDepth 100000 in
set_option maxHeartbeats 4000000 in
theorem k_firstError {p : Program} {l : Launch} {e : Env} {s : State} {m : MethodId} {below : List Frame} {meth : Method} {c : Code} {Q : State → Prop} {D : va_G} {kA ad : Nat → Nat} {m0 m1 m2 m3 m4 m5 o b L i N cells slots : Nat} {xs : Nat → Int32} (C0 : LC l p s m meth c D kA b L xs) {X : Nat → Nat → Int32} {z h tx pt kp : Nat → Int32} {w n0 r : Nat} {th rd nu du : Int32} {hs : Int64} {f : Nat → Int64} {H : Heap} {locs : List Loc} {ls : Array Slot} (hR2 : REL X z h tx w n0 r N) (hN : N + 1000 ≤ 600000) (hi : i + 4 ≤ L) (hL : L ≤ 2048) (hP : va_P D vwCl (LWd kA ad m0 m1 m2 m3 m4 m5 o X z h tx pt kp w n0 th rd nu du hs f) H) (hD : va_D (fun q => s.heap.size ≤ q) (LWd kA ad m0 m1 m2 m3 m4 m5 o X z h tx pt kp w n0 th rd nu du hs f)) (hS : va_S (fun q => s.heap.size ≤ q) s.heap H locs) (hl : lv_has ls 9 (lB ad b m0 o i)) (hroom : cells + 1 ≤ 601024 ∧ slots + 6 ≤ 7293034) (K : KT p l e s m below meth c Q D kA ad m0 m1 m2 m3 m4 m5 o b i (N + 1000) (cells + 1) (slots + 6)) : W p l e room_1 s m #[Value.ref b] below meth c H locs cells slots Q (F0 m 733 ls []) := by
  obtain ⟨hx, hb, hml, hown, hts, hK, hXb, hbl, hX0, hLW, hnt⟩ := C0
  obtain ⟨hXz, hI, hC, hw6, hr6, h80, h81, h82, hN3, hTB, hring⟩ := id hR2
  have hn60 := hTB.1
  obtain ⟨em, hok⟩ := mt_mn hC (by omega)
  have hr9 : cells ≤ 601024 ∧ slots ≤ 7293034 := ⟨by omega, by omega⟩
  have hl : lv_has ls 9 [(0, .ref b), (1, .ref (ad 0)), (2, .ref m0), (3, .ref o), (4, .int (nI i))] := hl
  have hP : va_P D vwCl (mL kA m0 m1 m2 m3 m4 m5 z h tx pt kp (nI w) (nI n0) th (-1) rd nu du hs ++ ([(o, oO kA f)] ++ cw kA ad X)) H := hP
  have hD : va_D (fun q => s.heap.size ≤ q) (mL kA m0 m1 m2 m3 m4 m5 z h tx pt kp (nI w) (nI n0) th (-1) rd nu du hs ++ ([(o, oO kA f)] ++ cw kA ad X)) := hD
  refine lv_aload_n hx hb dL_law_733 rfl (lv_at hl 1 rfl) ?_
  refine cs_fs (runV (As := []) (rest := []) ⟨hx, hb, hml, hown, hts⟩ (m_X5_firstError l D kA ad X n0 h82 hn60) q_199 q_200 q_201 q_1 q_202 hd_X5_firstError ⟨rfl, rfl⟩ ⟨Nat.le_of_ble_eq_true rfl, Nat.le_of_ble_eq_true rfl⟩ hK hP.r.r hD.rt.rt _ (ci := 5) (C := RX5) (T := TX5) (N := 6) rfl (cw_arm (kA := kA) (ad := ad) (X := X)) rfl hl.1 rfl (Nat.le_of_ble_eq_true rfl) dL_law_734 ⟨hr9.1, hr9.2⟩) hS (aw_D hD.rt.rt) (fun H locs hP1 hk1 hS => ?_)
  obtain ⟨hP, hD⟩ := jRR hP hD hk1 hP1 cw_fst
  clear hP1 hk1
  refine lv_aload_n hx hb dL_law_737 rfl (lv_at hl 2 rfl) ?_
  refine cs_fs (runV (As := []) (rest := [.int (ieF X n0).1]) ⟨hx, hb, hml, hown, hts⟩ (m_X6_firstError l D kA m0 m1 m2 m3 m4 m5 z h tx pt kp (nI w) (nI n0) th (-1) rd nu du hs n0 rfl hn60) q_952 q_953 q_954 q_7 q_955 hd_X6_firstError ⟨rfl, rfl⟩ ⟨Nat.le_of_ble_eq_true rfl, Nat.le_of_ble_eq_true rfl⟩ hK hP.l hD.lf 0 (ci := 6) (C := RX6) (T := TX6) (N := 13) rfl rfl rfl hl.1 rfl (Nat.le_of_ble_eq_true rfl) dL_law_738 ⟨hr9.1, hr9.2⟩) hS (aw_D hD.lf) (fun H locs hP1 hk1 hS => ?_)
  obtain ⟨hP, hD⟩ := jL hP hD hk1 hP1 rfl
  clear hP1 hk1
  refine lv_icmp_eq (tgt := 1677) hx hb dL_law_741 (by decide) (fun c9 => ?_) (fun c9 => absurd ((ie_F (pt := pt) hTB hN3).1) c9)
  refine W.widen (k := cells + 1) (n := slots + 6) (Nat.le_succ _) (Nat.le_add_right _ _) ?_
  exact K _ _ _ _ _ _ _ _ _ _ _ _ _ _ _ _ _ _ (rel_mono (rel_Q hR2 (ie_F (pt := pt) hTB hN3).2.1) (by omega)) hP hD hS (lv_sub hl [0, 1, 2, 3, 4] rfl)

set_option maxRecDepth 100000 in
set_option maxHeartbeats 4000000 in
theorem k_meanToll {p : Program} {l : Launch} {e : Env} {s : State} {m : MethodId} {below : List Frame} {meth : Method} {c : Code} {Q : State → Prop} {D : va_G} {kA ad : Nat → Nat} {m0 m1 m2 m3 m4 m5 o b L i N cells slots : Nat} {xs : Nat → Int32} (C0 : LC l p s m meth c D kA b L xs) {X : Nat → Nat → Int32} {z h tx pt kp : Nat → Int32} {w n0 r : Nat} {th rd nu du : Int32} {hs : Int64} {f : Nat → Int64} {H : Heap} {locs : List Loc} {ls : Array Slot} (hR2 : REL X z h tx w n0 r N) (hN : N + 1000 ≤ 600000) (hi : i + 4 ≤ L) (hL : L ≤ 2048) (hP : va_P D vwCl (LWd kA ad m0 m1 m2 m3 m4 m5 o X z h tx pt kp w n0 th rd nu du hs f) H) (hD : va_D (fun q => s.heap.size ≤ q) (LWd kA ad m0 m1 m2 m3 m4 m5 o X z h tx pt kp w n0 th rd nu du hs f)) (hS : va_S (fun q => s.heap.size ≤ q) s.heap H locs) (hl : lv_has ls 9 (lB ad b m0 o i)) (hroom : cells + 1 ≤ 601024 ∧ slots + 6 ≤ 7293034) (K : KT p l e s m below meth c Q D kA ad m0 m1 m2 m3 m4 m5 o b i (N + 1000) (cells + 1) (slots + 6)) : W p l e room_1 s m #[Value.ref b] below meth c H locs cells slots Q (F0 m 1622 ls []) := by
  obtain ⟨hx, hb, hml, hown, hts, hK, hXb, hbl, hX0, hLW, hnt⟩ := C0
  obtain ⟨hXz, hI, hC, hw6, hr6, h80, h81, h82, hN3, hTB, hring⟩ := id hR2
  have hn60 := hTB.1
  obtain ⟨em, hok⟩ := mt_mn hC (by omega)
  have hr9 : cells ≤ 601024 ∧ slots ≤ 7293034 := ⟨by omega, by omega⟩
  have hl : lv_has ls 9 [(0, .ref b), (1, .ref (ad 0)), (2, .ref m0), (3, .ref o), (4, .int (nI i))] := hl
  have hP : va_P D vwCl (mL kA m0 m1 m2 m3 m4 m5 z h tx pt kp (nI w) (nI n0) th (-1) rd nu du hs ++ ([(o, oO kA f)] ++ cw kA ad X)) H := hP
  have hD : va_D (fun q => s.heap.size ≤ q) (mL kA m0 m1 m2 m3 m4 m5 z h tx pt kp (nI w) (nI n0) th (-1) rd nu du hs ++ ([(o, oO kA f)] ++ cw kA ad X)) := hD
  refine lv_aload_n hx hb dL_law_1622 rfl (lv_at hl 1 rfl) ?_
  refine cs_p (runV (As := []) (rest := []) ⟨hx, hb, hml, hown, hts⟩ (m_X5_meanToll l D kA ad X ) q_239 q_240 q_241 q_1 q_242 hd_X5_meanToll ⟨rfl, rfl⟩ ⟨Nat.le_of_ble_eq_true rfl, Nat.le_of_ble_eq_true rfl⟩ hK hP.r.r hD.rt.rt _ (ci := 5) (C := RX5) (T := TX5) (N := 6) rfl (cw_arm (kA := kA) (ad := ad) (X := X)) rfl hl.1 rfl (Nat.le_of_ble_eq_true rfl) dL_law_1623 ⟨hr9.1, hr9.2⟩) ?_
  refine W_top (v' := .double (mnF z)) (congrArg Value.double (by rw [hXz]; exact em)) ?_
  refine lv_dstore (lv' := [(5, .double (mnF z)), (0, .ref b), (1, .ref (ad 0)), (2, .ref m0), (3, .ref o), (4, .int (nI i))]) hx hb dL_law_1626 hl (by decide) rfl (fun ls hl => ?_)
  refine lv_aload_n hx hb dL_law_1628 rfl (lv_at hl 3 rfl) ?_
  refine cs_fs (runV (As := []) (rest := []) ⟨hx, hb, hml, hown, hts⟩ (m_X6_meanToll l D kA m0 m1 m2 m3 m4 m5 z h tx pt kp (nI w) (nI n0) th (-1) rd nu du hs ) q_1087 q_1088 q_1089 q_7 q_1090 hd_X6_meanToll ⟨rfl, rfl⟩ ⟨Nat.le_of_ble_eq_true rfl, Nat.le_of_ble_eq_true rfl⟩ hK hP.l hD.lf 0 (ci := 6) (C := RX6) (T := TX6) (N := 13) rfl rfl rfl hl.1 rfl (Nat.le_of_ble_eq_true rfl) dL_law_1629 ⟨hr9.1, hr9.2⟩) hS (aw_D hD.lf) (fun H locs hP1 hk1 hS => ?_)
  obtain ⟨hP, hD⟩ := jL hP hD hk1 hP1 rfl
  clear hP1 hk1
  refine lv_dstore (lv' := [(7, .double (mnF z)), (5, .double (mnF z)), (0, .ref b), (1, .ref (ad 0)), (2, .ref m0), (3, .ref o), (4, .int (nI i))]) hx hb dL_law_1632 hl (by decide) rfl (fun ls hl => ?_)
  refine lv_dload hx hb dL_law_1634 (lv_at hl 1 rfl) ?_
  refine lv_dload hx hb dL_law_1636 (lv_at hl 0 rfl) ?_
  refine lv_dcmp hx hb dL_law_1638 ?_
  refine lv_if_eq (tgt := 1660) hx hb dL_law_1639 (by decide) (fun c7 => ?_) (fun c7 => absurd (dc_self mn_nan) c7)
  refine lv_goto (tgt := 1677) hx hb dL_law_1660 (by decide) ?_
  refine W.widen (k := cells + 1) (n := slots + 6) (Nat.le_succ _) (Nat.le_add_right _ _) ?_
  exact K _ _ _ _ _ _ _ _ _ _ _ _ _ _ _ _ _ _ (rel_mono hR2 (by omega)) hP hD hS (lv_sub hl [2, 3, 4, 5, 6] rfl)

set_option maxRecDepth 100000 in
set_option maxHeartbeats 4000000 in
theorem k_digest {p : Program} {l : Launch} {e : Env} {s : State} {m : MethodId} {below : List Frame} {meth : Method} {c : Code} {Q : State → Prop} {D : va_G} {kA ad : Nat → Nat} {m0 m1 m2 m3 m4 m5 o b L i N cells slots : Nat} {xs : Nat → Int32} (C0 : LC l p s m meth c D kA b L xs) {X : Nat → Nat → Int32} {z h tx pt kp : Nat → Int32} {w n0 r : Nat} {th rd nu du : Int32} {hs : Int64} {f : Nat → Int64} {H : Heap} {locs : List Loc} {ls : Array Slot} (hR2 : REL X z h tx w n0 r N) (hN : N + 1000 ≤ 600000) (hi : i + 4 ≤ L) (hL : L ≤ 2048) (hP : va_P D vwCl (LWd kA ad m0 m1 m2 m3 m4 m5 o X z h tx pt kp w n0 th rd nu du hs f) H) (hD : va_D (fun q => s.heap.size ≤ q) (LWd kA ad m0 m1 m2 m3 m4 m5 o X z h tx pt kp w n0 th rd nu du hs f)) (hS : va_S (fun q => s.heap.size ≤ q) s.heap H locs) (hl : lv_has ls 9 (lB ad b m0 o i)) (hroom : cells + 1 ≤ 601024 ∧ slots + 6 ≤ 7293034) (K : KT p l e s m below meth c Q D kA ad m0 m1 m2 m3 m4 m5 o b i (N + 1000) (cells + 1) (slots + 6)) : W p l e room_1 s m #[Value.ref b] below meth c H locs cells slots Q (F0 m 1663 ls []) := by
  obtain ⟨hx, hb, hml, hown, hts, hK, hXb, hbl, hX0, hLW, hnt⟩ := C0
  obtain ⟨hXz, hI, hC, hw6, hr6, h80, h81, h82, hN3, hTB, hring⟩ := id hR2
  have hn60 := hTB.1
  obtain ⟨em, hok⟩ := mt_mn hC (by omega)
  have hr9 : cells ≤ 601024 ∧ slots ≤ 7293034 := ⟨by omega, by omega⟩
  have hl : lv_has ls 9 [(0, .ref b), (1, .ref (ad 0)), (2, .ref m0), (3, .ref o), (4, .int (nI i))] := hl
  have hP : va_P D vwCl (mL kA m0 m1 m2 m3 m4 m5 z h tx pt kp (nI w) (nI n0) th (-1) rd nu du hs ++ ([(o, oO kA f)] ++ cw kA ad X)) H := hP
  have hD : va_D (fun q => s.heap.size ≤ q) (mL kA m0 m1 m2 m3 m4 m5 z h tx pt kp (nI w) (nI n0) th (-1) rd nu du hs ++ ([(o, oO kA f)] ++ cw kA ad X)) := hD
  refine lv_aload_n hx hb dL_law_1663 rfl (lv_at hl 1 rfl) ?_
  refine cs_fs (runV (As := []) (rest := []) ⟨hx, hb, hml, hown, hts⟩ (m_X5_digest l D kA ad X n0 h82 hn60 (by rw [hXz]; exact hok)) q_264 q_265 q_266 q_1 q_267 hd_X5_digest ⟨rfl, rfl⟩ ⟨Nat.le_of_ble_eq_true rfl, Nat.le_of_ble_eq_true rfl⟩ hK hP.r.r hD.rt.rt _ (ci := 5) (C := RX5) (T := TX5) (N := 6) rfl (cw_arm (kA := kA) (ad := ad) (X := X)) rfl hl.1 rfl (Nat.le_of_ble_eq_true rfl) dL_law_1664 ⟨hr9.1, hr9.2⟩) hS (aw_D hD.rt.rt) (fun H locs hP1 hk1 hS => ?_)
  obtain ⟨hP, hD⟩ := jRR hP hD hk1 hP1 cw_fst
  clear hP1 hk1
  refine lv_aload_n hx hb dL_law_1667 rfl (lv_at hl 2 rfl) ?_
  refine cs_fs (runV (As := []) (rest := [.long (dh5 X n0)]) ⟨hx, hb, hml, hown, hts⟩ (m_X6_digest l D kA m0 m1 m2 m3 m4 m5 z h tx pt kp (nI w) (nI n0) th (-1) rd nu du hs n0 hI rfl rfl hn60) q_1095 q_1096 q_1097 q_7 q_1098 hd_X6_digest ⟨rfl, rfl⟩ ⟨Nat.le_of_ble_eq_true rfl, Nat.le_of_ble_eq_true rfl⟩ hK hP.l hD.lf 0 (ci := 6) (C := RX6) (T := TX6) (N := 13) rfl rfl rfl hl.1 rfl (Nat.le_of_ble_eq_true rfl) dL_law_1668 ⟨hr9.1, hr9.2⟩) hS (aw_D hD.lf) (fun H locs hP1 hk1 hS => ?_)
  obtain ⟨hP, hD⟩ := jL hP hD hk1 hP1 rfl
  clear hP1 hk1
  refine W.lcmp hx hb dL_law_1671 ?_
  refine lv_if_eq (tgt := 1677) hx hb dL_law_1672 (by decide) (fun c7 => ?_) (fun c7 => absurd ((lg_cmp_eq _ _).mpr (dg_eq hR2 (by omega))) c7)
  refine W.widen (k := cells + 1) (n := slots + 6) (Nat.le_succ _) (Nat.le_add_right _ _) ?_
  exact K _ _ _ _ _ _ _ _ _ _ _ _ _ _ _ _ _ _ (rel_mono (rel_7 hR2) (by omega)) hP hD hS (lv_sub hl [0, 1, 2, 3, 4] rfl)
