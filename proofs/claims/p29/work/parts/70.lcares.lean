theorem hd_L_cares : yL_cares.cls ≠ "java/lang/invoke/MethodHandle" ∧ yL_cares.cls ≠ "java/lang/invoke/VarHandle" ∧ (parseMethodDescriptor yL_cares.desc).map (fun d => d.parameters.length) = some 8 := by decide +kernel
set_option maxRecDepth 100000 in
set_option maxHeartbeats 4000000 in
theorem m_L_cares (l : Launch) (D : va_G) (kA : Nat → Nat) (al : Nat → Nat) (ad : Nat → Nat) (X : Nat → Nat → Int32) (xx : Int32) (yy : Int32) (N : Nat) (M : Nat) (hR : RQx X N M) (hM : M + 300 ≤ 100000) : Met l yL_cares (Cond.code yL_cares cL_cares 12 (some .boolean) :: AW) ({ frames := 5, cells := 0, slots := 0, locals := 151 } : Room) (Px [.ref (ad 0), .int xx, .int yy, .ref (al 0), .ref (al 3), .ref (al 6), .ref (al 8), .ref (al 9)] D (TY kA) (lqW kA al (X 0) (X 8 1) ++ cw kA ad X)) (eQ D kA al ad N (M + 300) (lqW kA al (X 0) (X 8 1) ++ cw kA ad X)) 0 0 (Aw (lqW kA al (X 0) (X 8 1) ++ cw kA ad X)) := by
  refine MetY (by decide +kernel) (Nat.le_of_ble_eq_true rfl) ?_
  intro p e s m below meth c ls hx hb hrt hts hown hml hlk hnm hP hK hD hS hl hXW
  have hl : lv_has ls 12 [(0, .ref (ad 0)), (1, .int xx), (2, .int yy), (3, .ref (al 0)), (4, .ref (al 3)), (5, .ref (al 6)), (6, .ref (al 8)), (7, .ref (al 9))] := hl
  obtain ⟨r, w, hI, hC, hB, hr6, h80, hw6, h81⟩ := hR
  refine lv_iload_n hx hb dL_cares_0 rfl (lv_at hl 1 rfl) ?_
  refine lv_iconst (v := 5) hx hb dL_cares_1 (by decide) ?_
  refine cs_p (runS (As := [.int xx, .int 5]) (rest := []) ⟨hx, hb, hml, hown, hts⟩ (m_L_at l D kA xx 5 (by decide)) q_193 q_194 q_0 q_195 hd_L_at ⟨rfl, rfl⟩ ⟨Nat.le_of_ble_eq_true rfl, Nat.le_of_ble_eq_true rfl⟩ hK (ws := []) (fun _ _ h => by simp at h) (D0 (A := fun _ => True)) rfl hl.1 rfl (Nat.le_of_ble_eq_true rfl) dL_cares_2 ⟨Nat.zero_le _, Nat.zero_le _⟩) ?_
  obtain ⟨ac, e_ac⟩ : ∃ y9 : Int32, y9 = atF xx 5 := ⟨_, rfl⟩
  rw [← e_ac]
  refine lv_istore (lv' := [(8, .int ac), (0, .ref (ad 0)), (1, .int xx), (2, .int yy), (3, .ref (al 0)), (4, .ref (al 3)), (5, .ref (al 6)), (6, .ref (al 8)), (7, .ref (al 9))]) hx hb dL_cares_5 hl (by decide) rfl (fun ls hl => ?_)
  refine lv_iload_n hx hb dL_cares_7 rfl (lv_at hl 2 rfl) ?_
  refine lv_iconst (v := 4) hx hb dL_cares_8 (by decide) ?_
  refine lv_ishr hx hb dL_cares_9 ?_
  refine lv_iconst (v := 4) hx hb dL_cares_10 (by decide) ?_
  refine cs_p (runS (As := [.int (xx >>> (4 &&& 31)), .int 4]) (rest := []) ⟨hx, hb, hml, hown, hts⟩ (m_L_at l D kA (xx >>> (4 &&& 31)) 4 (by decide)) q_193 q_194 q_0 q_195 hd_L_at ⟨rfl, rfl⟩ ⟨Nat.le_of_ble_eq_true rfl, Nat.le_of_ble_eq_true rfl⟩ hK (ws := []) (fun _ _ h => by simp at h) (D0 (A := fun _ => True)) rfl hl.1 rfl (Nat.le_of_ble_eq_true rfl) dL_cares_11 ⟨Nat.zero_le _, Nat.zero_le _⟩) ?_
  obtain ⟨a, ha, e_a⟩ := at_in (xx >>> (4 &&& 31)) (N := 4) (by omega) (by omega)
  refine W_top (v' := .int (nI a)) (congrArg Value.int (e_a)) ?_
  refine lv_istore (lv' := [(9, .int (nI a)), (8, .int ac), (0, .ref (ad 0)), (1, .int xx), (2, .int yy), (3, .ref (al 0)), (4, .ref (al 3)), (5, .ref (al 6)), (6, .ref (al 8)), (7, .ref (al 9))]) hx hb dL_cares_14 hl (by decide) rfl (fun ls hl => ?_)
  refine lv_iload hx hb dL_cares_16 (lv_at hl 1 rfl) ?_
  refine lv_if_ne (tgt := 73) hx hb dL_cares_18 (by decide) (fun c_1 => ?_) (fun c_1 => ?_)
  · skip
    refine lv_iload hx hb dL_cares_73 (lv_at hl 1 rfl) ?_
    refine lv_iconst (v := 1) hx hb dL_cares_75 (by decide) ?_
    refine lv_icmp_ne (tgt := 134) hx hb dL_cares_76 (by decide) (fun c_2 => ?_) (fun c_2 => ?_)
    · skip
      refine lv_iload hx hb dL_cares_134 (lv_at hl 1 rfl) ?_
      refine lv_iconst (v := 2) hx hb dL_cares_136 (by decide) ?_
      refine lv_icmp_ne (tgt := 214) hx hb dL_cares_137 (by decide) (fun c_3 => ?_) (fun c_3 => ?_)
      · skip
        refine lv_iload hx hb dL_cares_214 (lv_at hl 1 rfl) ?_
        refine lv_iconst (v := 3) hx hb dL_cares_216 (by decide) ?_
        refine lv_icmp_ne (tgt := 318) hx hb dL_cares_217 (by decide) (fun c_4 => ?_) (fun c_4 => ?_)
        · skip
          refine lv_iload_n hx hb dL_cares_318 rfl (lv_at hl 4 rfl) ?_
          refine lv_bipush (v := 6) hx hb dL_cares_319 (by decide) ?_
          refine cs_p (runS (As := [.int yy, .int 6]) (rest := []) ⟨hx, hb, hml, hown, hts⟩ (m_L_at l D kA yy 6 (by decide)) q_193 q_194 q_0 q_195 hd_L_at ⟨rfl, rfl⟩ ⟨Nat.le_of_ble_eq_true rfl, Nat.le_of_ble_eq_true rfl⟩ hK (ws := []) (fun _ _ h => by simp at h) (D0 (A := fun _ => True)) rfl hl.1 rfl (Nat.le_of_ble_eq_true rfl) dL_cares_321 ⟨Nat.zero_le _, Nat.zero_le _⟩) ?_
          obtain ⟨j, hj, e_j⟩ := at_in yy (N := 6) (by omega) (by omega)
          refine W_top (v' := .int (nI j)) (congrArg Value.int (e_j)) ?_
          refine lv_istore (lv' := [(10, .int (nI j)), (9, .int (nI a)), (8, .int ac), (0, .ref (ad 0)), (1, .int xx), (2, .int yy), (3, .ref (al 0)), (4, .ref (al 3)), (5, .ref (al 6)), (6, .ref (al 8)), (7, .ref (al 9))]) hx hb dL_cares_324 hl (by decide) rfl (fun ls hl => ?_)
          refine lv_aload_n hx hb dL_cares_326 rfl (lv_at hl 6 rfl) ?_
          refine lv_iconst (v := 3) hx hb dL_cares_327 (by decide) ?_
          refine lv_iload hx hb dL_cares_328 (lv_at hl 0 rfl) ?_
          refine lv_iadd hx hb dL_cares_330 ?_
          refine va_iald (f := lqN (X 0) (X 8 1)) hx hb hK hP 0 0 lwR_0 rfl (in_nI sx (by omega) (by decide)) dL_cares_331 ?_
          refine W_top (v' := .int ((X 0) j)) (congrArg Value.int (vS sx (by omega))) ?_
          refine lv_istore (lv' := [(11, .int ((X 0) j)), (10, .int (nI j)), (9, .int (nI a)), (8, .int ac), (0, .ref (ad 0)), (1, .int xx), (2, .int yy), (3, .ref (al 0)), (4, .ref (al 3)), (5, .ref (al 6)), (6, .ref (al 8)), (7, .ref (al 9))]) hx hb dL_cares_332 hl (by decide) rfl (fun ls hl => ?_)
          refine lv_aload_n hx hb dL_cares_334 rfl (lv_at hl 7 rfl) ?_
          refine lv_iconst (v := 3) hx hb dL_cares_335 (by decide) ?_
          refine lv_iload hx hb dL_cares_336 (lv_at hl 1 rfl) ?_
          refine lv_iadd hx hb dL_cares_338 ?_
          refine lv_iload hx hb dL_cares_339 (lv_at hl 1 rfl) ?_
          refine lv_iconst (v := 1) hx hb dL_cares_341 (by decide) ?_
          have jp_342 : ∀ (v : Int32) (hiv : ivF (nI j) v = true), ∀ (H : Heap) (locs : List Loc), va_P D vwCl (lqW kA al (X 0) (X 8 1) ++ cw kA ad X) H → va_D (Aw (lqW kA al (X 0) (X 8 1) ++ cw kA ad X)) (lqW kA al (X 0) (X 8 1) ++ cw kA ad X) → va_S (Aw (lqW kA al (X 0) (X 8 1) ++ cw kA ad X)) s.heap H locs → ∀ ls : Array Slot, lv_has ls 12 [(0, .ref (ad 0)), (1, .int xx), (2, .int yy), (3, .ref (al 0)), (4, .ref (al 3)), (5, .ref (al 6)), (6, .ref (al 8)), (7, .ref (al 9)), (8, .int ac), (9, .int (nI a)), (10, .int (nI j)), (11, .int ((X 0) j))] → W p l e ({ frames := 5, cells := 0, slots := 0, locals := 151 } : Room) s m [.ref (ad 0), .int xx, .int yy, .ref (al 0), .ref (al 3), .ref (al 6), .ref (al 8), .ref (al 9)].toArray below meth c H locs 0 0 (MQ below (eQ D kA al ad N (M + 300) (lqW kA al (X 0) (X 8 1) ++ cw kA ad X)) [.ref (ad 0), .int xx, .int yy, .ref (al 0), .ref (al 3), .ref (al 6), .ref (al 8), .ref (al 9)].toArray s 0 0 (Aw (lqW kA al (X 0) (X 8 1) ++ cw kA ad X))) (F0 m 385 ls [.int v, .int (3 + (nI j)), .ref (al 0)]) := by
            intro v hiv H locs hP hD hS ls hl
            refine va_iast (f := lqN (X 0) (X 8 1)) hx hb hK hP hD hS 0 0 lwR_0 rfl (in_nI sx (by omega) (by decide)) dL_cares_385 (fun H locs hP hD hS => ?_)
            rw [sx, nI_clamp (by omega)] at hP hD
            rw [set_ap (by omega), sn_s (by omega)] at hP hD
            have hP : va_P D vwCl (lqW kA al (upd (X 0) j v) (X 8 1) ++ cw kA ad X) H := hP
            have hD : va_D (Aw (lqW kA al (X 0) (X 8 1) ++ cw kA ad X)) (lqW kA al (upd (X 0) j v) (X 8 1) ++ cw kA ad X) := hD
            obtain ⟨z1, e_z1⟩ : ∃ y : Nat → Int32, y = upd (X 0) j v := ⟨_, rfl⟩
            rw [← e_z1] at hP hD
            refine lv_aload_n hx hb dL_cares_386 rfl (lv_at hl 3 rfl) ?_
            refine lv_iconst (v := 2) hx hb dL_cares_387 (by decide) ?_
            refine va_iald (f := lqN z1 (X 8 1)) hx hb hK hP 0 0 lwR_0 rfl (in_nI (j := 2) rfl (by omega) (by decide)) dL_cares_388 ?_
            refine W_top (v' := .int (X 8 1)) (rfl) ?_
            refine lv_bipush (v := 6) hx hb dL_cares_389 (by decide) ?_
            have jp_391 : ∀ (H : Heap) (locs : List Loc), va_P D vwCl (lqW kA al z1 (kpU (X 8 1)) ++ cw kA ad X) H → va_D (Aw (lqW kA al (X 0) (X 8 1) ++ cw kA ad X)) (lqW kA al z1 (kpU (X 8 1)) ++ cw kA ad X) → va_S (Aw (lqW kA al (X 0) (X 8 1) ++ cw kA ad X)) s.heap H locs → ∀ ls : Array Slot, lv_has ls 12 [(0, .ref (ad 0)), (1, .int xx), (2, .int yy), (3, .ref (al 0)), (4, .ref (al 3)), (5, .ref (al 6)), (6, .ref (al 8)), (7, .ref (al 9)), (8, .int ac), (9, .int (nI a)), (10, .int (nI j)), (11, .int ((X 0) j))] → W p l e ({ frames := 5, cells := 0, slots := 0, locals := 151 } : Room) s m [.ref (ad 0), .int xx, .int yy, .ref (al 0), .ref (al 3), .ref (al 6), .ref (al 8), .ref (al 9)].toArray below meth c H locs 0 0 (MQ below (eQ D kA al ad N (M + 300) (lqW kA al (X 0) (X 8 1) ++ cw kA ad X)) [.ref (ad 0), .int xx, .int yy, .ref (al 0), .ref (al 3), .ref (al 6), .ref (al 8), .ref (al 9)].toArray s 0 0 (Aw (lqW kA al (X 0) (X 8 1) ++ cw kA ad X))) (F0 m 401 ls []) := by
              intro   H locs hP hD hS ls hl
              refine lv_aload_n hx hb dL_cares_401 rfl (lv_at hl 0 rfl) ?_
              refine lv_iload hx hb dL_cares_402 (lv_at hl 10 rfl) ?_
              refine lv_aload_n hx hb dL_cares_404 rfl (lv_at hl 3 rfl) ?_
              refine lv_iconst (v := 3) hx hb dL_cares_405 (by decide) ?_
              refine lv_iload hx hb dL_cares_406 (lv_at hl 10 rfl) ?_
              refine lv_iadd hx hb dL_cares_408 ?_
              refine va_iald (f := lqN z1 (kpU (X 8 1))) hx hb hK hP 0 0 lwR_0 rfl (in_nI sx (by omega) (by decide)) dL_cares_409 ?_
              refine W_top (v' := .int (z1 j)) (congrArg Value.int (vS sx (by omega))) ?_
              refine W_top (v' := .int (v)) (congrArg Value.int (by rw [e_z1, upd_s])) ?_
              refine cs_fs (yrunV (As := [.int (nI j), .int v]) (rest := []) ⟨hx, hb, hml, hown, hts⟩ (m_X5_set_p l D kA ad X (nI j) v j r (rfl) (hj) (nI_pos (by omega)) ((nI_ltI (b := 6) (by omega) (by omega)).mpr hj) (hiv) (h80) (hr6)) q_498 q_499 q_500 q_1 q_501 hd_X5_set ⟨rfl, rfl⟩ ⟨Nat.le_of_ble_eq_true rfl, Nat.le_of_ble_eq_true rfl⟩ hK (ws := (cw kA ad X)) hP.r hD.rt (XW.narrow (hXW.kept hS.2.1) (fun q h => Aw.rt q (cw_Aw h))) _ (ci := 5) (C := RX5) (T := TX5) (N := 6) rfl cw_arm rfl hl.1 rfl (Nat.le_of_ble_eq_true rfl) dL_cares_410 ⟨Nat.zero_le _, Nat.zero_le _⟩) hS (fun q h => Aw.rt q (cw_Aw h)) (fun H locs hP1 hk1 hS => ?_)
              obtain ⟨hP, hD⟩ := jR (b' := cw kA ad (up2 (svX X r) 0 (rpF (X 0) (nI j) v))) hP hD hk1 hP1 cw_fst
              clear hk1 hP1
              refine lv_iload hx hb dL_cares_413 (lv_at hl 11 rfl) ?_
              refine lv_icmp_ne (tgt := 422) hx hb dL_cares_415 (by decide) (fun c_5 => ?_) (fun c_5 => ?_)
              · exact absurd c_5 (fun h => h (by rw [rv_z (wj5 hj), nI_clamp (by omega)]))
              · skip
                refine lv_iconst (v := 1) hx hb dL_cares_418 (by decide) ?_
                refine lv_goto (tgt := 423) hx hb dL_cares_419 (by decide) ?_
                exact end_e (X' := up2 (svX X r) 0 (rpF (X 0) (nI j) v)) hx hb hrt hlk hP hS (rq_sv (w := w) ⟨hI, hC, hB, hr6, h80, hw6, h81⟩ (by rw [rp_j hj]; exact Inv_st hI hj hiv) (by rw [rp_j hj]; exact CB_up hC (by omega)) (by rw [rp_j hj, upd_ne (by omega)]; exact bd_mono hB (by omega))) (rq_w (by rw [rp_j hj]; exact e_z1) rfl) dL_cares_423
            refine lv_icmp_ge (tgt := 401) hx hb dL_cares_391 (by decide) (fun c_6 => ?_) (fun c_6 => ?_)
            · skip
              replace c_6 := ge_n c_6
              have hP : va_P D vwCl (lqW kA al z1 (kpU (X 8 1)) ++ cw kA ad X) _ := Pcg (by rw [← kp_n h81 hw6 c_6]) hP
              have hD : va_D (Aw (lqW kA al (X 0) (X 8 1) ++ cw kA ad X)) (lqW kA al z1 (kpU (X 8 1)) ++ cw kA ad X) := Dcg (by rw [← kp_n h81 hw6 c_6]) hD
              exact jp_391   _ _ hP hD hS ls (lv_sub hl [0, 1, 2, 3, 4, 5, 6, 7, 8, 9, 10, 11] rfl)
            · skip
              replace c_6 := nge_l c_6
              refine lv_aload_n hx hb dL_cares_394 rfl (lv_at hl 3 rfl) ?_
              refine lv_iconst (v := 2) hx hb dL_cares_395 (by decide) ?_
              refine lv_dup2_11 hx hb dL_cares_396 rfl rfl ?_
              refine va_iald (f := lqN z1 (X 8 1)) hx hb hK hP 0 0 lwR_0 rfl (in_nI (j := 2) rfl (by omega) (by decide)) dL_cares_397 ?_
              refine W_top (v' := .int (X 8 1)) (rfl) ?_
              refine lv_iconst (v := 1) hx hb dL_cares_398 (by decide) ?_
              refine lv_iadd hx hb dL_cares_399 ?_
              refine va_iast (f := lqN z1 (X 8 1)) hx hb hK hP hD hS 0 0 lwR_0 rfl (in_nI (j := 2) rfl (by omega) (by decide)) dL_cares_400 (fun H locs hP hD hS => ?_)
              rw [show (2 : Int32).toNatClampNeg = 2 from rfl] at hP hD
              rw [set_ap (by omega), sn_2] at hP hD
              have hP : va_P D vwCl (lqW kA al z1 ((X 8 1) + 1) ++ cw kA ad X) H := hP
              have hD : va_D (Aw (lqW kA al (X 0) (X 8 1) ++ cw kA ad X)) (lqW kA al z1 ((X 8 1) + 1) ++ cw kA ad X) := hD
              have hP : va_P D vwCl (lqW kA al z1 (kpU (X 8 1)) ++ cw kA ad X) _ := Pcg (by rw [kp_y h81 hw6 c_6]) hP
              have hD : va_D (Aw (lqW kA al (X 0) (X 8 1) ++ cw kA ad X)) (lqW kA al z1 (kpU (X 8 1)) ++ cw kA ad X) := Dcg (by rw [kp_y h81 hw6 c_6]) hD
              exact jp_391   _ _ hP hD hS ls (lv_sub hl [0, 1, 2, 3, 4, 5, 6, 7, 8, 9, 10, 11] rfl)
          refine lv_icmp_ne (tgt := 358) hx hb dL_cares_342 (by decide) (fun c_7 => ?_) (fun c_7 => ?_)
          · skip
            refine lv_iload hx hb dL_cares_358 (lv_at hl 1 rfl) ?_
            refine lv_iconst (v := 2) hx hb dL_cares_360 (by decide) ?_
            refine lv_icmp_ne (tgt := 377) hx hb dL_cares_361 (by decide) (fun c_8 => ?_) (fun c_8 => ?_)
            · skip
              refine lv_iload_n hx hb dL_cares_377 rfl (lv_at hl 6 rfl) ?_
              refine lv_iconst (v := 3) hx hb dL_cares_378 (by decide) ?_
              refine lv_ishr hx hb dL_cares_379 ?_
              refine lv_bipush (v := 21) hx hb dL_cares_380 (by decide) ?_
              refine cs_p (runS (As := [.int (yy >>> (3 &&& 31)), .int 21]) (rest := [.int (3 + (nI j)), .ref (al 0)]) ⟨hx, hb, hml, hown, hts⟩ (m_L_at l D kA (yy >>> (3 &&& 31)) 21 (by decide)) q_193 q_194 q_0 q_195 hd_L_at ⟨rfl, rfl⟩ ⟨Nat.le_of_ble_eq_true rfl, Nat.le_of_ble_eq_true rfl⟩ hK (ws := []) (fun _ _ h => by simp at h) (D0 (A := fun _ => True)) rfl hl.1 rfl (Nat.le_of_ble_eq_true rfl) dL_cares_382 ⟨Nat.zero_le _, Nat.zero_le _⟩) ?_
              obtain ⟨k9, hk9, e_k9⟩ := at_in (yy >>> (3 &&& 31)) (N := 21) (by omega) (by omega)
              refine W_top (v' := .int (nI k9)) (congrArg Value.int (e_k9)) ?_
              exact jp_342 (nI k9) (iv_0 hj c_7 c_8 hk9) _ _ hP hD hS ls (lv_sub hl [4, 5, 6, 7, 8, 9, 10, 11, 3, 2, 1, 0] rfl)
            · skip
              refine lv_iconst (v := 1) hx hb dL_cares_364 (by decide) ?_
              refine lv_iload_n hx hb dL_cares_365 rfl (lv_at hl 6 rfl) ?_
              refine lv_iconst (v := 3) hx hb dL_cares_366 (by decide) ?_
              refine lv_ishr hx hb dL_cares_367 ?_
              refine lv_bipush (v := 60) hx hb dL_cares_368 (by decide) ?_
              refine cs_p (runS (As := [.int (yy >>> (3 &&& 31)), .int 60]) (rest := [.int 1, .int (3 + (nI j)), .ref (al 0)]) ⟨hx, hb, hml, hown, hts⟩ (m_L_at l D kA (yy >>> (3 &&& 31)) 60 (by decide)) q_193 q_194 q_0 q_195 hd_L_at ⟨rfl, rfl⟩ ⟨Nat.le_of_ble_eq_true rfl, Nat.le_of_ble_eq_true rfl⟩ hK (ws := []) (fun _ _ h => by simp at h) (D0 (A := fun _ => True)) rfl hl.1 rfl (Nat.le_of_ble_eq_true rfl) dL_cares_370 ⟨Nat.zero_le _, Nat.zero_le _⟩) ?_
              refine lv_iadd hx hb dL_cares_373 ?_
              refine lv_goto (tgt := 385) hx hb dL_cares_374 (by decide) ?_
              obtain ⟨k9, hk91, hk92, e_k9⟩ := at1_in (yy >>> (3 &&& 31)) (N := 60) (by omega) (by omega)
              refine W_top (v' := .int (nI k9)) (congrArg Value.int (e_k9)) ?_
              exact jp_342 (nI k9) (iv_2 hj c_8 hk91 hk92) _ _ hP hD hS ls (lv_sub hl [4, 5, 6, 7, 8, 9, 10, 11, 3, 2, 1, 0] rfl)
          · skip
            refine lv_iconst (v := 1) hx hb dL_cares_345 (by decide) ?_
            refine lv_iload_n hx hb dL_cares_346 rfl (lv_at hl 6 rfl) ?_
            refine lv_iconst (v := 3) hx hb dL_cares_347 (by decide) ?_
            refine lv_ishr hx hb dL_cares_348 ?_
            refine lv_bipush (v := 50) hx hb dL_cares_349 (by decide) ?_
            refine cs_p (runS (As := [.int (yy >>> (3 &&& 31)), .int 50]) (rest := [.int 1, .int (3 + (nI j)), .ref (al 0)]) ⟨hx, hb, hml, hown, hts⟩ (m_L_at l D kA (yy >>> (3 &&& 31)) 50 (by decide)) q_193 q_194 q_0 q_195 hd_L_at ⟨rfl, rfl⟩ ⟨Nat.le_of_ble_eq_true rfl, Nat.le_of_ble_eq_true rfl⟩ hK (ws := []) (fun _ _ h => by simp at h) (D0 (A := fun _ => True)) rfl hl.1 rfl (Nat.le_of_ble_eq_true rfl) dL_cares_351 ⟨Nat.zero_le _, Nat.zero_le _⟩) ?_
            refine lv_iadd hx hb dL_cares_354 ?_
            refine lv_goto (tgt := 385) hx hb dL_cares_355 (by decide) ?_
            obtain ⟨k9, hk91, hk92, e_k9⟩ := at1_in (yy >>> (3 &&& 31)) (N := 50) (by omega) (by omega)
            refine W_top (v' := .int (nI k9)) (congrArg Value.int (e_k9)) ?_
            exact jp_342 (nI k9) (iv_1 hj c_7 hk91 hk92) _ _ hP hD hS ls (lv_sub hl [4, 5, 6, 7, 8, 9, 10, 11, 3, 2, 1, 0] rfl)
        · skip
          refine lv_iload_n hx hb dL_cares_220 rfl (lv_at hl 4 rfl) ?_
          refine lv_bipush (v := 24) hx hb dL_cares_221 (by decide) ?_
          refine cs_p (runS (As := [.int yy, .int 24]) (rest := []) ⟨hx, hb, hml, hown, hts⟩ (m_L_at l D kA yy 24 (by decide)) q_193 q_194 q_0 q_195 hd_L_at ⟨rfl, rfl⟩ ⟨Nat.le_of_ble_eq_true rfl, Nat.le_of_ble_eq_true rfl⟩ hK (ws := []) (fun _ _ h => by simp at h) (D0 (A := fun _ => True)) rfl hl.1 rfl (Nat.le_of_ble_eq_true rfl) dL_cares_223 ⟨Nat.zero_le _, Nat.zero_le _⟩) ?_
          obtain ⟨t, ht, e_t⟩ := at_in yy (N := 24) (by omega) (by omega)
          refine W_top (v' := .int (nI t)) (congrArg Value.int (e_t)) ?_
          refine lv_istore (lv' := [(10, .int (nI t)), (9, .int (nI a)), (8, .int ac), (0, .ref (ad 0)), (1, .int xx), (2, .int yy), (3, .ref (al 0)), (4, .ref (al 3)), (5, .ref (al 6)), (6, .ref (al 8)), (7, .ref (al 9))]) hx hb dL_cares_226 hl (by decide) rfl (fun ls hl => ?_)
          refine lv_aload hx hb dL_cares_228 (lv_at hl 9 rfl) ?_
          refine lv_aload hx hb dL_cares_230 (lv_at hl 10 rfl) ?_
          refine lv_iload hx hb dL_cares_232 (lv_at hl 1 rfl) ?_
          refine lv_iload hx hb dL_cares_234 (lv_at hl 0 rfl) ?_
          refine cs_p (runS (As := [.ref (al 8), .ref (al 9), .int (nI a), .int (nI t)]) (rest := []) ⟨hx, hb, hml, hown, hts⟩ (m_L_wear l D kA al (X 0) (X 8 1) a t (ha) (ht)) q_202 q_203 q_0 q_204 hd_L_wear ⟨rfl, rfl⟩ ⟨Nat.le_of_ble_eq_true rfl, Nat.le_of_ble_eq_true rfl⟩ hK (ws := (lqW kA al (X 0) (X 8 1))) hP.l hD.lf rfl hl.1 rfl (Nat.le_of_ble_eq_true rfl) dL_cares_236 ⟨Nat.zero_le _, Nat.zero_le _⟩) ?_
          refine lv_aload_n hx hb dL_cares_239 rfl (lv_at hl 6 rfl) ?_
          refine lv_bipush (v := 6) hx hb dL_cares_240 (by decide) ?_
          refine va_iald (f := lqN (X 0) (X 8 1)) hx hb hK hP 0 0 lwR_0 rfl (in_nI (j := 6) rfl (by omega) (by decide)) dL_cares_242 ?_
          refine W_top (v' := .int ((X 0) 3)) (rfl) ?_
          refine lv_imul hx hb dL_cares_243 ?_
          obtain ⟨co, e_co⟩ : ∃ y9 : Int32, y9 = gwr (sl (X 0) a) (nI t) * X 0 3 := ⟨_, rfl⟩
          refine W_top (v' := .int (co)) (congrArg Value.int (e_co.symm)) ?_
          refine lv_istore (lv' := [(11, .int co), (10, .int (nI t)), (9, .int (nI a)), (8, .int ac), (0, .ref (ad 0)), (1, .int xx), (2, .int yy), (3, .ref (al 0)), (4, .ref (al 3)), (5, .ref (al 6)), (6, .ref (al 8)), (7, .ref (al 9))]) hx hb dL_cares_244 hl (by decide) rfl (fun ls hl => ?_)
          refine lv_aload_n hx hb dL_cares_246 rfl (lv_at hl 7 rfl) ?_
          refine lv_iconst (v := 0) hx hb dL_cares_247 (by decide) ?_
          refine va_iald (f := lqN (X 0) (X 8 1)) hx hb hK hP 0 0 lwR_0 rfl (in_nI (j := 0) rfl (by omega) (by decide)) dL_cares_248 ?_
          refine W_top (v' := .int ((X 0) 6)) (rfl) ?_
          refine lv_iload hx hb dL_cares_249 (lv_at hl 0 rfl) ?_
          refine lv_icmp_ge (tgt := 256) hx hb dL_cares_251 (by decide) (fun c_9 => ?_) (fun c_9 => ?_)
          · skip
            replace c_9 := ge_n c_9
            have hme : ¬ X 0 6 < co := c_9
            refine lv_aload_n hx hb dL_cares_256 rfl (lv_at hl 7 rfl) ?_
            refine lv_iconst (v := 0) hx hb dL_cares_257 (by decide) ?_
            refine lv_dup2_11 hx hb dL_cares_258 rfl rfl ?_
            refine va_iald (f := lqN (X 0) (X 8 1)) hx hb hK hP 0 0 lwR_0 rfl (in_nI (j := 0) rfl (by omega) (by decide)) dL_cares_259 ?_
            refine W_top (v' := .int ((X 0) 6)) (rfl) ?_
            refine lv_iload hx hb dL_cares_260 (lv_at hl 0 rfl) ?_
            refine lv_isub hx hb dL_cares_262 ?_
            refine va_iast (f := lqN (X 0) (X 8 1)) hx hb hK hP hD hS 0 0 lwR_0 rfl (in_nI (j := 0) rfl (by omega) (by decide)) dL_cares_263 (fun H locs hP hD hS => ?_)
            rw [show (0 : Int32).toNatClampNeg = 0 from rfl] at hP hD
            rw [set_ap (by omega), sn_0] at hP hD
            have hP : va_P D vwCl (lqW kA al (upd (X 0) 6 (((X 0) 6) - co)) (X 8 1) ++ cw kA ad X) H := hP
            have hD : va_D (Aw (lqW kA al (X 0) (X 8 1) ++ cw kA ad X)) (lqW kA al (upd (X 0) 6 (((X 0) 6) - co)) (X 8 1) ++ cw kA ad X) := hD
            obtain ⟨z1, e_z1⟩ : ∃ y : Nat → Int32, y = upd (X 0) 6 (((X 0) 6) - co) := ⟨_, rfl⟩
            rw [← e_z1] at hP hD
            refine lv_aload_n hx hb dL_cares_264 rfl (lv_at hl 7 rfl) ?_
            refine lv_iconst (v := 1) hx hb dL_cares_265 (by decide) ?_
            refine lv_dup2_11 hx hb dL_cares_266 rfl rfl ?_
            refine va_iald (f := lqN z1 (X 8 1)) hx hb hK hP 0 0 lwR_0 rfl (in_nI (j := 1) rfl (by omega) (by decide)) dL_cares_267 ?_
            refine W_top (v' := .int (z1 7)) (rfl) ?_
            refine lv_iload hx hb dL_cares_268 (lv_at hl 0 rfl) ?_
            refine lv_iadd hx hb dL_cares_270 ?_
            refine va_iast (f := lqN z1 (X 8 1)) hx hb hK hP hD hS 0 0 lwR_0 rfl (in_nI (j := 1) rfl (by omega) (by decide)) dL_cares_271 (fun H locs hP hD hS => ?_)
            rw [show (1 : Int32).toNatClampNeg = 1 from rfl] at hP hD
            rw [set_ap (by omega), sn_1] at hP hD
            have hP : va_P D vwCl (lqW kA al (upd z1 7 ((z1 7) + co)) (X 8 1) ++ cw kA ad X) H := hP
            have hD : va_D (Aw (lqW kA al (X 0) (X 8 1) ++ cw kA ad X)) (lqW kA al (upd z1 7 ((z1 7) + co)) (X 8 1) ++ cw kA ad X) := hD
            obtain ⟨z2, e_z2⟩ : ∃ y : Nat → Int32, y = upd z1 7 ((z1 7) + co) := ⟨_, rfl⟩
            rw [← e_z2] at hP hD
            have hz2 : z2 = payZ (X 0) co := by rw [e_z2, e_z1]; rfl
            refine lv_aload hx hb dL_cares_272 (lv_at hl 10 rfl) ?_
            refine lv_aload hx hb dL_cares_274 (lv_at hl 11 rfl) ?_
            refine lv_iload hx hb dL_cares_276 (lv_at hl 2 rfl) ?_
            refine lv_iload hx hb dL_cares_278 (lv_at hl 1 rfl) ?_
            refine lv_iconst (v := 0) hx hb dL_cares_280 (by decide) ?_
            refine cs_fn (runS (As := [.ref (al 8), .ref (al 9), .int (nI a), .int (nI t), .int 0]) (rest := []) ⟨hx, hb, hml, hown, hts⟩ (m_L_setWear l D kA al z2 (X 8 1) a t 0 (ha) (ht)) q_214 q_215 q_0 q_216 hd_L_setWear ⟨rfl, rfl⟩ ⟨Nat.le_of_ble_eq_true rfl, Nat.le_of_ble_eq_true rfl⟩ hK (ws := (lqW kA al z2 (X 8 1))) hP.l hD.lf rfl hl.1 rfl (Nat.le_of_ble_eq_true rfl) dL_cares_281 ⟨Nat.zero_le _, Nat.zero_le _⟩) hS (fun q h => Aw.lf q (lw_Aw h)) (fun H locs hP1 hk1 hS => ?_)
            obtain ⟨hP, hD⟩ := jL (a' := (lqW kA al (puZ z2 a (t + 11) 0) (X 8 1))) hP hD hk1 hP1 lw_fst
            clear hk1 hP1
            obtain ⟨z3, e_z3⟩ : ∃ y : Nat → Int32, y = puZ z2 a (t + 11) 0 := ⟨_, rfl⟩
            rw [← e_z3] at hP hD
            refine lv_aload_n hx hb dL_cares_284 rfl (lv_at hl 7 rfl) ?_
            refine lv_iconst (v := 2) hx hb dL_cares_285 (by decide) ?_
            refine va_iald (f := lqN z3 (X 8 1)) hx hb hK hP 0 0 lwR_0 rfl (in_nI (j := 2) rfl (by omega) (by decide)) dL_cares_286 ?_
            refine W_top (v' := .int ((X 8 1))) (rfl) ?_
            refine lv_bipush (v := 6) hx hb dL_cares_287 (by decide) ?_
            have jp_289 : ∀ (H : Heap) (locs : List Loc), va_P D vwCl (lqW kA al z3 (kpU (X 8 1)) ++ cw kA ad X) H → va_D (Aw (lqW kA al (X 0) (X 8 1) ++ cw kA ad X)) (lqW kA al z3 (kpU (X 8 1)) ++ cw kA ad X) → va_S (Aw (lqW kA al (X 0) (X 8 1) ++ cw kA ad X)) s.heap H locs → ∀ ls : Array Slot, lv_has ls 12 [(0, .ref (ad 0)), (1, .int xx), (2, .int yy), (3, .ref (al 0)), (4, .ref (al 3)), (5, .ref (al 6)), (6, .ref (al 8)), (7, .ref (al 9)), (8, .int ac), (9, .int (nI a)), (10, .int (nI t)), (11, .int co)] → W p l e ({ frames := 5, cells := 0, slots := 0, locals := 151 } : Room) s m [.ref (ad 0), .int xx, .int yy, .ref (al 0), .ref (al 3), .ref (al 6), .ref (al 8), .ref (al 9)].toArray below meth c H locs 0 0 (MQ below (eQ D kA al ad N (M + 300) (lqW kA al (X 0) (X 8 1) ++ cw kA ad X)) [.ref (ad 0), .int xx, .int yy, .ref (al 0), .ref (al 3), .ref (al 6), .ref (al 8), .ref (al 9)].toArray s 0 0 (Aw (lqW kA al (X 0) (X 8 1) ++ cw kA ad X))) (F0 m 299 ls []) := by
              intro   H locs hP hD hS ls hl
              refine lv_aload_n hx hb dL_cares_299 rfl (lv_at hl 0 rfl) ?_
              refine lv_iload hx hb dL_cares_300 (lv_at hl 9 rfl) ?_
              refine lv_iload hx hb dL_cares_302 (lv_at hl 10 rfl) ?_
              refine cs_fs (runV (As := [.int (nI a), .int (nI t)]) (rest := []) ⟨hx, hb, hml, hown, hts⟩ (m_X5_mend_p l D kA ad X a (nI a) (nI t) r (rfl) (ha) (h80) (hr6) (nI_pos (by omega)) ((nI_ltI (b := 24) (by omega) (by omega)).mpr ht) (wt23 ht) (by rw [← e_co]; exact hme)) q_487 q_488 q_489 q_1 q_490 hd_X5_mend ⟨rfl, rfl⟩ ⟨Nat.le_of_ble_eq_true rfl, Nat.le_of_ble_eq_true rfl⟩ hK (ws := (cw kA ad X)) hP.r hD.rt _ (ci := 5) (C := RX5) (T := TX5) (N := 6) rfl cw_arm rfl hl.1 rfl (Nat.le_of_ble_eq_true rfl) dL_cares_304 ⟨Nat.zero_le _, Nat.zero_le _⟩) hS (fun q h => Aw.rt q (cw_Aw h)) (fun H locs hP1 hk1 hS => ?_)
              obtain ⟨hP, hD⟩ := jR (b' := cw kA ad (up2 (svX X r) 0 (puZ (payZ (X 0) (gwr (sl (X 0) a) (nI t) * X 0 3)) a ((nI t).toNatClampNeg + 11) 0))) hP hD hk1 hP1 cw_fst
              clear hk1 hP1
              refine lv_iload hx hb dL_cares_307 (lv_at hl 11 rfl) ?_
              refine lv_icmp_ne (tgt := 316) hx hb dL_cares_309 (by decide) (fun c_10 => ?_) (fun c_10 => ?_)
              · exact absurd c_10 (fun h => h e_co.symm)
              · skip
                refine lv_iconst (v := 1) hx hb dL_cares_312 (by decide) ?_
                refine lv_goto (tgt := 317) hx hb dL_cares_313 (by decide) ?_
                exact end_e (X' := up2 (svX X r) 0 (puZ (payZ (X 0) (gwr (sl (X 0) a) (nI t) * X 0 3)) a ((nI t).toNatClampNeg + 11) 0)) hx hb hrt hlk hP hS (rq_sv (w := w) ⟨hI, hC, hB, hr6, h80, hw6, h81⟩ (Inv_md hI ha ht (e_co ▸ hme)) (CB_md hC ha ht) (bd_mono (pb_md hI ha ht hB (by omega) (e_co ▸ hme)) (by omega))) (rq_w (by rw [e_z3, hz2, e_co, nI_clamp (by omega)]) rfl) dL_cares_317
            refine lv_icmp_ge (tgt := 299) hx hb dL_cares_289 (by decide) (fun c_11 => ?_) (fun c_11 => ?_)
            · skip
              replace c_11 := ge_n c_11
              have hP : va_P D vwCl (lqW kA al z3 (kpU (X 8 1)) ++ cw kA ad X) _ := Pcg (by rw [← kp_n h81 hw6 c_11]) hP
              have hD : va_D (Aw (lqW kA al (X 0) (X 8 1) ++ cw kA ad X)) (lqW kA al z3 (kpU (X 8 1)) ++ cw kA ad X) := Dcg (by rw [← kp_n h81 hw6 c_11]) hD
              exact jp_289   _ _ hP hD hS ls (lv_sub hl [4, 5, 6, 7, 8, 9, 10, 11, 3, 2, 1, 0] rfl)
            · skip
              replace c_11 := nge_l c_11
              refine lv_aload_n hx hb dL_cares_292 rfl (lv_at hl 7 rfl) ?_
              refine lv_iconst (v := 2) hx hb dL_cares_293 (by decide) ?_
              refine lv_dup2_11 hx hb dL_cares_294 rfl rfl ?_
              refine va_iald (f := lqN z3 (X 8 1)) hx hb hK hP 0 0 lwR_0 rfl (in_nI (j := 2) rfl (by omega) (by decide)) dL_cares_295 ?_
              refine W_top (v' := .int ((X 8 1))) (rfl) ?_
              refine lv_iconst (v := 1) hx hb dL_cares_296 (by decide) ?_
              refine lv_iadd hx hb dL_cares_297 ?_
              refine va_iast (f := lqN z3 (X 8 1)) hx hb hK hP hD hS 0 0 lwR_0 rfl (in_nI (j := 2) rfl (by omega) (by decide)) dL_cares_298 (fun H locs hP hD hS => ?_)
              rw [show (2 : Int32).toNatClampNeg = 2 from rfl] at hP hD
              rw [set_ap (by omega), sn_2] at hP hD
              have hP : va_P D vwCl (lqW kA al z3 ((X 8 1) + 1) ++ cw kA ad X) H := hP
              have hD : va_D (Aw (lqW kA al (X 0) (X 8 1) ++ cw kA ad X)) (lqW kA al z3 ((X 8 1) + 1) ++ cw kA ad X) := hD
              have hP : va_P D vwCl (lqW kA al z3 (kpU (X 8 1)) ++ cw kA ad X) _ := Pcg (by rw [kp_y h81 hw6 c_11]) hP
              have hD : va_D (Aw (lqW kA al (X 0) (X 8 1) ++ cw kA ad X)) (lqW kA al z3 (kpU (X 8 1)) ++ cw kA ad X) := Dcg (by rw [kp_y h81 hw6 c_11]) hD
              exact jp_289   _ _ hP hD hS ls (lv_sub hl [4, 5, 6, 7, 8, 9, 10, 11, 3, 2, 1, 0] rfl)
          · skip
            replace c_9 := nge_l c_9
            refine lv_iconst (v := 1) hx hb dL_cares_254 (by decide) ?_
            exact end_e (X' := X) hx hb hrt hlk hP hS ⟨r, w, hI, hC, bd_mono hB (by omega), hr6, h80, hw6, h81⟩ rfl dL_cares_255
      · skip
        refine lv_aload_n hx hb dL_cares_140 rfl (lv_at hl 5 rfl) ?_
        refine lv_iconst (v := 0) hx hb dL_cares_141 (by decide) ?_
        refine va_iald (f := lqN (X 0) (X 8 1)) hx hb hK hP 0 0 lwR_0 rfl (in_nI (j := 0) rfl (by omega) (by decide)) dL_cares_142 ?_
        refine W_top (v' := .int ((X 0) 6)) (rfl) ?_
        refine lv_aload_n hx hb dL_cares_143 rfl (lv_at hl 5 rfl) ?_
        refine lv_bipush (v := 8) hx hb dL_cares_144 (by decide) ?_
        refine va_iald (f := lqN (X 0) (X 8 1)) hx hb hK hP 0 0 lwR_0 rfl (in_nI (j := 8) rfl (by omega) (by decide)) dL_cares_146 ?_
        refine W_top (v' := .int ((X 0) 5)) (rfl) ?_
        refine lv_icmp_ge (tgt := 152) hx hb dL_cares_147 (by decide) (fun c_12 => ?_) (fun c_12 => ?_)
        · skip
          replace c_12 := ge_n c_12
          have hge : ¬ X 0 6 < X 0 5 := c_12
          have hgs : gsF (X 0) = true := if_neg hge
          refine lv_aload_n hx hb dL_cares_152 rfl (lv_at hl 5 rfl) ?_
          refine lv_iconst (v := 0) hx hb dL_cares_153 (by decide) ?_
          refine lv_dup2_11 hx hb dL_cares_154 rfl rfl ?_
          refine va_iald (f := lqN (X 0) (X 8 1)) hx hb hK hP 0 0 lwR_0 rfl (in_nI (j := 0) rfl (by omega) (by decide)) dL_cares_155 ?_
          refine W_top (v' := .int ((X 0) 6)) (rfl) ?_
          refine lv_aload_n hx hb dL_cares_156 rfl (lv_at hl 5 rfl) ?_
          refine lv_bipush (v := 8) hx hb dL_cares_157 (by decide) ?_
          refine va_iald (f := lqN (X 0) (X 8 1)) hx hb hK hP 0 0 lwR_0 rfl (in_nI (j := 8) rfl (by omega) (by decide)) dL_cares_159 ?_
          refine W_top (v' := .int ((X 0) 5)) (rfl) ?_
          refine lv_isub hx hb dL_cares_160 ?_
          refine va_iast (f := lqN (X 0) (X 8 1)) hx hb hK hP hD hS 0 0 lwR_0 rfl (in_nI (j := 0) rfl (by omega) (by decide)) dL_cares_161 (fun H locs hP hD hS => ?_)
          rw [show (0 : Int32).toNatClampNeg = 0 from rfl] at hP hD
          rw [set_ap (by omega), sn_0] at hP hD
          have hP : va_P D vwCl (lqW kA al (upd (X 0) 6 (((X 0) 6) - ((X 0) 5))) (X 8 1) ++ cw kA ad X) H := hP
          have hD : va_D (Aw (lqW kA al (X 0) (X 8 1) ++ cw kA ad X)) (lqW kA al (upd (X 0) 6 (((X 0) 6) - ((X 0) 5))) (X 8 1) ++ cw kA ad X) := hD
          obtain ⟨z1, e_z1⟩ : ∃ y : Nat → Int32, y = upd (X 0) 6 (((X 0) 6) - ((X 0) 5)) := ⟨_, rfl⟩
          rw [← e_z1] at hP hD
          refine lv_aload_n hx hb dL_cares_162 rfl (lv_at hl 5 rfl) ?_
          refine lv_iconst (v := 1) hx hb dL_cares_163 (by decide) ?_
          refine lv_dup2_11 hx hb dL_cares_164 rfl rfl ?_
          refine va_iald (f := lqN z1 (X 8 1)) hx hb hK hP 0 0 lwR_0 rfl (in_nI (j := 1) rfl (by omega) (by decide)) dL_cares_165 ?_
          refine W_top (v' := .int (z1 7)) (rfl) ?_
          refine lv_aload_n hx hb dL_cares_166 rfl (lv_at hl 5 rfl) ?_
          refine lv_bipush (v := 8) hx hb dL_cares_167 (by decide) ?_
          refine va_iald (f := lqN z1 (X 8 1)) hx hb hK hP 0 0 lwR_0 rfl (in_nI (j := 8) rfl (by omega) (by decide)) dL_cares_169 ?_
          refine W_top (v' := .int (z1 5)) (rfl) ?_
          refine lv_iadd hx hb dL_cares_170 ?_
          refine va_iast (f := lqN z1 (X 8 1)) hx hb hK hP hD hS 0 0 lwR_0 rfl (in_nI (j := 1) rfl (by omega) (by decide)) dL_cares_171 (fun H locs hP hD hS => ?_)
          rw [show (1 : Int32).toNatClampNeg = 1 from rfl] at hP hD
          rw [set_ap (by omega), sn_1] at hP hD
          have hP : va_P D vwCl (lqW kA al (upd z1 7 ((z1 7) + (z1 5))) (X 8 1) ++ cw kA ad X) H := hP
          have hD : va_D (Aw (lqW kA al (X 0) (X 8 1) ++ cw kA ad X)) (lqW kA al (upd z1 7 ((z1 7) + (z1 5))) (X 8 1) ++ cw kA ad X) := hD
          obtain ⟨z2, e_z2⟩ : ∃ y : Nat → Int32, y = upd z1 7 ((z1 7) + (z1 5)) := ⟨_, rfl⟩
          rw [← e_z2] at hP hD
          refine lv_aload hx hb dL_cares_172 (lv_at hl 7 rfl) ?_
          refine lv_iload hx hb dL_cares_174 (lv_at hl 0 rfl) ?_
          refine lv_aload_n hx hb dL_cares_176 rfl (lv_at hl 5 rfl) ?_
          refine lv_bipush (v := 7) hx hb dL_cares_177 (by decide) ?_
          refine va_iald (f := lqN z2 (X 8 1)) hx hb hK hP 0 0 lwR_0 rfl (in_nI (j := 7) rfl (by omega) (by decide)) dL_cares_179 ?_
          refine W_top (v' := .int (z2 4)) (rfl) ?_
          refine va_iast (f := lqG z2 5) hx hb hK hP hD hS 6 0 lwR_6 rfl (in_nI rfl (by omega) (by decide)) dL_cares_180 (fun H locs hP hD hS => ?_)
          rw [nI_clamp (by omega)] at hP hD
          rw [set_ap (by omega), sg_5] at hP hD
          have hP : va_P D vwCl (lqW kA al (puZ z2 a 5 (z2 4)) (X 8 1) ++ cw kA ad X) H := hP
          have hD : va_D (Aw (lqW kA al (X 0) (X 8 1) ++ cw kA ad X)) (lqW kA al (puZ z2 a 5 (z2 4)) (X 8 1) ++ cw kA ad X) := hD
          obtain ⟨z3, e_z3⟩ : ∃ y : Nat → Int32, y = puZ z2 a 5 (z2 4) := ⟨_, rfl⟩
          rw [← e_z3] at hP hD
          have hz3 : z3 = grZ (X 0) a := by rw [e_z3, e_z2, e_z1]; rfl
          refine lv_aload_n hx hb dL_cares_181 rfl (lv_at hl 5 rfl) ?_
          refine lv_iconst (v := 2) hx hb dL_cares_182 (by decide) ?_
          refine va_iald (f := lqN z3 (X 8 1)) hx hb hK hP 0 0 lwR_0 rfl (in_nI (j := 2) rfl (by omega) (by decide)) dL_cares_183 ?_
          refine W_top (v' := .int (X 8 1)) (rfl) ?_
          refine lv_bipush (v := 6) hx hb dL_cares_184 (by decide) ?_
          have jp_186 : ∀ (H : Heap) (locs : List Loc), va_P D vwCl (lqW kA al z3 (kpU (X 8 1)) ++ cw kA ad X) H → va_D (Aw (lqW kA al (X 0) (X 8 1) ++ cw kA ad X)) (lqW kA al z3 (kpU (X 8 1)) ++ cw kA ad X) → va_S (Aw (lqW kA al (X 0) (X 8 1) ++ cw kA ad X)) s.heap H locs → ∀ ls : Array Slot, lv_has ls 12 [(0, .ref (ad 0)), (1, .int xx), (2, .int yy), (3, .ref (al 0)), (4, .ref (al 3)), (5, .ref (al 6)), (6, .ref (al 8)), (7, .ref (al 9)), (8, .int ac), (9, .int (nI a))] → W p l e ({ frames := 5, cells := 0, slots := 0, locals := 151 } : Room) s m [.ref (ad 0), .int xx, .int yy, .ref (al 0), .ref (al 3), .ref (al 6), .ref (al 8), .ref (al 9)].toArray below meth c H locs 0 0 (MQ below (eQ D kA al ad N (M + 300) (lqW kA al (X 0) (X 8 1) ++ cw kA ad X)) [.ref (ad 0), .int xx, .int yy, .ref (al 0), .ref (al 3), .ref (al 6), .ref (al 8), .ref (al 9)].toArray s 0 0 (Aw (lqW kA al (X 0) (X 8 1) ++ cw kA ad X))) (F0 m 196 ls []) := by
            intro   H locs hP hD hS ls hl
            refine lv_aload_n hx hb dL_cares_196 rfl (lv_at hl 0 rfl) ?_
            refine lv_iload hx hb dL_cares_197 (lv_at hl 9 rfl) ?_
            refine cs_fs (runV (As := [.int (nI a)]) (rest := []) ⟨hx, hb, hml, hown, hts⟩ (m_X5_grease_p l D kA ad X a (nI a) r (rfl) (ha) (h80) (hr6) (hgs)) q_470 q_471 q_472 q_1 q_473 hd_X5_grease ⟨rfl, rfl⟩ ⟨Nat.le_of_ble_eq_true rfl, Nat.le_of_ble_eq_true rfl⟩ hK (ws := (cw kA ad X)) hP.r hD.rt _ (ci := 5) (C := RX5) (T := TX5) (N := 6) rfl cw_arm rfl hl.1 rfl (Nat.le_of_ble_eq_true rfl) dL_cares_199 ⟨Nat.zero_le _, Nat.zero_le _⟩) hS (fun q h => Aw.rt q (cw_Aw h)) (fun H locs hP1 hk1 hS => ?_)
            obtain ⟨hP, hD⟩ := jR (b' := cw kA ad (up2 (svX X r) 0 (grZ (X 0) a))) hP hD hk1 hP1 cw_fst
            clear hk1 hP1
            refine lv_aload_n hx hb dL_cares_202 rfl (lv_at hl 3 rfl) ?_
            refine lv_iconst (v := 0) hx hb dL_cares_203 (by decide) ?_
            refine va_iald (f := lqN z3 (kpU (X 8 1))) hx hb hK hP 0 0 lwR_0 rfl (in_nI (j := 0) rfl (by omega) (by decide)) dL_cares_204 ?_
            refine W_top (v' := .int (z3 6)) (rfl) ?_
            refine lv_icmp_ne (tgt := 212) hx hb dL_cares_205 (by decide) (fun c_13 => ?_) (fun c_13 => ?_)
            · exact absurd c_13 (fun h => h (by rw [hz3]))
            · skip
              refine lv_iconst (v := 1) hx hb dL_cares_208 (by decide) ?_
              refine lv_goto (tgt := 213) hx hb dL_cares_209 (by decide) ?_
              exact end_e (X' := up2 (svX X r) 0 (grZ (X 0) a)) hx hb hrt hlk hP hS (rq_sv (w := w) ⟨hI, hC, hB, hr6, h80, hw6, h81⟩ (Inv_gr hI ha hge) (CB_gr hC ha) (bd_mono (pb_gr hI hB (by omega) hge) (by omega))) (rq_w (hz3) rfl) dL_cares_213
          refine lv_icmp_ge (tgt := 196) hx hb dL_cares_186 (by decide) (fun c_14 => ?_) (fun c_14 => ?_)
          · skip
            replace c_14 := ge_n c_14
            have hP : va_P D vwCl (lqW kA al z3 (kpU (X 8 1)) ++ cw kA ad X) _ := Pcg (by rw [← kp_n h81 hw6 c_14]) hP
            have hD : va_D (Aw (lqW kA al (X 0) (X 8 1) ++ cw kA ad X)) (lqW kA al z3 (kpU (X 8 1)) ++ cw kA ad X) := Dcg (by rw [← kp_n h81 hw6 c_14]) hD
            exact jp_186   _ _ hP hD hS ls (lv_sub hl [2, 3, 4, 5, 6, 7, 8, 9, 1, 0] rfl)
          · skip
            replace c_14 := nge_l c_14
            refine lv_aload_n hx hb dL_cares_189 rfl (lv_at hl 5 rfl) ?_
            refine lv_iconst (v := 2) hx hb dL_cares_190 (by decide) ?_
            refine lv_dup2_11 hx hb dL_cares_191 rfl rfl ?_
            refine va_iald (f := lqN z3 (X 8 1)) hx hb hK hP 0 0 lwR_0 rfl (in_nI (j := 2) rfl (by omega) (by decide)) dL_cares_192 ?_
            refine W_top (v' := .int (X 8 1)) (rfl) ?_
            refine lv_iconst (v := 1) hx hb dL_cares_193 (by decide) ?_
            refine lv_iadd hx hb dL_cares_194 ?_
            refine va_iast (f := lqN z3 (X 8 1)) hx hb hK hP hD hS 0 0 lwR_0 rfl (in_nI (j := 2) rfl (by omega) (by decide)) dL_cares_195 (fun H locs hP hD hS => ?_)
            rw [show (2 : Int32).toNatClampNeg = 2 from rfl] at hP hD
            rw [set_ap (by omega), sn_2] at hP hD
            have hP : va_P D vwCl (lqW kA al z3 ((X 8 1) + 1) ++ cw kA ad X) H := hP
            have hD : va_D (Aw (lqW kA al (X 0) (X 8 1) ++ cw kA ad X)) (lqW kA al z3 ((X 8 1) + 1) ++ cw kA ad X) := hD
            have hP : va_P D vwCl (lqW kA al z3 (kpU (X 8 1)) ++ cw kA ad X) _ := Pcg (by rw [kp_y h81 hw6 c_14]) hP
            have hD : va_D (Aw (lqW kA al (X 0) (X 8 1) ++ cw kA ad X)) (lqW kA al z3 (kpU (X 8 1)) ++ cw kA ad X) := Dcg (by rw [kp_y h81 hw6 c_14]) hD
            exact jp_186   _ _ hP hD hS ls (lv_sub hl [2, 3, 4, 5, 6, 7, 8, 9, 1, 0] rfl)
        · skip
          replace c_12 := nge_l c_12
          refine lv_iconst (v := 1) hx hb dL_cares_150 (by decide) ?_
          exact end_e (X' := X) hx hb hrt hlk hP hS ⟨r, w, hI, hC, bd_mono hB (by omega), hr6, h80, hw6, h81⟩ rfl dL_cares_151
    · skip
      refine lv_aload hx hb dL_cares_79 (lv_at hl 6 rfl) ?_
      refine lv_iload hx hb dL_cares_81 (lv_at hl 0 rfl) ?_
      refine va_iald (f := lqG (X 0) 2) hx hb hK hP 3 0 lwR_3 rfl (in_nI rfl (by omega) (by decide)) dL_cares_83 ?_
      refine W_top (v' := .int (sl (X 0) a 2)) (congrArg Value.int (vG (by omega))) ?_
      refine lv_istore (lv' := [(10, .int (sl (X 0) a 2)), (9, .int (nI a)), (8, .int ac), (0, .ref (ad 0)), (1, .int xx), (2, .int yy), (3, .ref (al 0)), (4, .ref (al 3)), (5, .ref (al 6)), (6, .ref (al 8)), (7, .ref (al 9))]) hx hb dL_cares_84 hl (by decide) rfl (fun ls hl => ?_)
      refine lv_aload hx hb dL_cares_86 (lv_at hl 7 rfl) ?_
      refine lv_iload hx hb dL_cares_88 (lv_at hl 1 rfl) ?_
      refine lv_iload_n hx hb dL_cares_90 rfl (lv_at hl 5 rfl) ?_
      refine lv_bipush (v := 6) hx hb dL_cares_91 (by decide) ?_
      refine cs_p (runS (As := [.int yy, .int 6]) (rest := [.int (nI a), .ref (al 3)]) ⟨hx, hb, hml, hown, hts⟩ (m_L_at l D kA yy 6 (by decide)) q_193 q_194 q_0 q_195 hd_L_at ⟨rfl, rfl⟩ ⟨Nat.le_of_ble_eq_true rfl, Nat.le_of_ble_eq_true rfl⟩ hK (ws := []) (fun _ _ h => by simp at h) (D0 (A := fun _ => True)) rfl hl.1 rfl (Nat.le_of_ble_eq_true rfl) dL_cares_93 ⟨Nat.zero_le _, Nat.zero_le _⟩) ?_
      obtain ⟨v, hv, e_v⟩ := at_in yy (N := 6) (by omega) (by omega)
      refine W_top (v' := .int (nI v)) (congrArg Value.int (e_v)) ?_
      refine va_iast (f := lqG (X 0) 2) hx hb hK hP hD hS 3 0 lwR_3 rfl (in_nI rfl (by omega) (by decide)) dL_cares_96 (fun H locs hP hD hS => ?_)
      rw [nI_clamp (by omega)] at hP hD
      rw [set_ap (by omega), sg_2] at hP hD
      have hP : va_P D vwCl (lqW kA al (puZ (X 0) a 2 (nI v)) (X 8 1) ++ cw kA ad X) H := hP
      have hD : va_D (Aw (lqW kA al (X 0) (X 8 1) ++ cw kA ad X)) (lqW kA al (puZ (X 0) a 2 (nI v)) (X 8 1) ++ cw kA ad X) := hD
      obtain ⟨z1, e_z1⟩ : ∃ y : Nat → Int32, y = puZ (X 0) a 2 (nI v) := ⟨_, rfl⟩
      rw [← e_z1] at hP hD
      refine lv_aload_n hx hb dL_cares_97 rfl (lv_at hl 6 rfl) ?_
      refine lv_iconst (v := 2) hx hb dL_cares_98 (by decide) ?_
      refine va_iald (f := lqN z1 (X 8 1)) hx hb hK hP 0 0 lwR_0 rfl (in_nI (j := 2) rfl (by omega) (by decide)) dL_cares_99 ?_
      refine W_top (v' := .int (X 8 1)) (rfl) ?_
      refine lv_bipush (v := 6) hx hb dL_cares_100 (by decide) ?_
      have jp_102 : ∀ (H : Heap) (locs : List Loc), va_P D vwCl (lqW kA al z1 (kpU (X 8 1)) ++ cw kA ad X) H → va_D (Aw (lqW kA al (X 0) (X 8 1) ++ cw kA ad X)) (lqW kA al z1 (kpU (X 8 1)) ++ cw kA ad X) → va_S (Aw (lqW kA al (X 0) (X 8 1) ++ cw kA ad X)) s.heap H locs → ∀ ls : Array Slot, lv_has ls 12 [(0, .ref (ad 0)), (1, .int xx), (2, .int yy), (3, .ref (al 0)), (4, .ref (al 3)), (5, .ref (al 6)), (6, .ref (al 8)), (7, .ref (al 9)), (8, .int ac), (9, .int (nI a)), (10, .int (sl (X 0) a 2))] → W p l e ({ frames := 5, cells := 0, slots := 0, locals := 151 } : Room) s m [.ref (ad 0), .int xx, .int yy, .ref (al 0), .ref (al 3), .ref (al 6), .ref (al 8), .ref (al 9)].toArray below meth c H locs 0 0 (MQ below (eQ D kA al ad N (M + 300) (lqW kA al (X 0) (X 8 1) ++ cw kA ad X)) [.ref (ad 0), .int xx, .int yy, .ref (al 0), .ref (al 3), .ref (al 6), .ref (al 8), .ref (al 9)].toArray s 0 0 (Aw (lqW kA al (X 0) (X 8 1) ++ cw kA ad X))) (F0 m 112 ls []) := by
        intro   H locs hP hD hS ls hl
        refine lv_aload_n hx hb dL_cares_112 rfl (lv_at hl 0 rfl) ?_
        refine lv_iload hx hb dL_cares_113 (lv_at hl 9 rfl) ?_
        refine lv_aload hx hb dL_cares_115 (lv_at hl 4 rfl) ?_
        refine lv_iload hx hb dL_cares_117 (lv_at hl 9 rfl) ?_
        refine va_iald (f := lqG z1 2) hx hb hK hP 3 0 lwR_3 rfl (in_nI rfl (by omega) (by decide)) dL_cares_119 ?_
        refine W_top (v' := .int (sl z1 a 2)) (congrArg Value.int (vG (by omega))) ?_
        refine W_top (v' := .int (nI v)) (congrArg Value.int (by rw [e_z1, sl_ps (by omega)])) ?_
        refine cs_fs (runV (As := [.int (nI a), .int (nI v)]) (rest := []) ⟨hx, hb, hml, hown, hts⟩ (m_X5_load_p l D kA ad X a (nI a) (nI v) r (rfl) (ha) (h80) (hr6) (nI_pos (by omega)) (nI_le9 (b := 5) (by omega) (by omega))) q_465 q_466 q_467 q_1 q_468 hd_X5_load ⟨rfl, rfl⟩ ⟨Nat.le_of_ble_eq_true rfl, Nat.le_of_ble_eq_true rfl⟩ hK (ws := (cw kA ad X)) hP.r hD.rt _ (ci := 5) (C := RX5) (T := TX5) (N := 6) rfl cw_arm rfl hl.1 rfl (Nat.le_of_ble_eq_true rfl) dL_cares_120 ⟨Nat.zero_le _, Nat.zero_le _⟩) hS (fun q h => Aw.rt q (cw_Aw h)) (fun H locs hP1 hk1 hS => ?_)
        obtain ⟨hP, hD⟩ := jR (b' := cw kA ad (up2 (svX X r) 0 (puZ (X 0) a 2 (nI v)))) hP hD hk1 hP1 cw_fst
        clear hk1 hP1
        refine lv_iload hx hb dL_cares_123 (lv_at hl 10 rfl) ?_
        refine lv_icmp_ne (tgt := 132) hx hb dL_cares_125 (by decide) (fun c_15 => ?_) (fun c_15 => ?_)
        · exact absurd c_15 (fun h => h rfl)
        · skip
          refine lv_iconst (v := 1) hx hb dL_cares_128 (by decide) ?_
          refine lv_goto (tgt := 133) hx hb dL_cares_129 (by decide) ?_
          exact end_e (X' := up2 (svX X r) 0 (puZ (X 0) a 2 (nI v))) hx hb hrt hlk hP hS (rq_sv (w := w) ⟨hI, hC, hB, hr6, h80, hw6, h81⟩ (Inv_ld hI ha hv) (CB_pu hC ha (by omega) (by omega) (by omega) (by omega)) (by rw [puZ_low (by omega)]; exact bd_mono hB (by omega))) (rq_w (e_z1) rfl) dL_cares_133
      refine lv_icmp_ge (tgt := 112) hx hb dL_cares_102 (by decide) (fun c_16 => ?_) (fun c_16 => ?_)
      · skip
        replace c_16 := ge_n c_16
        have hP : va_P D vwCl (lqW kA al z1 (kpU (X 8 1)) ++ cw kA ad X) _ := Pcg (by rw [← kp_n h81 hw6 c_16]) hP
        have hD : va_D (Aw (lqW kA al (X 0) (X 8 1) ++ cw kA ad X)) (lqW kA al z1 (kpU (X 8 1)) ++ cw kA ad X) := Dcg (by rw [← kp_n h81 hw6 c_16]) hD
        exact jp_102   _ _ hP hD hS ls (lv_sub hl [3, 4, 5, 6, 7, 8, 9, 10, 2, 1, 0] rfl)
      · skip
        replace c_16 := nge_l c_16
        refine lv_aload_n hx hb dL_cares_105 rfl (lv_at hl 6 rfl) ?_
        refine lv_iconst (v := 2) hx hb dL_cares_106 (by decide) ?_
        refine lv_dup2_11 hx hb dL_cares_107 rfl rfl ?_
        refine va_iald (f := lqN z1 (X 8 1)) hx hb hK hP 0 0 lwR_0 rfl (in_nI (j := 2) rfl (by omega) (by decide)) dL_cares_108 ?_
        refine W_top (v' := .int (X 8 1)) (rfl) ?_
        refine lv_iconst (v := 1) hx hb dL_cares_109 (by decide) ?_
        refine lv_iadd hx hb dL_cares_110 ?_
        refine va_iast (f := lqN z1 (X 8 1)) hx hb hK hP hD hS 0 0 lwR_0 rfl (in_nI (j := 2) rfl (by omega) (by decide)) dL_cares_111 (fun H locs hP hD hS => ?_)
        rw [show (2 : Int32).toNatClampNeg = 2 from rfl] at hP hD
        rw [set_ap (by omega), sn_2] at hP hD
        have hP : va_P D vwCl (lqW kA al z1 ((X 8 1) + 1) ++ cw kA ad X) H := hP
        have hD : va_D (Aw (lqW kA al (X 0) (X 8 1) ++ cw kA ad X)) (lqW kA al z1 ((X 8 1) + 1) ++ cw kA ad X) := hD
        have hP : va_P D vwCl (lqW kA al z1 (kpU (X 8 1)) ++ cw kA ad X) _ := Pcg (by rw [kp_y h81 hw6 c_16]) hP
        have hD : va_D (Aw (lqW kA al (X 0) (X 8 1) ++ cw kA ad X)) (lqW kA al z1 (kpU (X 8 1)) ++ cw kA ad X) := Dcg (by rw [kp_y h81 hw6 c_16]) hD
        exact jp_102   _ _ hP hD hS ls (lv_sub hl [3, 4, 5, 6, 7, 8, 9, 10, 2, 1, 0] rfl)
  · skip
    refine lv_iconst (v := 1) hx hb dL_cares_21 (by decide) ?_
    refine lv_iload_n hx hb dL_cares_22 rfl (lv_at hl 4 rfl) ?_
    refine lv_sipush (v := 300) hx hb dL_cares_23 (by decide) ?_
    refine cs_p (runS (As := [.int yy, .int 300]) (rest := [.int 1]) ⟨hx, hb, hml, hown, hts⟩ (m_L_at l D kA yy 300 (by decide)) q_193 q_194 q_0 q_195 hd_L_at ⟨rfl, rfl⟩ ⟨Nat.le_of_ble_eq_true rfl, Nat.le_of_ble_eq_true rfl⟩ hK (ws := []) (fun _ _ h => by simp at h) (D0 (A := fun _ => True)) rfl hl.1 rfl (Nat.le_of_ble_eq_true rfl) dL_cares_26 ⟨Nat.zero_le _, Nat.zero_le _⟩) ?_
    refine lv_iadd hx hb dL_cares_29 ?_
    obtain ⟨mo, hmo1, hmo2, e_mo⟩ := at1_in yy (N := 300) (by omega) (by omega)
    refine W_top (v' := .int (nI mo)) (congrArg Value.int (e_mo)) ?_
    refine lv_istore (lv' := [(10, .int (nI mo)), (9, .int (nI a)), (8, .int ac), (0, .ref (ad 0)), (1, .int xx), (2, .int yy), (3, .ref (al 0)), (4, .ref (al 3)), (5, .ref (al 6)), (6, .ref (al 8)), (7, .ref (al 9))]) hx hb dL_cares_30 hl (by decide) rfl (fun ls hl => ?_)
    refine lv_aload_n hx hb dL_cares_32 rfl (lv_at hl 6 rfl) ?_
    refine lv_iconst (v := 0) hx hb dL_cares_33 (by decide) ?_
    refine lv_dup2_11 hx hb dL_cares_34 rfl rfl ?_
    refine va_iald (f := lqN (X 0) (X 8 1)) hx hb hK hP 0 0 lwR_0 rfl (in_nI (j := 0) rfl (by omega) (by decide)) dL_cares_35 ?_
    refine W_top (v' := .int ((X 0) 6)) (rfl) ?_
    refine lv_iload hx hb dL_cares_36 (lv_at hl 0 rfl) ?_
    refine lv_iadd hx hb dL_cares_38 ?_
    refine va_iast (f := lqN (X 0) (X 8 1)) hx hb hK hP hD hS 0 0 lwR_0 rfl (in_nI (j := 0) rfl (by omega) (by decide)) dL_cares_39 (fun H locs hP hD hS => ?_)
    rw [show (0 : Int32).toNatClampNeg = 0 from rfl] at hP hD
    rw [set_ap (by omega), sn_0] at hP hD
    have hP : va_P D vwCl (lqW kA al (upd (X 0) 6 (((X 0) 6) + (nI mo))) (X 8 1) ++ cw kA ad X) H := hP
    have hD : va_D (Aw (lqW kA al (X 0) (X 8 1) ++ cw kA ad X)) (lqW kA al (upd (X 0) 6 (((X 0) 6) + (nI mo))) (X 8 1) ++ cw kA ad X) := hD
    obtain ⟨z1, e_z1⟩ : ∃ y : Nat → Int32, y = upd (X 0) 6 (((X 0) 6) + (nI mo)) := ⟨_, rfl⟩
    rw [← e_z1] at hP hD
    refine lv_aload_n hx hb dL_cares_40 rfl (lv_at hl 6 rfl) ?_
    refine lv_iconst (v := 2) hx hb dL_cares_41 (by decide) ?_
    refine va_iald (f := lqN z1 (X 8 1)) hx hb hK hP 0 0 lwR_0 rfl (in_nI (j := 2) rfl (by omega) (by decide)) dL_cares_42 ?_
    refine W_top (v' := .int (X 8 1)) (rfl) ?_
    refine lv_bipush (v := 6) hx hb dL_cares_43 (by decide) ?_
    have jp_45 : ∀ (H : Heap) (locs : List Loc), va_P D vwCl (lqW kA al z1 (kpU (X 8 1)) ++ cw kA ad X) H → va_D (Aw (lqW kA al (X 0) (X 8 1) ++ cw kA ad X)) (lqW kA al z1 (kpU (X 8 1)) ++ cw kA ad X) → va_S (Aw (lqW kA al (X 0) (X 8 1) ++ cw kA ad X)) s.heap H locs → ∀ ls : Array Slot, lv_has ls 12 [(0, .ref (ad 0)), (1, .int xx), (2, .int yy), (3, .ref (al 0)), (4, .ref (al 3)), (5, .ref (al 6)), (6, .ref (al 8)), (7, .ref (al 9)), (8, .int ac), (9, .int (nI a)), (10, .int (nI mo))] → W p l e ({ frames := 5, cells := 0, slots := 0, locals := 151 } : Room) s m [.ref (ad 0), .int xx, .int yy, .ref (al 0), .ref (al 3), .ref (al 6), .ref (al 8), .ref (al 9)].toArray below meth c H locs 0 0 (MQ below (eQ D kA al ad N (M + 300) (lqW kA al (X 0) (X 8 1) ++ cw kA ad X)) [.ref (ad 0), .int xx, .int yy, .ref (al 0), .ref (al 3), .ref (al 6), .ref (al 8), .ref (al 9)].toArray s 0 0 (Aw (lqW kA al (X 0) (X 8 1) ++ cw kA ad X))) (F0 m 55 ls []) := by
      intro   H locs hP hD hS ls hl
      refine lv_aload_n hx hb dL_cares_55 rfl (lv_at hl 0 rfl) ?_
      refine lv_iload hx hb dL_cares_56 (lv_at hl 10 rfl) ?_
      refine cs_fs (runV (As := [.int (nI mo)]) (rest := []) ⟨hx, hb, hml, hown, hts⟩ (m_X5_earn_p l D kA ad X (nI mo) r (h80) (hr6) (ea_1 hmo1 hmo2) (nI_le9 (b := 10000) (by omega) (by omega)) (ea_3 hB hmo2 hM)) q_458 q_459 q_460 q_1 q_461 hd_X5_earn ⟨rfl, rfl⟩ ⟨Nat.le_of_ble_eq_true rfl, Nat.le_of_ble_eq_true rfl⟩ hK (ws := (cw kA ad X)) hP.r hD.rt _ (ci := 5) (C := RX5) (T := TX5) (N := 6) rfl cw_arm rfl hl.1 rfl (Nat.le_of_ble_eq_true rfl) dL_cares_58 ⟨Nat.zero_le _, Nat.zero_le _⟩) hS (fun q h => Aw.rt q (cw_Aw h)) (fun H locs hP1 hk1 hS => ?_)
      obtain ⟨hP, hD⟩ := jR (b' := cw kA ad (up2 (svX X r) 0 (upd (X 0) 6 (X 0 6 + (nI mo))))) hP hD hk1 hP1 cw_fst
      clear hk1 hP1
      refine lv_aload_n hx hb dL_cares_61 rfl (lv_at hl 3 rfl) ?_
      refine lv_iconst (v := 0) hx hb dL_cares_62 (by decide) ?_
      refine va_iald (f := lqN z1 (kpU (X 8 1))) hx hb hK hP 0 0 lwR_0 rfl (in_nI (j := 0) rfl (by omega) (by decide)) dL_cares_63 ?_
      refine W_top (v' := .int (z1 6)) (rfl) ?_
      refine lv_icmp_ne (tgt := 71) hx hb dL_cares_64 (by decide) (fun c_17 => ?_) (fun c_17 => ?_)
      · exact absurd c_17 (fun h => h (by rw [e_z1, upd_s]))
      · skip
        refine lv_iconst (v := 1) hx hb dL_cares_67 (by decide) ?_
        refine lv_goto (tgt := 72) hx hb dL_cares_68 (by decide) ?_
        exact end_e (X' := up2 (svX X r) 0 (upd (X 0) 6 (X 0 6 + (nI mo)))) hx hb hrt hlk hP hS (rq_sv (w := w) ⟨hI, hC, hB, hr6, h80, hw6, h81⟩ (Inv_purse hI (bd_mono (pb_add hB hmo2) (by omega))) (CB_up hC (by omega)) (by rw [upd_s]; exact pb_add hB hmo2)) (rq_w (e_z1) rfl) dL_cares_72
    refine lv_icmp_ge (tgt := 55) hx hb dL_cares_45 (by decide) (fun c_18 => ?_) (fun c_18 => ?_)
    · skip
      replace c_18 := ge_n c_18
      have hP : va_P D vwCl (lqW kA al z1 (kpU (X 8 1)) ++ cw kA ad X) _ := Pcg (by rw [← kp_n h81 hw6 c_18]) hP
      have hD : va_D (Aw (lqW kA al (X 0) (X 8 1) ++ cw kA ad X)) (lqW kA al z1 (kpU (X 8 1)) ++ cw kA ad X) := Dcg (by rw [← kp_n h81 hw6 c_18]) hD
      exact jp_45   _ _ hP hD hS ls (lv_sub hl [3, 4, 5, 6, 7, 8, 9, 10, 2, 1, 0] rfl)
    · skip
      replace c_18 := nge_l c_18
      refine lv_aload_n hx hb dL_cares_48 rfl (lv_at hl 6 rfl) ?_
      refine lv_iconst (v := 2) hx hb dL_cares_49 (by decide) ?_
      refine lv_dup2_11 hx hb dL_cares_50 rfl rfl ?_
      refine va_iald (f := lqN z1 (X 8 1)) hx hb hK hP 0 0 lwR_0 rfl (in_nI (j := 2) rfl (by omega) (by decide)) dL_cares_51 ?_
      refine W_top (v' := .int (X 8 1)) (rfl) ?_
      refine lv_iconst (v := 1) hx hb dL_cares_52 (by decide) ?_
      refine lv_iadd hx hb dL_cares_53 ?_
      refine va_iast (f := lqN z1 (X 8 1)) hx hb hK hP hD hS 0 0 lwR_0 rfl (in_nI (j := 2) rfl (by omega) (by decide)) dL_cares_54 (fun H locs hP hD hS => ?_)
      rw [show (2 : Int32).toNatClampNeg = 2 from rfl] at hP hD
      rw [set_ap (by omega), sn_2] at hP hD
      have hP : va_P D vwCl (lqW kA al z1 ((X 8 1) + 1) ++ cw kA ad X) H := hP
      have hD : va_D (Aw (lqW kA al (X 0) (X 8 1) ++ cw kA ad X)) (lqW kA al z1 ((X 8 1) + 1) ++ cw kA ad X) := hD
      have hP : va_P D vwCl (lqW kA al z1 (kpU (X 8 1)) ++ cw kA ad X) _ := Pcg (by rw [kp_y h81 hw6 c_18]) hP
      have hD : va_D (Aw (lqW kA al (X 0) (X 8 1) ++ cw kA ad X)) (lqW kA al z1 (kpU (X 8 1)) ++ cw kA ad X) := Dcg (by rw [kp_y h81 hw6 c_18]) hD
      exact jp_45   _ _ hP hD hS ls (lv_sub hl [3, 4, 5, 6, 7, 8, 9, 10, 2, 1, 0] rfl)
