theorem hd_L_moves : yL_moves.cls ≠ "java/lang/invoke/MethodHandle" ∧ yL_moves.cls ≠ "java/lang/invoke/VarHandle" ∧ (parseMethodDescriptor yL_moves.desc).map (fun d => d.parameters.length) = some 13 := by decide +kernel
set_option maxRecDepth 100000 in
set_option maxHeartbeats 4000000 in
theorem m_L_moves (l : Launch) (D : va_G) (kA : Nat → Nat) (al : Nat → Nat) (ad : Nat → Nat) (X : Nat → Nat → Int32) (xx : Int32) (yy : Int32) (N : Nat) (M : Nat) (hR : RQx X N M) (hN : N + 50 ≤ 600000) (hM : M ≤ 100000) : Met l yL_moves (Cond.code yL_moves cL_moves 21 (some .boolean) :: AW) ({ frames := 5, cells := 0, slots := 0, locals := 151 } : Room) (Pz [.ref (ad 0), .int xx, .int yy, .ref (al 0), .ref (al 1), .ref (al 2), .ref (al 3), .ref (al 4), .ref (al 5), .ref (al 6), .ref (al 7), .ref (al 8), .ref (al 9)] D (TY kA) (lqW kA al (X 0) (X 8 1) ++ cw kA ad X)) (eQ D kA al ad (N + 50) M (lqW kA al (X 0) (X 8 1) ++ cw kA ad X)) 0 0 (Aw (lqW kA al (X 0) (X 8 1) ++ cw kA ad X)) := by
  refine MetZ (by decide +kernel) (Nat.le_of_ble_eq_true rfl) ?_
  intro p e s m below meth c ls hx hb hrt hts hown hml hlk hnm hP hK hD hS hl
  have hl : lv_has ls 21 [(0, .ref (ad 0)), (1, .int xx), (2, .int yy), (3, .ref (al 0)), (4, .ref (al 1)), (5, .ref (al 2)), (6, .ref (al 3)), (7, .ref (al 4)), (8, .ref (al 5)), (9, .ref (al 6)), (10, .ref (al 7)), (11, .ref (al 8)), (12, .ref (al 9))] := hl
  obtain ⟨r, w, hI, hC, hB, hr6, h80, hw6, h81⟩ := hR
  refine lv_iload_n hx hb dL_moves_0 rfl (lv_at hl 1 rfl) ?_
  refine lv_iconst (v := 5) hx hb dL_moves_1 (by decide) ?_
  refine cs_p (runS (As := [.int xx, .int 5]) (rest := []) ⟨hx, hb, hml, hown, hts⟩ (m_L_at l D kA xx 5 (by decide)) q_193 q_194 q_0 q_195 hd_L_at ⟨rfl, rfl⟩ ⟨Nat.le_of_ble_eq_true rfl, Nat.le_of_ble_eq_true rfl⟩ hK (ws := []) (fun _ _ h => by simp at h) (D0 (A := fun _ => True)) rfl hl.1 rfl (Nat.le_of_ble_eq_true rfl) dL_moves_2 ⟨Nat.zero_le _, Nat.zero_le _⟩) ?_
  obtain ⟨ac, e_ac⟩ : ∃ y9 : Int32, y9 = atF xx 5 := ⟨_, rfl⟩
  rw [← e_ac]
  refine lv_istore (lv' := [(13, .int ac), (0, .ref (ad 0)), (1, .int xx), (2, .int yy), (3, .ref (al 0)), (4, .ref (al 1)), (5, .ref (al 2)), (6, .ref (al 3)), (7, .ref (al 4)), (8, .ref (al 5)), (9, .ref (al 6)), (10, .ref (al 7)), (11, .ref (al 8)), (12, .ref (al 9))]) hx hb dL_moves_5 hl (by decide) rfl (fun ls hl => ?_)
  refine lv_iload_n hx hb dL_moves_7 rfl (lv_at hl 2 rfl) ?_
  refine lv_iconst (v := 4) hx hb dL_moves_8 (by decide) ?_
  refine lv_ishr hx hb dL_moves_9 ?_
  refine lv_iconst (v := 4) hx hb dL_moves_10 (by decide) ?_
  refine cs_p (runS (As := [.int (xx >>> (4 &&& 31)), .int 4]) (rest := []) ⟨hx, hb, hml, hown, hts⟩ (m_L_at l D kA (xx >>> (4 &&& 31)) 4 (by decide)) q_193 q_194 q_0 q_195 hd_L_at ⟨rfl, rfl⟩ ⟨Nat.le_of_ble_eq_true rfl, Nat.le_of_ble_eq_true rfl⟩ hK (ws := []) (fun _ _ h => by simp at h) (D0 (A := fun _ => True)) rfl hl.1 rfl (Nat.le_of_ble_eq_true rfl) dL_moves_11 ⟨Nat.zero_le _, Nat.zero_le _⟩) ?_
  obtain ⟨a, ha, e_a⟩ := at_in (xx >>> (4 &&& 31)) (N := 4) (by omega) (by omega)
  refine W_top (v' := .int (nI a)) (congrArg Value.int (e_a)) ?_
  refine lv_istore (lv' := [(14, .int (nI a)), (13, .int ac), (0, .ref (ad 0)), (1, .int xx), (2, .int yy), (3, .ref (al 0)), (4, .ref (al 1)), (5, .ref (al 2)), (6, .ref (al 3)), (7, .ref (al 4)), (8, .ref (al 5)), (9, .ref (al 6)), (10, .ref (al 7)), (11, .ref (al 8)), (12, .ref (al 9))]) hx hb dL_moves_14 hl (by decide) rfl (fun ls hl => ?_)
  refine lv_iload hx hb dL_moves_16 (lv_at hl 1 rfl) ?_
  refine lv_iconst (v := 2) hx hb dL_moves_18 (by decide) ?_
  refine lv_icmp_ge (tgt := 180) hx hb dL_moves_19 (by decide) (fun c_1 => ?_) (fun c_1 => ?_)
  · skip
    replace c_1 := ge_n c_1
    refine lv_iload hx hb dL_moves_180 (lv_at hl 1 rfl) ?_
    refine lv_iconst (v := 4) hx hb dL_moves_182 (by decide) ?_
    refine lv_icmp_ge (tgt := 445) hx hb dL_moves_183 (by decide) (fun c_2 => ?_) (fun c_2 => ?_)
    · skip
      replace c_2 := ge_n c_2
      refine lv_aload_n hx hb dL_moves_445 rfl (lv_at hl 2 rfl) ?_
      refine lv_iload hx hb dL_moves_446 (lv_at hl 0 rfl) ?_
      refine lv_iconst (v := 0) hx hb dL_moves_448 (by decide) ?_
      refine cs_fs (runV (As := [.int (nI a), .int 0]) (rest := []) ⟨hx, hb, hml, hown, hts⟩ (m_X5_ifHomed_p l D kA ad X a (nI a) 0 (rfl) (ha) (by decide) (by decide)) q_432 q_433 q_434 q_1 q_435 hd_X5_ifHomed ⟨rfl, rfl⟩ ⟨Nat.le_of_ble_eq_true rfl, Nat.le_of_ble_eq_true rfl⟩ hK (ws := (cw kA ad X)) hP.r hD.rt _ (ci := 5) (C := RX5) (T := TX5) (N := 6) rfl cw_arm rfl hl.1 rfl (Nat.le_of_ble_eq_true rfl) dL_moves_449 ⟨Nat.zero_le _, Nat.zero_le _⟩) hS (fun q h => Aw.rt q (cw_Aw h)) (fun H locs hP1 hk1 hS => ?_)
      obtain ⟨hP, hD⟩ := jR (b' := cw kA ad (up2 X 7 (hfT (X 7) (X 0) a))) hP hD hk1 hP1 cw_fst
      clear hk1 hP1
      obtain ⟨told, e_told⟩ : ∃ y9 : Int32, y9 = hfF (X 7) (X 0) a 0 := ⟨_, rfl⟩
      rw [← e_told]
      obtain ⟨Y, e_Y⟩ : ∃ Y : Nat → Nat → Int32, Y = up2 X 7 (hfT (X 7) (X 0) a) := ⟨_, rfl⟩
      rw [← e_Y] at hP hD
      have eY0 : Y 0 = X 0 := by rw [e_Y]; exact up2_n (by omega)
      have eY8 : Y 8 = X 8 := by rw [e_Y]; exact up2_n (by omega)
      refine lv_istore (lv' := [(15, .int told), (14, .int (nI a)), (13, .int ac), (0, .ref (ad 0)), (1, .int xx), (2, .int yy), (3, .ref (al 0)), (4, .ref (al 1)), (5, .ref (al 2)), (6, .ref (al 3)), (7, .ref (al 4)), (8, .ref (al 5)), (9, .ref (al 6)), (10, .ref (al 7)), (11, .ref (al 8)), (12, .ref (al 9))]) hx hb dL_moves_452 hl (by decide) rfl (fun ls hl => ?_)
      have jp_454 : ∀ (zj : Nat → Int32) (x16 : Int32) (hE : hzL a 40 (X 0) = zj) (hsm : sl zj a 6 = sl (X 0) a 6 + x16), ∀ (H : Heap) (locs : List Loc), va_P D vwCl (lqW kA al zj (X 8 1) ++ cw kA ad Y) H → va_D (Aw (lqW kA al (X 0) (X 8 1) ++ cw kA ad X)) (lqW kA al zj (X 8 1) ++ cw kA ad Y) → va_S (Aw (lqW kA al (X 0) (X 8 1) ++ cw kA ad X)) s.heap H locs → ∀ ls : Array Slot, lv_has ls 21 [(0, .ref (ad 0)), (1, .int xx), (2, .int yy), (3, .ref (al 0)), (4, .ref (al 1)), (5, .ref (al 2)), (6, .ref (al 3)), (7, .ref (al 4)), (8, .ref (al 5)), (9, .ref (al 6)), (10, .ref (al 7)), (11, .ref (al 8)), (12, .ref (al 9)), (13, .int ac), (14, .int (nI a)), (15, .int told), (16, .int x16)] → W p l e ({ frames := 5, cells := 0, slots := 0, locals := 151 } : Room) s m [.ref (ad 0), .int xx, .int yy, .ref (al 0), .ref (al 1), .ref (al 2), .ref (al 3), .ref (al 4), .ref (al 5), .ref (al 6), .ref (al 7), .ref (al 8), .ref (al 9)].toArray below meth c H locs 0 0 (MQ below (eQ D kA al ad (N + 50) M (lqW kA al (X 0) (X 8 1) ++ cw kA ad X)) [.ref (ad 0), .int xx, .int yy, .ref (al 0), .ref (al 1), .ref (al 2), .ref (al 3), .ref (al 4), .ref (al 5), .ref (al 6), .ref (al 7), .ref (al 8), .ref (al 9)].toArray s 0 0 (Aw (lqW kA al (X 0) (X 8 1) ++ cw kA ad X))) (F0 m 506 ls []) := by
        intro zj x16 hE hsm H locs hP hD hS ls hl
        refine lv_aload hx hb dL_moves_506 (lv_at hl 4 rfl) ?_
        refine lv_iload hx hb dL_moves_508 (lv_at hl 14 rfl) ?_
        refine va_iald (f := lqG zj 0) hx hb hK hP 1 0 lwR_1 rfl (in_nI rfl (by omega) (by decide)) dL_moves_510 ?_
        refine W_top (v' := .int (sl zj a 0)) (congrArg Value.int (vG (by omega))) ?_
        have jn_511_2 : ∀ v : Int32, v = (if (sl zj a 0) = 0 then 1 else 0) → W p l e ({ frames := 5, cells := 0, slots := 0, locals := 151 } : Room) s m [.ref (ad 0), .int xx, .int yy, .ref (al 0), .ref (al 1), .ref (al 2), .ref (al 3), .ref (al 4), .ref (al 5), .ref (al 6), .ref (al 7), .ref (al 8), .ref (al 9)].toArray below meth c H locs 0 0 (MQ below (eQ D kA al ad (N + 50) M (lqW kA al (X 0) (X 8 1) ++ cw kA ad X)) [.ref (ad 0), .int xx, .int yy, .ref (al 0), .ref (al 1), .ref (al 2), .ref (al 3), .ref (al 4), .ref (al 5), .ref (al 6), .ref (al 7), .ref (al 8), .ref (al 9)].toArray s 0 0 (Aw (lqW kA al (X 0) (X 8 1) ++ cw kA ad X))) (F0 m 519 ls (.int v :: [])) := by
          intro v ev
          obtain rfl := ev.trans bI_if
          refine lv_istore (lv' := [(17, .int (bI (decide ((sl zj a 0) = 0)))), (0, .ref (ad 0)), (1, .int xx), (2, .int yy), (3, .ref (al 0)), (4, .ref (al 1)), (5, .ref (al 2)), (6, .ref (al 3)), (7, .ref (al 4)), (8, .ref (al 5)), (9, .ref (al 6)), (10, .ref (al 7)), (11, .ref (al 8)), (12, .ref (al 9)), (13, .int ac), (14, .int (nI a)), (15, .int told), (16, .int x16)]) hx hb dL_moves_519 hl (by decide) rfl (fun ls hl => ?_)
          refine lv_iload hx hb dL_moves_521 (lv_at hl 0 rfl) ?_
          have jp_523 : ∀ (zh : Nat → Int32) (hZ : zh = hoZ (X 0) a), ∀ (H : Heap) (locs : List Loc), va_P D vwCl (lqW kA al zh (X 8 1) ++ cw kA ad Y) H → va_D (Aw (lqW kA al (X 0) (X 8 1) ++ cw kA ad X)) (lqW kA al zh (X 8 1) ++ cw kA ad Y) → va_S (Aw (lqW kA al (X 0) (X 8 1) ++ cw kA ad X)) s.heap H locs → ∀ ls : Array Slot, lv_has ls 21 [(0, .ref (ad 0)), (1, .int xx), (2, .int yy), (3, .ref (al 0)), (4, .ref (al 1)), (5, .ref (al 2)), (6, .ref (al 3)), (7, .ref (al 4)), (8, .ref (al 5)), (9, .ref (al 6)), (10, .ref (al 7)), (11, .ref (al 8)), (12, .ref (al 9)), (13, .int ac), (14, .int (nI a)), (15, .int told), (16, .int x16), (17, .int (bI (decide ((sl zj a 0) = 0))))] → W p l e ({ frames := 5, cells := 0, slots := 0, locals := 151 } : Room) s m [.ref (ad 0), .int xx, .int yy, .ref (al 0), .ref (al 1), .ref (al 2), .ref (al 3), .ref (al 4), .ref (al 5), .ref (al 6), .ref (al 7), .ref (al 8), .ref (al 9)].toArray below meth c H locs 0 0 (MQ below (eQ D kA al ad (N + 50) M (lqW kA al (X 0) (X 8 1) ++ cw kA ad X)) [.ref (ad 0), .int xx, .int yy, .ref (al 0), .ref (al 1), .ref (al 2), .ref (al 3), .ref (al 4), .ref (al 5), .ref (al 6), .ref (al 7), .ref (al 8), .ref (al 9)].toArray s 0 0 (Aw (lqW kA al (X 0) (X 8 1) ++ cw kA ad X))) (F0 m 557 ls []) := by
            intro zh hZ H locs hP hD hS ls hl
            refine lv_aload_n hx hb dL_moves_557 rfl (lv_at hl 3 rfl) ?_
            refine lv_iconst (v := 2) hx hb dL_moves_558 (by decide) ?_
            refine va_iald (f := lqN zh (X 8 1)) hx hb hK hP 0 0 lwR_0 rfl (in_nI (j := 2) rfl (by omega) (by decide)) dL_moves_559 ?_
            refine W_top (v' := .int (X 8 1)) (rfl) ?_
            refine lv_bipush (v := 6) hx hb dL_moves_560 (by decide) ?_
            have jp_562 : ∀ (H : Heap) (locs : List Loc), va_P D vwCl (lqW kA al zh (kpU (X 8 1)) ++ cw kA ad Y) H → va_D (Aw (lqW kA al (X 0) (X 8 1) ++ cw kA ad X)) (lqW kA al zh (kpU (X 8 1)) ++ cw kA ad Y) → va_S (Aw (lqW kA al (X 0) (X 8 1) ++ cw kA ad X)) s.heap H locs → ∀ ls : Array Slot, lv_has ls 21 [(0, .ref (ad 0)), (1, .int xx), (2, .int yy), (3, .ref (al 0)), (4, .ref (al 1)), (5, .ref (al 2)), (6, .ref (al 3)), (7, .ref (al 4)), (8, .ref (al 5)), (9, .ref (al 6)), (10, .ref (al 7)), (11, .ref (al 8)), (12, .ref (al 9)), (13, .int ac), (14, .int (nI a)), (15, .int told), (16, .int x16), (17, .int (bI (decide ((sl zj a 0) = 0))))] → W p l e ({ frames := 5, cells := 0, slots := 0, locals := 151 } : Room) s m [.ref (ad 0), .int xx, .int yy, .ref (al 0), .ref (al 1), .ref (al 2), .ref (al 3), .ref (al 4), .ref (al 5), .ref (al 6), .ref (al 7), .ref (al 8), .ref (al 9)].toArray below meth c H locs 0 0 (MQ below (eQ D kA al ad (N + 50) M (lqW kA al (X 0) (X 8 1) ++ cw kA ad X)) [.ref (ad 0), .int xx, .int yy, .ref (al 0), .ref (al 1), .ref (al 2), .ref (al 3), .ref (al 4), .ref (al 5), .ref (al 6), .ref (al 7), .ref (al 8), .ref (al 9)].toArray s 0 0 (Aw (lqW kA al (X 0) (X 8 1) ++ cw kA ad X))) (F0 m 572 ls []) := by
              intro   H locs hP hD hS ls hl
              refine lv_iload hx hb dL_moves_572 (lv_at hl 15 rfl) ?_
              refine lv_iload hx hb dL_moves_574 (lv_at hl 16 rfl) ?_
              refine lv_icmp_ne (tgt := 603) hx hb dL_moves_576 (by decide) (fun c_4 => ?_) (fun c_4 => ?_)
              · exact absurd c_4 (fun h => h (by rw [e_told, hf_ht hI ha, htF, if_pos rfl, ho6 ha, hE, hsm]; exact sub_add _ _))
              · skip
                refine lv_aload_n hx hb dL_moves_579 rfl (lv_at hl 0 rfl) ?_
                refine lv_iload hx hb dL_moves_580 (lv_at hl 14 rfl) ?_
                refine cs_fs (runV (As := [.int (nI a)]) (rest := []) ⟨hx, hb, hml, hown, hts⟩ (m_X5_home_p l D kA ad Y a (nI a) r (rfl) (ha) (by rw [eY8]; exact h80) (hr6)) q_447 q_448 q_449 q_1 q_450 hd_X5_home ⟨rfl, rfl⟩ ⟨Nat.le_of_ble_eq_true rfl, Nat.le_of_ble_eq_true rfl⟩ hK (ws := (cw kA ad Y)) hP.r hD.rt _ (ci := 5) (C := RX5) (T := TX5) (N := 6) rfl cw_arm rfl hl.1 rfl (Nat.le_of_ble_eq_true rfl) dL_moves_582 ⟨Nat.zero_le _, Nat.zero_le _⟩) hS (fun q h => Aw.rt q (cw_Aw h)) (fun H locs hP1 hk1 hS => ?_)
                obtain ⟨hP, hD⟩ := jR (b' := cw kA ad (up2 (svX Y r) 0 (hmZ (Y 0) a))) hP hD hk1 hP1 cw_fst
                clear hk1 hP1
                refine lv_iload hx hb dL_moves_585 (lv_at hl 17 rfl) ?_
                refine lv_if_eq (tgt := 595) hx hb dL_moves_587 (by decide) (fun c_5 => ?_) (fun c_5 => ?_)
                · skip
                  replace c_5 := bI_0.mp c_5
                  refine lv_iconst (v := (-1)) hx hb dL_moves_595 (by decide) ?_
                  refine lv_icmp_ne (tgt := 603) hx hb dL_moves_596 (by decide) (fun c_6 => ?_) (fun c_6 => ?_)
                  · exact absurd c_6 (fun h => h (by rw [eY0, hv_ho hI hC (by omega) ha, hoR, hE, if_neg (of_decide_eq_false c_5)]))
                  · skip
                    refine lv_iconst (v := 1) hx hb dL_moves_599 (by decide) ?_
                    refine lv_goto (tgt := 604) hx hb dL_moves_600 (by decide) ?_
                    exact end_e (X' := up2 (svX Y r) 0 (hmZ (Y 0) a)) hx hb hrt hlk hP hS (rq_sv (w := w) (rq_Y (X := X) (Y := Y) ⟨hI, hC, hB, hr6, h80, hw6, h81⟩ eY0 eY8) (by rw [eY0, ← ho_hm hI ha]; exact Inv_ho hI ha) (CB_mono (by rw [eY0, ← ho_hm hI ha]; exact CB_ho hI hC ha) (by omega)) (by rw [eY0, ← ho_hm hI ha]; exact pb_ho hI ha (by omega) hB)) (rq_w (by rw [eY0, ← ho_hm hI ha]; exact hZ) (by rw [eY8])) dL_moves_604
                · skip
                  replace c_5 := bI_n0 c_5
                  refine lv_iload hx hb dL_moves_590 (lv_at hl 16 rfl) ?_
                  refine lv_goto (tgt := 596) hx hb dL_moves_592 (by decide) ?_
                  refine lv_icmp_ne (tgt := 603) hx hb dL_moves_596 (by decide) (fun c_7 => ?_) (fun c_7 => ?_)
                  · exact absurd c_7 (fun h => h (by rw [eY0, hv_ho hI hC (by omega) ha, hoR, hE, if_pos (of_decide_eq_true c_5), hsm]; exact sub_add _ _))
                  · skip
                    refine lv_iconst (v := 1) hx hb dL_moves_599 (by decide) ?_
                    refine lv_goto (tgt := 604) hx hb dL_moves_600 (by decide) ?_
                    exact end_e (X' := up2 (svX Y r) 0 (hmZ (Y 0) a)) hx hb hrt hlk hP hS (rq_sv (w := w) (rq_Y (X := X) (Y := Y) ⟨hI, hC, hB, hr6, h80, hw6, h81⟩ eY0 eY8) (by rw [eY0, ← ho_hm hI ha]; exact Inv_ho hI ha) (CB_mono (by rw [eY0, ← ho_hm hI ha]; exact CB_ho hI hC ha) (by omega)) (by rw [eY0, ← ho_hm hI ha]; exact pb_ho hI ha (by omega) hB)) (rq_w (by rw [eY0, ← ho_hm hI ha]; exact hZ) (by rw [eY8])) dL_moves_604
            refine lv_icmp_ge (tgt := 572) hx hb dL_moves_562 (by decide) (fun c_8 => ?_) (fun c_8 => ?_)
            · skip
              replace c_8 := ge_n c_8
              have hP : va_P D vwCl (lqW kA al zh (kpU (X 8 1)) ++ cw kA ad Y) _ := Pcg (by rw [← kp_n h81 hw6 c_8]) hP
              have hD : va_D (Aw (lqW kA al (X 0) (X 8 1) ++ cw kA ad X)) (lqW kA al zh (kpU (X 8 1)) ++ cw kA ad Y) := Dcg (by rw [← kp_n h81 hw6 c_8]) hD
              exact jp_562   _ _ hP hD hS ls (lv_sub hl [0, 1, 2, 3, 4, 5, 6, 7, 8, 9, 10, 11, 12, 13, 14, 15, 16, 17] rfl)
            · skip
              replace c_8 := nge_l c_8
              refine lv_aload_n hx hb dL_moves_565 rfl (lv_at hl 3 rfl) ?_
              refine lv_iconst (v := 2) hx hb dL_moves_566 (by decide) ?_
              refine lv_dup2_11 hx hb dL_moves_567 rfl rfl ?_
              refine va_iald (f := lqN zh (X 8 1)) hx hb hK hP 0 0 lwR_0 rfl (in_nI (j := 2) rfl (by omega) (by decide)) dL_moves_568 ?_
              refine W_top (v' := .int (X 8 1)) (rfl) ?_
              refine lv_iconst (v := 1) hx hb dL_moves_569 (by decide) ?_
              refine lv_iadd hx hb dL_moves_570 ?_
              refine va_iast (f := lqN zh (X 8 1)) hx hb hK hP hD hS 0 0 lwR_0 rfl (in_nI (j := 2) rfl (by omega) (by decide)) dL_moves_571 (fun H locs hP hD hS => ?_)
              rw [show (2 : Int32).toNatClampNeg = 2 from rfl] at hP hD
              rw [set_ap (by omega), sn_2] at hP hD
              have hP : va_P D vwCl (lqW kA al zh ((X 8 1) + 1) ++ cw kA ad Y) H := hP
              have hD : va_D (Aw (lqW kA al (X 0) (X 8 1) ++ cw kA ad X)) (lqW kA al zh ((X 8 1) + 1) ++ cw kA ad Y) := hD
              have hP : va_P D vwCl (lqW kA al zh (kpU (X 8 1)) ++ cw kA ad Y) _ := Pcg (by rw [kp_y h81 hw6 c_8]) hP
              have hD : va_D (Aw (lqW kA al (X 0) (X 8 1) ++ cw kA ad X)) (lqW kA al zh (kpU (X 8 1)) ++ cw kA ad Y) := Dcg (by rw [kp_y h81 hw6 c_8]) hD
              exact jp_562   _ _ hP hD hS ls (lv_sub hl [0, 1, 2, 3, 4, 5, 6, 7, 8, 9, 10, 11, 12, 13, 14, 15, 16, 17] rfl)
          refine lv_if_eq (tgt := 557) hx hb dL_moves_523 (by decide) (fun c_9 => ?_) (fun c_9 => ?_)
          · skip
            replace c_9 := bI_0.mp c_9
            exact jp_523 zj (by rw [hoZ, hE, if_neg (of_decide_eq_false c_9)]) _ _ hP hD hS ls (lv_sub hl [1, 2, 3, 4, 5, 6, 7, 8, 9, 10, 11, 12, 13, 14, 15, 16, 17, 0] rfl)
          · skip
            replace c_9 := bI_n0 c_9
            refine lv_aload hx hb dL_moves_526 (lv_at hl 6 rfl) ?_
            refine lv_iload hx hb dL_moves_528 (lv_at hl 15 rfl) ?_
            refine lv_iconst (v := 0) hx hb dL_moves_530 (by decide) ?_
            refine va_iast (f := lqG zj 1) hx hb hK hP hD hS 2 0 lwR_2 rfl (in_nI rfl (by omega) (by decide)) dL_moves_531 (fun H locs hP hD hS => ?_)
            rw [nI_clamp (by omega)] at hP hD
            rw [set_ap (by omega), sg_1] at hP hD
            have hP : va_P D vwCl (lqW kA al (puZ zj a 1 0) (X 8 1) ++ cw kA ad Y) H := hP
            have hD : va_D (Aw (lqW kA al (X 0) (X 8 1) ++ cw kA ad X)) (lqW kA al (puZ zj a 1 0) (X 8 1) ++ cw kA ad Y) := hD
            obtain ⟨h1, e_h1⟩ : ∃ y : Nat → Int32, y = puZ zj a 1 0 := ⟨_, rfl⟩
            rw [← e_h1] at hP hD
            refine lv_aload hx hb dL_moves_532 (lv_at hl 9 rfl) ?_
            refine lv_iload hx hb dL_moves_534 (lv_at hl 15 rfl) ?_
            refine lv_iconst (v := 0) hx hb dL_moves_536 (by decide) ?_
            refine va_iast (f := lqG h1 4) hx hb hK hP hD hS 5 0 lwR_5 rfl (in_nI rfl (by omega) (by decide)) dL_moves_537 (fun H locs hP hD hS => ?_)
            rw [nI_clamp (by omega)] at hP hD
            rw [set_ap (by omega), sg_4] at hP hD
            have hP : va_P D vwCl (lqW kA al (puZ h1 a 4 0) (X 8 1) ++ cw kA ad Y) H := hP
            have hD : va_D (Aw (lqW kA al (X 0) (X 8 1) ++ cw kA ad X)) (lqW kA al (puZ h1 a 4 0) (X 8 1) ++ cw kA ad Y) := hD
            obtain ⟨h2, e_h2⟩ : ∃ y : Nat → Int32, y = puZ h1 a 4 0 := ⟨_, rfl⟩
            rw [← e_h2] at hP hD
            refine lv_aload hx hb dL_moves_538 (lv_at hl 8 rfl) ?_
            refine lv_iload hx hb dL_moves_540 (lv_at hl 15 rfl) ?_
            refine lv_iconst (v := 0) hx hb dL_moves_542 (by decide) ?_
            refine va_iast (f := lqG h2 3) hx hb hK hP hD hS 4 0 lwR_4 rfl (in_nI rfl (by omega) (by decide)) dL_moves_543 (fun H locs hP hD hS => ?_)
            rw [nI_clamp (by omega)] at hP hD
            rw [set_ap (by omega), sg_3] at hP hD
            have hP : va_P D vwCl (lqW kA al (puZ h2 a 3 0) (X 8 1) ++ cw kA ad Y) H := hP
            have hD : va_D (Aw (lqW kA al (X 0) (X 8 1) ++ cw kA ad X)) (lqW kA al (puZ h2 a 3 0) (X 8 1) ++ cw kA ad Y) := hD
            obtain ⟨h3, e_h3⟩ : ∃ y : Nat → Int32, y = puZ h2 a 3 0 := ⟨_, rfl⟩
            rw [← e_h3] at hP hD
            refine lv_aload hx hb dL_moves_544 (lv_at hl 11 rfl) ?_
            refine lv_iconst (v := 5) hx hb dL_moves_546 (by decide) ?_
            refine lv_iload hx hb dL_moves_547 (lv_at hl 15 rfl) ?_
            refine lv_imul hx hb dL_moves_549 ?_
            refine lv_iconst (v := 4) hx hb dL_moves_550 (by decide) ?_
            refine lv_iadd hx hb dL_moves_551 ?_
            refine lv_dup2_11 hx hb dL_moves_552 rfl rfl ?_
            refine va_iald (f := lqU h3) hx hb hK hP 7 0 lwR_7 rfl (in_nI (ux (x := 4) (r := 4) rfl) (by omega) (by decide)) dL_moves_553 ?_
            refine W_top (v' := .int (sl h3 a 10)) (congrArg Value.int (vU (ux (x := 4) (r := 4) rfl) (by omega) (by omega))) ?_
            refine lv_iconst (v := 1) hx hb dL_moves_554 (by decide) ?_
            refine lv_iadd hx hb dL_moves_555 ?_
            refine va_iast (f := lqU h3) hx hb hK hP hD hS 7 0 lwR_7 rfl (in_nI (ux (x := 4) (r := 4) rfl) (by omega) (by decide)) dL_moves_556 (fun H locs hP hD hS => ?_)
            rw [ux (x := 4) (r := 4) rfl, nI_clamp (by omega)] at hP hD
            rw [set_ap (by omega), su_r (a := a) (w := 4) (by omega)] at hP hD
            have hP : va_P D vwCl (lqW kA al (puZ h3 a 10 ((sl h3 a 10) + 1)) (X 8 1) ++ cw kA ad Y) H := hP
            have hD : va_D (Aw (lqW kA al (X 0) (X 8 1) ++ cw kA ad X)) (lqW kA al (puZ h3 a 10 ((sl h3 a 10) + 1)) (X 8 1) ++ cw kA ad Y) := hD
            obtain ⟨h4, e_h4⟩ : ∃ y : Nat → Int32, y = puZ h3 a 10 ((sl h3 a 10) + 1) := ⟨_, rfl⟩
            rw [← e_h4] at hP hD
            exact jp_523 h4 (by rw [hoZ, hE, if_pos (of_decide_eq_true c_9), e_h4, e_h3, e_h2, e_h1]; rfl) _ _ hP hD hS ls (lv_sub hl [1, 2, 3, 4, 5, 6, 7, 8, 9, 10, 11, 12, 13, 14, 15, 16, 17, 0] rfl)
        refine lv_if_ne (tgt := 518) hx hb dL_moves_511 (by decide) (fun c_10 => ?_) (fun c_10 => ?_)
        · skip
          refine lv_iconst (v := 0) hx hb dL_moves_518 (by decide) ?_
          exact jn_511_2 _ (by rw [if_neg c_10])
        · skip
          refine lv_iconst (v := 1) hx hb dL_moves_514 (by decide) ?_
          refine lv_goto (tgt := 519) hx hb dL_moves_515 (by decide) ?_
          exact jn_511_2 _ (by rw [if_pos c_10])
      refine lv_iconst (v := 0) hx hb dL_moves_454 (by decide) ?_
      refine lv_istore (lv' := [(16, .int 0), (15, .int told), (14, .int (nI a)), (13, .int ac), (0, .ref (ad 0)), (1, .int xx), (2, .int yy), (3, .ref (al 0)), (4, .ref (al 1)), (5, .ref (al 2)), (6, .ref (al 3)), (7, .ref (al 4)), (8, .ref (al 5)), (9, .ref (al 6)), (10, .ref (al 7)), (11, .ref (al 8)), (12, .ref (al 9))]) hx hb dL_moves_455 hl (by decide) rfl (fun ls hl => ?_)
      have loop_457 : ∀ (n : Nat) (j : Nat) (zj : Nat → Int32) (x16 : Int32) (hj : j + n = 40) (e16 : x16 = nI j) (hIj : Inv zj) (hsm : sl zj a 6 = sl (X 0) a 6 + x16) (hres : hzL a n zj = hzL a 40 (X 0)), ∀ (H : Heap) (locs : List Loc), va_P D vwCl (lqW kA al zj (X 8 1) ++ cw kA ad Y) H → va_D (Aw (lqW kA al (X 0) (X 8 1) ++ cw kA ad X)) (lqW kA al zj (X 8 1) ++ cw kA ad Y) → va_S (Aw (lqW kA al (X 0) (X 8 1) ++ cw kA ad X)) s.heap H locs → ∀ ls : Array Slot, lv_has ls 21 [(0, .ref (ad 0)), (1, .int xx), (2, .int yy), (3, .ref (al 0)), (4, .ref (al 1)), (5, .ref (al 2)), (6, .ref (al 3)), (7, .ref (al 4)), (8, .ref (al 5)), (9, .ref (al 6)), (10, .ref (al 7)), (11, .ref (al 8)), (12, .ref (al 9)), (13, .int ac), (14, .int (nI a)), (15, .int told), (16, .int x16)] → W p l e ({ frames := 5, cells := 0, slots := 0, locals := 151 } : Room) s m [.ref (ad 0), .int xx, .int yy, .ref (al 0), .ref (al 1), .ref (al 2), .ref (al 3), .ref (al 4), .ref (al 5), .ref (al 6), .ref (al 7), .ref (al 8), .ref (al 9)].toArray below meth c H locs 0 0 (MQ below (eQ D kA al ad (N + 50) M (lqW kA al (X 0) (X 8 1) ++ cw kA ad X)) [.ref (ad 0), .int xx, .int yy, .ref (al 0), .ref (al 1), .ref (al 2), .ref (al 3), .ref (al 4), .ref (al 5), .ref (al 6), .ref (al 7), .ref (al 8), .ref (al 9)].toArray s 0 0 (Aw (lqW kA al (X 0) (X 8 1) ++ cw kA ad X))) (F0 m 457 ls []) := by
        clear hl
        clear hP hD hS
        intro n
        induction n with
        | zero =>
          intro j zj x16 hj e16 hIj hsm hres H locs hP hD hS ls hl
          refine lv_aload hx hb dL_moves_457 (lv_at hl 4 rfl) ?_
          refine lv_iload hx hb dL_moves_459 (lv_at hl 14 rfl) ?_
          refine va_iald (f := lqG zj 0) hx hb hK hP 1 0 lwR_1 rfl (in_nI rfl (by omega) (by decide)) dL_moves_461 ?_
          refine W_top (v' := .int (sl zj a 0)) (congrArg Value.int (vG (by omega))) ?_
          refine lv_if_eq (tgt := 506) hx hb dL_moves_462 (by decide) (fun c_11 => ?_) (fun c_11 => ?_)
          · skip
            exact jp_454 zj x16 (by rw [← hres]; rfl) (hsm) _ _ hP hD hS ls (lv_sub hl [0, 1, 2, 3, 4, 5, 6, 7, 8, 9, 10, 11, 12, 13, 14, 15, 16] rfl)
          · skip
            refine lv_iload hx hb dL_moves_465 (lv_at hl 16 rfl) ?_
            refine lv_bipush (v := 40) hx hb dL_moves_467 (by decide) ?_
            refine lv_icmp_ge (tgt := 506) hx hb dL_moves_469 (by decide) (fun c_12 => ?_) (fun c_12 => ?_)
            · skip
              replace c_12 := ge_n c_12
              exact jp_454 zj x16 (by rw [← hres]; rfl) (hsm) _ _ hP hD hS ls (lv_sub hl [0, 1, 2, 3, 4, 5, 6, 7, 8, 9, 10, 11, 12, 13, 14, 15, 16] rfl)
            · exact absurd c_12 (fun h => h (cnt_ge (N := 40) e16 rfl (by omega) (by omega)))
        | succ n ih457 =>
          intro j zj x16 hj e16 hIj hsm hres H locs hP hD hS ls hl
          refine lv_aload hx hb dL_moves_457 (lv_at hl 4 rfl) ?_
          refine lv_iload hx hb dL_moves_459 (lv_at hl 14 rfl) ?_
          refine va_iald (f := lqG zj 0) hx hb hK hP 1 0 lwR_1 rfl (in_nI rfl (by omega) (by decide)) dL_moves_461 ?_
          refine W_top (v' := .int (sl zj a 0)) (congrArg Value.int (vG (by omega))) ?_
          refine lv_if_eq (tgt := 506) hx hb dL_moves_462 (by decide) (fun c_13 => ?_) (fun c_13 => ?_)
          · skip
            exact jp_454 zj x16 (by rw [← hres, hzL, if_pos c_13]) (hsm) _ _ hP hD hS ls (lv_sub hl [0, 1, 2, 3, 4, 5, 6, 7, 8, 9, 10, 11, 12, 13, 14, 15, 16] rfl)
          · skip
            refine lv_iload hx hb dL_moves_465 (lv_at hl 16 rfl) ?_
            refine lv_bipush (v := 40) hx hb dL_moves_467 (by decide) ?_
            refine lv_icmp_ge (tgt := 506) hx hb dL_moves_469 (by decide) (fun c_14 => ?_) (fun c_14 => ?_)
            · exact absurd c_14 (cnt_nge (N := 40) e16 rfl (by omega) (by omega))
            · skip
              replace c_14 := nge_l c_14
              refine lv_aload_n hx hb dL_moves_472 rfl (lv_at hl 3 rfl) ?_
              refine lv_aload hx hb dL_moves_473 (lv_at hl 4 rfl) ?_
              refine lv_aload hx hb dL_moves_475 (lv_at hl 5 rfl) ?_
              refine lv_aload hx hb dL_moves_477 (lv_at hl 6 rfl) ?_
              refine lv_aload hx hb dL_moves_479 (lv_at hl 7 rfl) ?_
              refine lv_aload hx hb dL_moves_481 (lv_at hl 8 rfl) ?_
              refine lv_aload hx hb dL_moves_483 (lv_at hl 9 rfl) ?_
              refine lv_aload hx hb dL_moves_485 (lv_at hl 10 rfl) ?_
              refine lv_aload hx hb dL_moves_487 (lv_at hl 11 rfl) ?_
              refine lv_aload hx hb dL_moves_489 (lv_at hl 12 rfl) ?_
              refine lv_iload hx hb dL_moves_491 (lv_at hl 14 rfl) ?_
              refine lv_iconst (v := (-1)) hx hb dL_moves_493 (by decide) ?_
              refine W_top (v' := .int (wI false)) (congrArg Value.int (rfl)) ?_
              refine cs_fs (runS (As := [.ref (al 0), .ref (al 1), .ref (al 2), .ref (al 3), .ref (al 4), .ref (al 5), .ref (al 6), .ref (al 7), .ref (al 8), .ref (al 9), .int (nI a), .int (wI false)]) (rest := []) ⟨hx, hb, hml, hown, hts⟩ (m_L_step l D kA al zj (X 8 1) a false (hIj) (ha)) q_208 q_209 q_0 q_210 hd_L_step ⟨rfl, rfl⟩ ⟨Nat.le_of_ble_eq_true rfl, Nat.le_of_ble_eq_true rfl⟩ hK (ws := (lqW kA al zj (X 8 1))) hP.l hD.lf rfl hl.1 rfl (Nat.le_of_ble_eq_true rfl) dL_moves_494 ⟨Nat.zero_le _, Nat.zero_le _⟩) hS (fun q h => Aw.lf q (lw_Aw h)) (fun H locs hP1 hk1 hS => ?_)
              obtain ⟨hP, hD⟩ := jL (a' := (lqW kA al (stZ zj a false) (X 8 1))) hP hD hk1 hP1 lw_fst
              clear hk1 hP1
              refine lv_if_eq (tgt := 506) hx hb dL_moves_497 (by decide) (fun c_15 => ?_) (fun c_15 => ?_)
              · skip
                replace c_15 := bI_0.mp c_15
                have hP : va_P D vwCl (lqW kA al zj (X 8 1) ++ cw kA ad Y) _ := Pcg (by rw [stZ_f c_15]) hP
                have hD : va_D (Aw (lqW kA al (X 0) (X 8 1) ++ cw kA ad X)) (lqW kA al zj (X 8 1) ++ cw kA ad Y) := Dcg (by rw [stZ_f c_15]) hD
                exact jp_454 zj x16 (by rw [← hres, hzL, if_neg c_13, if_neg (by rw [c_15]; decide)]) (hsm) _ _ hP hD hS ls (lv_sub hl [0, 1, 2, 3, 4, 5, 6, 7, 8, 9, 10, 11, 12, 13, 14, 15, 16] rfl)
              · skip
                replace c_15 := bI_n0 c_15
                have hP : va_P D vwCl (lqW kA al (zS zj a (wI false)) (X 8 1) ++ cw kA ad Y) _ := Pcg (by rw [stZ_t c_15]) hP
                have hD : va_D (Aw (lqW kA al (X 0) (X 8 1) ++ cw kA ad X)) (lqW kA al (zS zj a (wI false)) (X 8 1) ++ cw kA ad Y) := Dcg (by rw [stZ_t c_15]) hD
                refine lv_iinc (v := x16 + 1) (lv' := [(16, .int (x16 + 1)), (0, .ref (ad 0)), (1, .int xx), (2, .int yy), (3, .ref (al 0)), (4, .ref (al 1)), (5, .ref (al 2)), (6, .ref (al 3)), (7, .ref (al 4)), (8, .ref (al 5)), (9, .ref (al 6)), (10, .ref (al 7)), (11, .ref (al 8)), (12, .ref (al 9)), (13, .int ac), (14, .int (nI a)), (15, .int told)]) hx hb dL_moves_500 hl (k := 16) rfl (by first | rfl | exact congrArg (_ + ·) (by decide)) (by decide) rfl (fun ls hl => ?_)
                refine lv_goto (tgt := 457) hx hb dL_moves_503 (by decide) ?_
                exact ih457 (j + 1) (zS zj a (wI false)) (x16 + 1) (by omega) (by rw [e16]; exact nI_1 j) (Inv_S hIj ha (canF_t.mp c_15)) (st_6 hsm c_15) (by rw [← hres, hzL, if_neg c_13, if_pos c_15]) _ _ hP hD hS ls (lv_sub hl [1, 2, 3, 4, 5, 6, 7, 8, 9, 10, 11, 12, 13, 14, 15, 16, 0] rfl)
      exact loop_457 40 0 (X 0) 0 (by omega) (nI_0.symm) (hI) ((add0 _).symm) (rfl) _ _ hP hD hS ls (lv_sub hl [4, 5, 6, 7, 8, 9, 10, 11, 12, 13, 14, 15, 16, 3, 2, 1, 0] rfl)
    · skip
      replace c_2 := nge_l c_2
      refine lv_iload_n hx hb dL_moves_186 rfl (lv_at hl 4 rfl) ?_
      refine lv_bipush (v := 24) hx hb dL_moves_187 (by decide) ?_
      refine cs_p (runS (As := [.int yy, .int 24]) (rest := []) ⟨hx, hb, hml, hown, hts⟩ (m_L_at l D kA yy 24 (by decide)) q_193 q_194 q_0 q_195 hd_L_at ⟨rfl, rfl⟩ ⟨Nat.le_of_ble_eq_true rfl, Nat.le_of_ble_eq_true rfl⟩ hK (ws := []) (fun _ _ h => by simp at h) (D0 (A := fun _ => True)) rfl hl.1 rfl (Nat.le_of_ble_eq_true rfl) dL_moves_189 ⟨Nat.zero_le _, Nat.zero_le _⟩) ?_
      obtain ⟨q, hq, e_q⟩ := at_in yy (N := 24) (by omega) (by omega)
      refine W_top (v' := .int (nI q)) (congrArg Value.int (e_q)) ?_
      refine lv_istore (lv' := [(15, .int (nI q)), (14, .int (nI a)), (13, .int ac), (0, .ref (ad 0)), (1, .int xx), (2, .int yy), (3, .ref (al 0)), (4, .ref (al 1)), (5, .ref (al 2)), (6, .ref (al 3)), (7, .ref (al 4)), (8, .ref (al 5)), (9, .ref (al 6)), (10, .ref (al 7)), (11, .ref (al 8)), (12, .ref (al 9))]) hx hb dL_moves_192 hl (by decide) rfl (fun ls hl => ?_)
      refine lv_aload_n hx hb dL_moves_194 rfl (lv_at hl 6 rfl) ?_
      refine lv_aload hx hb dL_moves_195 (lv_at hl 8 rfl) ?_
      refine lv_aload hx hb dL_moves_197 (lv_at hl 9 rfl) ?_
      refine lv_aload hx hb dL_moves_199 (lv_at hl 12 rfl) ?_
      refine lv_aload hx hb dL_moves_201 (lv_at hl 14 rfl) ?_
      refine lv_aload hx hb dL_moves_203 (lv_at hl 15 rfl) ?_
      refine lv_iload hx hb dL_moves_205 (lv_at hl 1 rfl) ?_
      refine lv_iload hx hb dL_moves_207 (lv_at hl 0 rfl) ?_
      refine lv_iconst (v := 1) hx hb dL_moves_209 (by decide) ?_
      refine W_top (v' := .int (wI true)) (congrArg Value.int (rfl)) ?_
      refine lv_iconst (v := (-1)) hx hb dL_moves_210 (by decide) ?_
      refine cs_p (runS (As := [.ref (al 0), .ref (al 2), .ref (al 3), .ref (al 6), .ref (al 8), .ref (al 9), .int (nI a), .int (nI q), .int (wI true), .int (-1)]) (rest := []) ⟨hx, hb, hml, hown, hts⟩ (m_L_cost l D kA al (X 0) (X 8 1) a (nI q) q true (hI) (ha) (rfl) (hq)) q_401 q_402 q_0 q_403 hd_L_cost ⟨rfl, rfl⟩ ⟨Nat.le_of_ble_eq_true rfl, Nat.le_of_ble_eq_true rfl⟩ hK (ws := (lqW kA al (X 0) (X 8 1))) hP.l hD.lf rfl hl.1 rfl (Nat.le_of_ble_eq_true rfl) dL_moves_211 ⟨Nat.zero_le _, Nat.zero_le _⟩) ?_
      obtain ⟨cu, e_cu⟩ : ∃ y9 : Int32, y9 = costG (sl (X 0) a) (X 0) (nI q) (wI true) (-1) := ⟨_, rfl⟩
      rw [← e_cu]
      refine lv_istore (lv' := [(16, .int cu), (15, .int (nI q)), (14, .int (nI a)), (13, .int ac), (0, .ref (ad 0)), (1, .int xx), (2, .int yy), (3, .ref (al 0)), (4, .ref (al 1)), (5, .ref (al 2)), (6, .ref (al 3)), (7, .ref (al 4)), (8, .ref (al 5)), (9, .ref (al 6)), (10, .ref (al 7)), (11, .ref (al 8)), (12, .ref (al 9))]) hx hb dL_moves_214 hl (by decide) rfl (fun ls hl => ?_)
      refine lv_aload_n hx hb dL_moves_216 rfl (lv_at hl 7 rfl) ?_
      refine lv_aload hx hb dL_moves_217 (lv_at hl 9 rfl) ?_
      refine lv_aload hx hb dL_moves_219 (lv_at hl 10 rfl) ?_
      refine lv_aload hx hb dL_moves_221 (lv_at hl 13 rfl) ?_
      refine lv_aload hx hb dL_moves_223 (lv_at hl 15 rfl) ?_
      refine lv_aload hx hb dL_moves_225 (lv_at hl 16 rfl) ?_
      refine lv_iload hx hb dL_moves_227 (lv_at hl 2 rfl) ?_
      refine lv_iload hx hb dL_moves_229 (lv_at hl 1 rfl) ?_
      refine lv_iconst (v := (-1)) hx hb dL_moves_231 (by decide) ?_
      refine W_top (v' := .int (wI false)) (congrArg Value.int (rfl)) ?_
      refine lv_iconst (v := (-1)) hx hb dL_moves_232 (by decide) ?_
      refine cs_p (runS (As := [.ref (al 0), .ref (al 2), .ref (al 3), .ref (al 6), .ref (al 8), .ref (al 9), .int (nI a), .int (nI q), .int (wI false), .int (-1)]) (rest := []) ⟨hx, hb, hml, hown, hts⟩ (m_L_cost l D kA al (X 0) (X 8 1) a (nI q) q false (hI) (ha) (rfl) (hq)) q_401 q_402 q_0 q_403 hd_L_cost ⟨rfl, rfl⟩ ⟨Nat.le_of_ble_eq_true rfl, Nat.le_of_ble_eq_true rfl⟩ hK (ws := (lqW kA al (X 0) (X 8 1))) hP.l hD.lf rfl hl.1 rfl (Nat.le_of_ble_eq_true rfl) dL_moves_233 ⟨Nat.zero_le _, Nat.zero_le _⟩) ?_
      obtain ⟨cd, e_cd⟩ : ∃ y9 : Int32, y9 = costG (sl (X 0) a) (X 0) (nI q) (wI false) (-1) := ⟨_, rfl⟩
      rw [← e_cd]
      refine lv_istore (lv' := [(17, .int cd), (16, .int cu), (15, .int (nI q)), (14, .int (nI a)), (13, .int ac), (0, .ref (ad 0)), (1, .int xx), (2, .int yy), (3, .ref (al 0)), (4, .ref (al 1)), (5, .ref (al 2)), (6, .ref (al 3)), (7, .ref (al 4)), (8, .ref (al 5)), (9, .ref (al 6)), (10, .ref (al 7)), (11, .ref (al 8)), (12, .ref (al 9))]) hx hb dL_moves_236 hl (by decide) rfl (fun ls hl => ?_)
      refine lv_aload_n hx hb dL_moves_238 rfl (lv_at hl 5 rfl) ?_
      refine lv_iload hx hb dL_moves_239 (lv_at hl 3 rfl) ?_
      refine lv_iload hx hb dL_moves_241 (lv_at hl 2 rfl) ?_
      refine lv_iconst (v := 1) hx hb dL_moves_243 (by decide) ?_
      refine W_top (v' := .int (bI true)) (congrArg Value.int (rfl)) ?_
      refine cs_p (runV (As := [.int (nI a), .int (nI q), .int (bI true)]) (rest := []) ⟨hx, hb, hml, hown, hts⟩ (m_X5_cost_p l D kA ad X a (nI a) (nI q) true (rfl) (ha) (nI_pos (by omega)) ((nI_ltI (b := 24) (by omega) (by omega)).mpr hq)) q_404 q_405 q_406 q_1 q_407 hd_X5_cost ⟨rfl, rfl⟩ ⟨Nat.le_of_ble_eq_true rfl, Nat.le_of_ble_eq_true rfl⟩ hK (ws := (cw kA ad X)) hP.r hD.rt _ (ci := 5) (C := RX5) (T := TX5) (N := 6) rfl cw_arm rfl hl.1 rfl (Nat.le_of_ble_eq_true rfl) dL_moves_244 ⟨Nat.zero_le _, Nat.zero_le _⟩) ?_
      refine lv_iload hx hb dL_moves_247 (lv_at hl 1 rfl) ?_
      refine lv_icmp_ne (tgt := 266) hx hb dL_moves_249 (by decide) (fun c_16 => ?_) (fun c_16 => ?_)
      · exact absurd c_16 (fun h => h e_cu.symm)
      · skip
        refine lv_aload_n hx hb dL_moves_252 rfl (lv_at hl 5 rfl) ?_
        refine lv_iload hx hb dL_moves_253 (lv_at hl 3 rfl) ?_
        refine lv_iload hx hb dL_moves_255 (lv_at hl 2 rfl) ?_
        refine lv_iconst (v := 0) hx hb dL_moves_257 (by decide) ?_
        refine W_top (v' := .int (bI false)) (congrArg Value.int (rfl)) ?_
        refine cs_p (runV (As := [.int (nI a), .int (nI q), .int (bI false)]) (rest := []) ⟨hx, hb, hml, hown, hts⟩ (m_X5_cost_p l D kA ad X a (nI a) (nI q) false (rfl) (ha) (nI_pos (by omega)) ((nI_ltI (b := 24) (by omega) (by omega)).mpr hq)) q_404 q_405 q_406 q_1 q_407 hd_X5_cost ⟨rfl, rfl⟩ ⟨Nat.le_of_ble_eq_true rfl, Nat.le_of_ble_eq_true rfl⟩ hK (ws := (cw kA ad X)) hP.r hD.rt _ (ci := 5) (C := RX5) (T := TX5) (N := 6) rfl cw_arm rfl hl.1 rfl (Nat.le_of_ble_eq_true rfl) dL_moves_258 ⟨Nat.zero_le _, Nat.zero_le _⟩) ?_
        refine lv_iload hx hb dL_moves_261 (lv_at hl 0 rfl) ?_
        refine lv_icmp_eq (tgt := 268) hx hb dL_moves_263 (by decide) (fun c_17 => ?_) (fun c_17 => ?_)
        · skip
          refine lv_iload hx hb dL_moves_268 (lv_at hl 1 rfl) ?_
          refine lv_iload hx hb dL_moves_270 (lv_at hl 0 rfl) ?_
          have jn_272_17 : ∀ v : Int32, v = (if cd < cu then (-1) else 1) → W p l e ({ frames := 5, cells := 0, slots := 0, locals := 151 } : Room) s m [.ref (ad 0), .int xx, .int yy, .ref (al 0), .ref (al 1), .ref (al 2), .ref (al 3), .ref (al 4), .ref (al 5), .ref (al 6), .ref (al 7), .ref (al 8), .ref (al 9)].toArray below meth c s.heap [] 0 0 (MQ below (eQ D kA al ad (N + 50) M (lqW kA al (X 0) (X 8 1) ++ cw kA ad X)) [.ref (ad 0), .int xx, .int yy, .ref (al 0), .ref (al 1), .ref (al 2), .ref (al 3), .ref (al 4), .ref (al 5), .ref (al 6), .ref (al 7), .ref (al 8), .ref (al 9)].toArray s 0 0 (Aw (lqW kA al (X 0) (X 8 1) ++ cw kA ad X))) (F0 m 280 ls (.int v :: [])) := by
            intro v ev
            obtain ⟨up, eup⟩ := ch_w (z := X 0) (a := a) (q := nI q)
            have ev2 : v = wI up := by rw [ev, ← eup, e_cu, e_cd]; rfl
            clear ev
            subst ev2
            refine lv_istore (lv' := [(18, .int (wI up)), (17, .int cd), (16, .int cu), (15, .int (nI q)), (14, .int (nI a)), (13, .int ac), (0, .ref (ad 0)), (1, .int xx), (2, .int yy), (3, .ref (al 0)), (4, .ref (al 1)), (5, .ref (al 2)), (6, .ref (al 3)), (7, .ref (al 4)), (8, .ref (al 5)), (9, .ref (al 6)), (10, .ref (al 7)), (11, .ref (al 8)), (12, .ref (al 9))]) hx hb dL_moves_280 hl (by decide) rfl (fun ls hl => ?_)
            refine lv_aload hx hb dL_moves_282 (lv_at hl 11 rfl) ?_
            refine lv_iload hx hb dL_moves_284 (lv_at hl 4 rfl) ?_
            refine va_iald (f := lqG (X 0) 1) hx hb hK hP 2 0 lwR_2 rfl (in_nI rfl (by omega) (by decide)) dL_moves_286 ?_
            refine W_top (v' := .int (sl (X 0) a 1)) (congrArg Value.int (vG (by omega))) ?_
            refine lv_iload hx hb dL_moves_287 (lv_at hl 3 rfl) ?_
            have jp_289 : ∀ (hcg : cgF (X 0) a (nI q) = true), ∀ (H : Heap) (locs : List Loc), va_P D vwCl (lqW kA al (X 0) (X 8 1) ++ cw kA ad X) H → va_D (Aw (lqW kA al (X 0) (X 8 1) ++ cw kA ad X)) (lqW kA al (X 0) (X 8 1) ++ cw kA ad X) → va_S (Aw (lqW kA al (X 0) (X 8 1) ++ cw kA ad X)) s.heap H locs → ∀ ls : Array Slot, lv_has ls 21 [(0, .ref (ad 0)), (1, .int xx), (2, .int yy), (3, .ref (al 0)), (4, .ref (al 1)), (5, .ref (al 2)), (6, .ref (al 3)), (7, .ref (al 4)), (8, .ref (al 5)), (9, .ref (al 6)), (10, .ref (al 7)), (11, .ref (al 8)), (12, .ref (al 9)), (13, .int ac), (14, .int (nI a)), (15, .int (nI q)), (16, .int cu), (17, .int cd), (18, .int (wI up))] → W p l e ({ frames := 5, cells := 0, slots := 0, locals := 151 } : Room) s m [.ref (ad 0), .int xx, .int yy, .ref (al 0), .ref (al 1), .ref (al 2), .ref (al 3), .ref (al 4), .ref (al 5), .ref (al 6), .ref (al 7), .ref (al 8), .ref (al 9)].toArray below meth c H locs 0 0 (MQ below (eQ D kA al ad (N + 50) M (lqW kA al (X 0) (X 8 1) ++ cw kA ad X)) [.ref (ad 0), .int xx, .int yy, .ref (al 0), .ref (al 1), .ref (al 2), .ref (al 3), .ref (al 4), .ref (al 5), .ref (al 6), .ref (al 7), .ref (al 8), .ref (al 9)].toArray s 0 0 (Aw (lqW kA al (X 0) (X 8 1) ++ cw kA ad X))) (F0 m 341 ls []) := by
              intro  hcg H locs hP hD hS ls hl
              refine lv_aload hx hb dL_moves_341 (lv_at hl 10 rfl) ?_
              refine lv_iconst (v := 5) hx hb dL_moves_343 (by decide) ?_
              refine lv_iload hx hb dL_moves_344 (lv_at hl 14 rfl) ?_
              refine lv_imul hx hb dL_moves_346 ?_
              refine lv_iconst (v := 2) hx hb dL_moves_347 (by decide) ?_
              refine lv_iadd hx hb dL_moves_348 ?_
              refine va_iald (f := lqU (X 0)) hx hb hK hP 7 0 lwR_7 rfl (in_nI (ux (x := 2) (r := 2) rfl) (by omega) (by decide)) dL_moves_349 ?_
              refine W_top (v' := .int (sl (X 0) a 8)) (congrArg Value.int (vU (ux (x := 2) (r := 2) rfl) (by omega) (by omega))) ?_
              refine lv_istore (lv' := [(19, .int (sl (X 0) a 8)), (0, .ref (ad 0)), (1, .int xx), (2, .int yy), (3, .ref (al 0)), (4, .ref (al 1)), (5, .ref (al 2)), (6, .ref (al 3)), (7, .ref (al 4)), (8, .ref (al 5)), (9, .ref (al 6)), (10, .ref (al 7)), (11, .ref (al 8)), (12, .ref (al 9)), (13, .int ac), (14, .int (nI a)), (15, .int (nI q)), (16, .int cu), (17, .int cd), (18, .int (wI up))]) hx hb dL_moves_350 hl (by decide) rfl (fun ls hl => ?_)
              have jp_352 : ∀ (zj : Nat → Int32) (sm : Int32) (hE : gtF (X 0) a (nI q) = (sm, zj)) (hsm : sl zj a 8 = sl (X 0) a 8 + sm), ∀ (H : Heap) (locs : List Loc), va_P D vwCl (lqW kA al zj (X 8 1) ++ cw kA ad X) H → va_D (Aw (lqW kA al (X 0) (X 8 1) ++ cw kA ad X)) (lqW kA al zj (X 8 1) ++ cw kA ad X) → va_S (Aw (lqW kA al (X 0) (X 8 1) ++ cw kA ad X)) s.heap H locs → ∀ ls : Array Slot, lv_has ls 21 [(0, .ref (ad 0)), (1, .int xx), (2, .int yy), (3, .ref (al 0)), (4, .ref (al 1)), (5, .ref (al 2)), (6, .ref (al 3)), (7, .ref (al 4)), (8, .ref (al 5)), (9, .ref (al 6)), (10, .ref (al 7)), (11, .ref (al 8)), (12, .ref (al 9)), (13, .int ac), (14, .int (nI a)), (15, .int (nI q)), (16, .int cu), (17, .int cd), (18, .int (wI up)), (19, .int (sl (X 0) a 8))] → W p l e ({ frames := 5, cells := 0, slots := 0, locals := 151 } : Room) s m [.ref (ad 0), .int xx, .int yy, .ref (al 0), .ref (al 1), .ref (al 2), .ref (al 3), .ref (al 4), .ref (al 5), .ref (al 6), .ref (al 7), .ref (al 8), .ref (al 9)].toArray below meth c H locs 0 0 (MQ below (eQ D kA al ad (N + 50) M (lqW kA al (X 0) (X 8 1) ++ cw kA ad X)) [.ref (ad 0), .int xx, .int yy, .ref (al 0), .ref (al 1), .ref (al 2), .ref (al 3), .ref (al 4), .ref (al 5), .ref (al 6), .ref (al 7), .ref (al 8), .ref (al 9)].toArray s 0 0 (Aw (lqW kA al (X 0) (X 8 1) ++ cw kA ad X))) (F0 m 401 ls []) := by
                intro zj sm hE hsm H locs hP hD hS ls hl
                refine lv_aload_n hx hb dL_moves_401 rfl (lv_at hl 3 rfl) ?_
                refine lv_iconst (v := 2) hx hb dL_moves_402 (by decide) ?_
                refine va_iald (f := lqN zj (X 8 1)) hx hb hK hP 0 0 lwR_0 rfl (in_nI (j := 2) rfl (by omega) (by decide)) dL_moves_403 ?_
                refine W_top (v' := .int (X 8 1)) (rfl) ?_
                refine lv_bipush (v := 6) hx hb dL_moves_404 (by decide) ?_
                have jp_406 : ∀ (H : Heap) (locs : List Loc), va_P D vwCl (lqW kA al zj (kpU (X 8 1)) ++ cw kA ad X) H → va_D (Aw (lqW kA al (X 0) (X 8 1) ++ cw kA ad X)) (lqW kA al zj (kpU (X 8 1)) ++ cw kA ad X) → va_S (Aw (lqW kA al (X 0) (X 8 1) ++ cw kA ad X)) s.heap H locs → ∀ ls : Array Slot, lv_has ls 21 [(0, .ref (ad 0)), (1, .int xx), (2, .int yy), (3, .ref (al 0)), (4, .ref (al 1)), (5, .ref (al 2)), (6, .ref (al 3)), (7, .ref (al 4)), (8, .ref (al 5)), (9, .ref (al 6)), (10, .ref (al 7)), (11, .ref (al 8)), (12, .ref (al 9)), (13, .int ac), (14, .int (nI a)), (15, .int (nI q)), (16, .int cu), (17, .int cd), (18, .int (wI up)), (19, .int (sl (X 0) a 8))] → W p l e ({ frames := 5, cells := 0, slots := 0, locals := 151 } : Room) s m [.ref (ad 0), .int xx, .int yy, .ref (al 0), .ref (al 1), .ref (al 2), .ref (al 3), .ref (al 4), .ref (al 5), .ref (al 6), .ref (al 7), .ref (al 8), .ref (al 9)].toArray below meth c H locs 0 0 (MQ below (eQ D kA al ad (N + 50) M (lqW kA al (X 0) (X 8 1) ++ cw kA ad X)) [.ref (ad 0), .int xx, .int yy, .ref (al 0), .ref (al 1), .ref (al 2), .ref (al 3), .ref (al 4), .ref (al 5), .ref (al 6), .ref (al 7), .ref (al 8), .ref (al 9)].toArray s 0 0 (Aw (lqW kA al (X 0) (X 8 1) ++ cw kA ad X))) (F0 m 416 ls []) := by
                  intro   H locs hP hD hS ls hl
                  refine lv_aload_n hx hb dL_moves_416 rfl (lv_at hl 0 rfl) ?_
                  refine lv_iload hx hb dL_moves_417 (lv_at hl 14 rfl) ?_
                  refine lv_iload hx hb dL_moves_419 (lv_at hl 15 rfl) ?_
                  refine cs_fs (runV (As := [.int (nI a), .int (nI q)]) (rest := []) ⟨hx, hb, hml, hown, hts⟩ (m_X5_go_p l D kA ad X a (nI a) (nI q) r (rfl) (ha) (h80) (hr6) (nI_pos (by omega)) ((nI_ltI (b := 24) (by omega) (by omega)).mpr hq) (hcg)) q_416 q_417 q_418 q_1 q_419 hd_X5_go ⟨rfl, rfl⟩ ⟨Nat.le_of_ble_eq_true rfl, Nat.le_of_ble_eq_true rfl⟩ hK (ws := (cw kA ad X)) hP.r hD.rt _ (ci := 5) (C := RX5) (T := TX5) (N := 6) rfl cw_arm rfl hl.1 rfl (Nat.le_of_ble_eq_true rfl) dL_moves_421 ⟨Nat.zero_le _, Nat.zero_le _⟩) hS (fun q h => Aw.rt q (cw_Aw h)) (fun H locs hP1 hk1 hS => ?_)
                  obtain ⟨hP, hD⟩ := jR (b' := cw kA ad (up2 (svX X r) 0 (gtF (X 0) a (nI q)).2)) hP hD hk1 hP1 cw_fst
                  clear hk1 hP1
                  refine lv_aload hx hb dL_moves_424 (lv_at hl 10 rfl) ?_
                  refine lv_iconst (v := 5) hx hb dL_moves_426 (by decide) ?_
                  refine lv_iload hx hb dL_moves_427 (lv_at hl 14 rfl) ?_
                  refine lv_imul hx hb dL_moves_429 ?_
                  refine lv_iconst (v := 2) hx hb dL_moves_430 (by decide) ?_
                  refine lv_iadd hx hb dL_moves_431 ?_
                  refine va_iald (f := lqU zj) hx hb hK hP 7 0 lwR_7 rfl (in_nI (ux (x := 2) (r := 2) rfl) (by omega) (by decide)) dL_moves_432 ?_
                  refine W_top (v' := .int (sl zj a 8)) (congrArg Value.int (vU (ux (x := 2) (r := 2) rfl) (by omega) (by omega))) ?_
                  refine lv_iload hx hb dL_moves_433 (lv_at hl 19 rfl) ?_
                  refine lv_isub hx hb dL_moves_435 ?_
                  refine lv_icmp_ne (tgt := 443) hx hb dL_moves_436 (by decide) (fun c_19 => ?_) (fun c_19 => ?_)
                  · exact absurd c_19 (fun h => h (by rw [hE, hsm]; exact (sub_add _ _).symm))
                  · skip
                    refine lv_iconst (v := 1) hx hb dL_moves_439 (by decide) ?_
                    refine lv_goto (tgt := 444) hx hb dL_moves_440 (by decide) ?_
                    exact end_e (X' := up2 (svX X r) 0 (gtF (X 0) a (nI q)).2) hx hb hrt hlk hP hS (rq_sv (w := w) ⟨hI, hC, hB, hr6, h80, hw6, h81⟩ (Inv_go hI ha) (CB_mono (CB_go hI hC ha) (by omega)) (pb_go hI ha (by omega) hB)) (rq_w (by rw [hE]) rfl) dL_moves_444
                refine lv_icmp_ge (tgt := 416) hx hb dL_moves_406 (by decide) (fun c_20 => ?_) (fun c_20 => ?_)
                · skip
                  replace c_20 := ge_n c_20
                  have hP : va_P D vwCl (lqW kA al zj (kpU (X 8 1)) ++ cw kA ad X) _ := Pcg (by rw [← kp_n h81 hw6 c_20]) hP
                  have hD : va_D (Aw (lqW kA al (X 0) (X 8 1) ++ cw kA ad X)) (lqW kA al zj (kpU (X 8 1)) ++ cw kA ad X) := Dcg (by rw [← kp_n h81 hw6 c_20]) hD
                  exact jp_406   _ _ hP hD hS ls (lv_sub hl [0, 1, 2, 3, 4, 5, 6, 7, 8, 9, 10, 11, 12, 13, 14, 15, 16, 17, 18, 19] rfl)
                · skip
                  replace c_20 := nge_l c_20
                  refine lv_aload_n hx hb dL_moves_409 rfl (lv_at hl 3 rfl) ?_
                  refine lv_iconst (v := 2) hx hb dL_moves_410 (by decide) ?_
                  refine lv_dup2_11 hx hb dL_moves_411 rfl rfl ?_
                  refine va_iald (f := lqN zj (X 8 1)) hx hb hK hP 0 0 lwR_0 rfl (in_nI (j := 2) rfl (by omega) (by decide)) dL_moves_412 ?_
                  refine W_top (v' := .int (X 8 1)) (rfl) ?_
                  refine lv_iconst (v := 1) hx hb dL_moves_413 (by decide) ?_
                  refine lv_iadd hx hb dL_moves_414 ?_
                  refine va_iast (f := lqN zj (X 8 1)) hx hb hK hP hD hS 0 0 lwR_0 rfl (in_nI (j := 2) rfl (by omega) (by decide)) dL_moves_415 (fun H locs hP hD hS => ?_)
                  rw [show (2 : Int32).toNatClampNeg = 2 from rfl] at hP hD
                  rw [set_ap (by omega), sn_2] at hP hD
                  have hP : va_P D vwCl (lqW kA al zj ((X 8 1) + 1) ++ cw kA ad X) H := hP
                  have hD : va_D (Aw (lqW kA al (X 0) (X 8 1) ++ cw kA ad X)) (lqW kA al zj ((X 8 1) + 1) ++ cw kA ad X) := hD
                  have hP : va_P D vwCl (lqW kA al zj (kpU (X 8 1)) ++ cw kA ad X) _ := Pcg (by rw [kp_y h81 hw6 c_20]) hP
                  have hD : va_D (Aw (lqW kA al (X 0) (X 8 1) ++ cw kA ad X)) (lqW kA al zj (kpU (X 8 1)) ++ cw kA ad X) := Dcg (by rw [kp_y h81 hw6 c_20]) hD
                  exact jp_406   _ _ hP hD hS ls (lv_sub hl [0, 1, 2, 3, 4, 5, 6, 7, 8, 9, 10, 11, 12, 13, 14, 15, 16, 17, 18, 19] rfl)
              refine lv_iconst (v := 1) hx hb dL_moves_352 (by decide) ?_
              refine lv_istore (lv' := [(20, .int 1), (19, .int (sl (X 0) a 8)), (0, .ref (ad 0)), (1, .int xx), (2, .int yy), (3, .ref (al 0)), (4, .ref (al 1)), (5, .ref (al 2)), (6, .ref (al 3)), (7, .ref (al 4)), (8, .ref (al 5)), (9, .ref (al 6)), (10, .ref (al 7)), (11, .ref (al 8)), (12, .ref (al 9)), (13, .int ac), (14, .int (nI a)), (15, .int (nI q)), (16, .int cu), (17, .int cd), (18, .int (wI up))]) hx hb dL_moves_353 hl (by decide) rfl (fun ls hl => ?_)
              have loop_355 : ∀ (n : Nat) (cq : Nat) (kf : Nat) (f : Bool) (sm : Int32) (zj : Nat → Int32) (hIj : Inv zj) (hc : f = true → sl zj a 1 = nI cq ∧ cq < 24) (hd : f = true → dN cq q up = n) (hk : n < kf) (hsm : sl zj a 8 = sl (X 0) a 8 + sm) (hres : (if f = true then gtL a (wI up) (nI q) kf zj sm else (sm, zj)) = gtF (X 0) a (nI q)), ∀ (H : Heap) (locs : List Loc), va_P D vwCl (lqW kA al zj (X 8 1) ++ cw kA ad X) H → va_D (Aw (lqW kA al (X 0) (X 8 1) ++ cw kA ad X)) (lqW kA al zj (X 8 1) ++ cw kA ad X) → va_S (Aw (lqW kA al (X 0) (X 8 1) ++ cw kA ad X)) s.heap H locs → ∀ ls : Array Slot, lv_has ls 21 [(0, .ref (ad 0)), (1, .int xx), (2, .int yy), (3, .ref (al 0)), (4, .ref (al 1)), (5, .ref (al 2)), (6, .ref (al 3)), (7, .ref (al 4)), (8, .ref (al 5)), (9, .ref (al 6)), (10, .ref (al 7)), (11, .ref (al 8)), (12, .ref (al 9)), (13, .int ac), (14, .int (nI a)), (15, .int (nI q)), (16, .int cu), (17, .int cd), (18, .int (wI up)), (19, .int (sl (X 0) a 8)), (20, .int (bI f))] → W p l e ({ frames := 5, cells := 0, slots := 0, locals := 151 } : Room) s m [.ref (ad 0), .int xx, .int yy, .ref (al 0), .ref (al 1), .ref (al 2), .ref (al 3), .ref (al 4), .ref (al 5), .ref (al 6), .ref (al 7), .ref (al 8), .ref (al 9)].toArray below meth c H locs 0 0 (MQ below (eQ D kA al ad (N + 50) M (lqW kA al (X 0) (X 8 1) ++ cw kA ad X)) [.ref (ad 0), .int xx, .int yy, .ref (al 0), .ref (al 1), .ref (al 2), .ref (al 3), .ref (al 4), .ref (al 5), .ref (al 6), .ref (al 7), .ref (al 8), .ref (al 9)].toArray s 0 0 (Aw (lqW kA al (X 0) (X 8 1) ++ cw kA ad X))) (F0 m 355 ls []) := by
                clear hl
                clear hP hD hS
                intro n
                induction n with
                | zero =>
                  intro cq kf f sm zj hIj hc hd hk hsm hres H locs hP hD hS ls hl
                  refine lv_iload hx hb dL_moves_355 (lv_at hl 20 rfl) ?_
                  refine lv_if_eq (tgt := 401) hx hb dL_moves_357 (by decide) (fun c_21 => ?_) (fun c_21 => ?_)
                  · skip
                    replace c_21 := bI_0.mp c_21
                    exact jp_352 zj sm (by rw [← hres, if_neg (by rw [c_21]; decide)]) (hsm) _ _ hP hD hS ls (lv_sub hl [0, 1, 2, 3, 4, 5, 6, 7, 8, 9, 10, 11, 12, 13, 14, 15, 16, 17, 18, 19] rfl)
                  · skip
                    replace c_21 := bI_n0 c_21
                    have cf : f = true := c_21
                    refine lv_aload hx hb dL_moves_360 (lv_at hl 5 rfl) ?_
                    refine lv_iload hx hb dL_moves_362 (lv_at hl 14 rfl) ?_
                    refine va_iald (f := lqG zj 1) hx hb hK hP 2 0 lwR_2 rfl (in_nI rfl (by omega) (by decide)) dL_moves_364 ?_
                    refine W_top (v' := .int (sl zj a 1)) (congrArg Value.int (vG (by omega))) ?_
                    refine lv_iload hx hb dL_moves_365 (lv_at hl 15 rfl) ?_
                    refine lv_icmp_eq (tgt := 401) hx hb dL_moves_367 (by decide) (fun c_22 => ?_) (fun c_22 => ?_)
                    · skip
                      exact jp_352 zj sm (by rw [← hres, if_pos cf]; exact gt_e (by omega) c_22) (hsm) _ _ hP hD hS ls (lv_sub hl [0, 1, 2, 3, 4, 5, 6, 7, 8, 9, 10, 11, 12, 13, 14, 15, 16, 17, 18, 19] rfl)
                    · exact absurd c_22 (fun hh => hh (dN_z (hc cf).1 rfl (hc cf).2 hq (hd cf)))
                | succ n ih355 =>
                  intro cq kf f sm zj hIj hc hd hk hsm hres H locs hP hD hS ls hl
                  refine lv_iload hx hb dL_moves_355 (lv_at hl 20 rfl) ?_
                  refine lv_if_eq (tgt := 401) hx hb dL_moves_357 (by decide) (fun c_23 => ?_) (fun c_23 => ?_)
                  · skip
                    replace c_23 := bI_0.mp c_23
                    exact jp_352 zj sm (by rw [← hres, if_neg (by rw [c_23]; decide)]) (hsm) _ _ hP hD hS ls (lv_sub hl [0, 1, 2, 3, 4, 5, 6, 7, 8, 9, 10, 11, 12, 13, 14, 15, 16, 17, 18, 19] rfl)
                  · skip
                    replace c_23 := bI_n0 c_23
                    have cf : f = true := c_23
                    refine lv_aload hx hb dL_moves_360 (lv_at hl 5 rfl) ?_
                    refine lv_iload hx hb dL_moves_362 (lv_at hl 14 rfl) ?_
                    refine va_iald (f := lqG zj 1) hx hb hK hP 2 0 lwR_2 rfl (in_nI rfl (by omega) (by decide)) dL_moves_364 ?_
                    refine W_top (v' := .int (sl zj a 1)) (congrArg Value.int (vG (by omega))) ?_
                    refine lv_iload hx hb dL_moves_365 (lv_at hl 15 rfl) ?_
                    refine lv_icmp_eq (tgt := 401) hx hb dL_moves_367 (by decide) (fun c_24 => ?_) (fun c_24 => ?_)
                    · exact absurd c_24 (dN_ne (hc cf).1 rfl (hc cf).2 hq (hd cf))
                    · skip
                      refine lv_aload_n hx hb dL_moves_370 rfl (lv_at hl 3 rfl) ?_
                      refine lv_aload hx hb dL_moves_371 (lv_at hl 4 rfl) ?_
                      refine lv_aload hx hb dL_moves_373 (lv_at hl 5 rfl) ?_
                      refine lv_aload hx hb dL_moves_375 (lv_at hl 6 rfl) ?_
                      refine lv_aload hx hb dL_moves_377 (lv_at hl 7 rfl) ?_
                      refine lv_aload hx hb dL_moves_379 (lv_at hl 8 rfl) ?_
                      refine lv_aload hx hb dL_moves_381 (lv_at hl 9 rfl) ?_
                      refine lv_aload hx hb dL_moves_383 (lv_at hl 10 rfl) ?_
                      refine lv_aload hx hb dL_moves_385 (lv_at hl 11 rfl) ?_
                      refine lv_aload hx hb dL_moves_387 (lv_at hl 12 rfl) ?_
                      refine lv_iload hx hb dL_moves_389 (lv_at hl 14 rfl) ?_
                      refine lv_iload hx hb dL_moves_391 (lv_at hl 18 rfl) ?_
                      refine cs_fs (runS (As := [.ref (al 0), .ref (al 1), .ref (al 2), .ref (al 3), .ref (al 4), .ref (al 5), .ref (al 6), .ref (al 7), .ref (al 8), .ref (al 9), .int (nI a), .int (wI up)]) (rest := []) ⟨hx, hb, hml, hown, hts⟩ (m_L_step l D kA al zj (X 8 1) a up (hIj) (ha)) q_208 q_209 q_0 q_210 hd_L_step ⟨rfl, rfl⟩ ⟨Nat.le_of_ble_eq_true rfl, Nat.le_of_ble_eq_true rfl⟩ hK (ws := (lqW kA al zj (X 8 1))) hP.l hD.lf rfl hl.1 rfl (Nat.le_of_ble_eq_true rfl) dL_moves_393 ⟨Nat.zero_le _, Nat.zero_le _⟩) hS (fun q h => Aw.lf q (lw_Aw h)) (fun H locs hP1 hk1 hS => ?_)
                      obtain ⟨hP, hD⟩ := jL (a' := (lqW kA al (stZ zj a up) (X 8 1))) hP hD hk1 hP1 lw_fst
                      clear hk1 hP1
                      refine lv_istore (lv' := [(20, .int (bI (canF zj a (wI up)))), (0, .ref (ad 0)), (1, .int xx), (2, .int yy), (3, .ref (al 0)), (4, .ref (al 1)), (5, .ref (al 2)), (6, .ref (al 3)), (7, .ref (al 4)), (8, .ref (al 5)), (9, .ref (al 6)), (10, .ref (al 7)), (11, .ref (al 8)), (12, .ref (al 9)), (13, .int ac), (14, .int (nI a)), (15, .int (nI q)), (16, .int cu), (17, .int cd), (18, .int (wI up)), (19, .int (sl (X 0) a 8))]) hx hb dL_moves_396 hl (by decide) rfl (fun ls hl => ?_)
                      refine lv_goto (tgt := 355) hx hb dL_moves_398 (by decide) ?_
                      exact ih355 (cN cq up) (kf - 1) (canF zj a (wI up)) (sm + stT zj a up) (stZ zj a up) (Inv_Z hIj ha _) (fun q9 => ⟨st_1 (hc cf).1 (hc cf).2 q9, cN_lt⟩) (fun q9 => dN_s (hc cf).2 hq (hd cf)) (by omega) (st_8 hsm) (gt_s hIj ha (by omega) (dN_ne (hc cf).1 rfl (hc cf).2 hq (hd cf)) (by rw [if_pos cf] at hres; exact hres)) _ _ hP hD hS ls (lv_sub hl [1, 2, 3, 4, 5, 6, 7, 8, 9, 10, 11, 12, 13, 14, 15, 16, 17, 18, 19, 20, 0] rfl)
              exact loop_355 (dN (sl (X 0) a 1).toNatClampNeg q up) ((sl (X 0) a 1).toNatClampNeg) 24 true 0 (X 0) (hI) (fun _ => hI.p1 ha) (fun _ => rfl) (dN_lt) ((add0 _).symm) (by rw [if_pos rfl, ← eup]; rfl) _ _ hP hD hS ls (lv_sub hl [2, 3, 4, 5, 6, 7, 8, 9, 10, 11, 12, 13, 14, 15, 16, 17, 18, 19, 20, 1, 0] rfl)
            refine lv_icmp_eq (tgt := 341) hx hb dL_moves_289 (by decide) (fun c_25 => ?_) (fun c_25 => ?_)
            · skip
              exact jp_289  (cg_y c_25) _ _ hP hD hS ls (lv_sub hl [6, 7, 8, 9, 10, 11, 12, 13, 14, 15, 16, 17, 18, 5, 4, 3, 2, 1, 0] rfl)
            · skip
              refine lv_aload_n hx hb dL_moves_292 rfl (lv_at hl 9 rfl) ?_
              refine lv_iconst (v := 0) hx hb dL_moves_293 (by decide) ?_
              refine va_iald (f := lqN (X 0) (X 8 1)) hx hb hK hP 0 0 lwR_0 rfl (in_nI (j := 0) rfl (by omega) (by decide)) dL_moves_294 ?_
              refine W_top (v' := .int ((X 0) 6)) (rfl) ?_
              refine lv_aload_n hx hb dL_moves_295 rfl (lv_at hl 9 rfl) ?_
              refine lv_aload hx hb dL_moves_296 (lv_at hl 12 rfl) ?_
              refine lv_iload hx hb dL_moves_298 (lv_at hl 4 rfl) ?_
              refine va_iald (f := lqG (X 0) 2) hx hb hK hP 3 0 lwR_3 rfl (in_nI rfl (by omega) (by decide)) dL_moves_300 ?_
              refine W_top (v' := .int (sl (X 0) a 2)) (congrArg Value.int (vG (by omega))) ?_
              refine lv_aload hx hb dL_moves_301 (lv_at hl 17 rfl) ?_
              refine lv_aload hx hb dL_moves_303 (lv_at hl 18 rfl) ?_
              refine lv_iload hx hb dL_moves_305 (lv_at hl 4 rfl) ?_
              refine lv_aload hx hb dL_moves_307 (lv_at hl 10 rfl) ?_
              refine lv_iload hx hb dL_moves_309 (lv_at hl 4 rfl) ?_
              refine va_iald (f := lqG (X 0) 0) hx hb hK hP 1 0 lwR_1 rfl (in_nI rfl (by omega) (by decide)) dL_moves_311 ?_
              refine W_top (v' := .int (sl (X 0) a 0)) (congrArg Value.int (vG (by omega))) ?_
              refine lv_iload hx hb dL_moves_312 (lv_at hl 0 rfl) ?_
              refine cs_p (runS (As := [.int (sl (X 0) a 0), .int (wI up)]) (rest := [.int (nI a), .ref (al 9), .ref (al 8), .int (sl (X 0) a 2), .ref (al 0), .int ((X 0) 6)]) ⟨hx, hb, hml, hown, hts⟩ (m_L_tooth l D kA (sl (X 0) a 0) ((sl (X 0) a 0).toNatClampNeg) up ((hI.p0 ha).1) ((hI.p0 ha).2)) q_199 q_200 q_0 q_201 hd_L_tooth ⟨rfl, rfl⟩ ⟨Nat.le_of_ble_eq_true rfl, Nat.le_of_ble_eq_true rfl⟩ hK (ws := []) (fun _ _ h => by simp at h) (D0 (A := fun _ => True)) rfl hl.1 rfl (Nat.le_of_ble_eq_true rfl) dL_moves_314 ⟨Nat.zero_le _, Nat.zero_le _⟩) ?_
              obtain ⟨t, ht, et⟩ := tW_in (hI.p0 ha).1 (hI.p0 ha).2 up
              refine W_top (v' := .int (nI t)) (congrArg Value.int (et)) ?_
              refine cs_p (runS (As := [.ref (al 8), .ref (al 9), .int (nI a), .int (nI t)]) (rest := [.int (sl (X 0) a 2), .ref (al 0), .int ((X 0) 6)]) ⟨hx, hb, hml, hown, hts⟩ (m_L_wear l D kA al (X 0) (X 8 1) a t (ha) (ht)) q_202 q_203 q_0 q_204 hd_L_wear ⟨rfl, rfl⟩ ⟨Nat.le_of_ble_eq_true rfl, Nat.le_of_ble_eq_true rfl⟩ hK (ws := (lqW kA al (X 0) (X 8 1))) hP.l hD.lf rfl hl.1 rfl (Nat.le_of_ble_eq_true rfl) dL_moves_317 ⟨Nat.zero_le _, Nat.zero_le _⟩) ?_
              obtain ⟨wv, e_wv⟩ : ∃ y9 : Int32, y9 = gwr (sl (X 0) a) (nI t) := ⟨_, rfl⟩
              rw [← e_wv]
              have hwv : wv = gwr (sl (X 0) a) (tW (sl (X 0) a 0) (wI up)) := by rw [e_wv, et]
              have hwb : bd wv 99 := by rw [e_wv]; exact gwr_bd (hI.2 a ha) rfl ht
              refine lv_aload hx hb dL_moves_320 (lv_at hl 15 rfl) ?_
              refine lv_iload hx hb dL_moves_322 (lv_at hl 4 rfl) ?_
              refine va_iald (f := lqG (X 0) 5) hx hb hK hP 6 0 lwR_6 rfl (in_nI rfl (by omega) (by decide)) dL_moves_324 ?_
              refine W_top (v' := .int (sl (X 0) a 5)) (congrArg Value.int (vG (by omega))) ?_
              have jn_325_25 : ∀ v : Int32, v = (if 0 < (sl (X 0) a 5) then 1 else 0) → W p l e ({ frames := 5, cells := 0, slots := 0, locals := 151 } : Room) s m [.ref (ad 0), .int xx, .int yy, .ref (al 0), .ref (al 1), .ref (al 2), .ref (al 3), .ref (al 4), .ref (al 5), .ref (al 6), .ref (al 7), .ref (al 8), .ref (al 9)].toArray below meth c s.heap [] 0 0 (MQ below (eQ D kA al ad (N + 50) M (lqW kA al (X 0) (X 8 1) ++ cw kA ad X)) [.ref (ad 0), .int xx, .int yy, .ref (al 0), .ref (al 1), .ref (al 2), .ref (al 3), .ref (al 4), .ref (al 5), .ref (al 6), .ref (al 7), .ref (al 8), .ref (al 9)].toArray s 0 0 (Aw (lqW kA al (X 0) (X 8 1) ++ cw kA ad X))) (F0 m 333 ls (.int v :: [.int wv, .int (sl (X 0) a 2), .ref (al 0), .int ((X 0) 6)])) := by
                intro v ev
                obtain rfl := ev.trans bI_if
                refine cs_p (runS (As := [.ref (al 0), .int (sl (X 0) a 2), .int wv, .int (bI (decide (0 < (sl (X 0) a 5))))]) (rest := [.int ((X 0) 6)]) ⟨hx, hb, hml, hown, hts⟩ (m_L_toll l D kA al (X 0) (X 8 1) (sl (X 0) a 2) wv (sl (X 0) a 5) (hI) ((hI.2 a ha).2.2.1) (hwb)) q_205 q_206 q_0 q_207 hd_L_toll ⟨rfl, rfl⟩ ⟨Nat.le_of_ble_eq_true rfl, Nat.le_of_ble_eq_true rfl⟩ hK (ws := (lqW kA al (X 0) (X 8 1))) hP.l hD.lf rfl hl.1 rfl (Nat.le_of_ble_eq_true rfl) dL_moves_333 ⟨Nat.zero_le _, Nat.zero_le _⟩) ?_
                obtain ⟨T, e_T⟩ : ∃ y9 : Int32, y9 = tlF (sl (X 0) a 2) wv (sl (X 0) a 5) ((X 0) 1) := ⟨_, rfl⟩
                rw [← e_T]
                have hT : T = tollG (sl (X 0) a) (X 0) (wI up) := by rw [e_T, hwv]; rfl
                refine lv_icmp_ge (tgt := 341) hx hb dL_moves_336 (by decide) (fun c_27 => ?_) (fun c_27 => ?_)
                · skip
                  replace c_27 := ge_n c_27
                  exact jp_289  (cg_n eup (canF_t.mpr (by rw [← hT]; exact c_27))) _ _ hP hD hS ls (lv_sub hl [6, 7, 8, 9, 10, 11, 12, 13, 14, 15, 16, 17, 18, 5, 4, 3, 2, 1, 0] rfl)
                · skip
                  replace c_27 := nge_l c_27
                  refine lv_iconst (v := 1) hx hb dL_moves_339 (by decide) ?_
                  exact end_e (X' := X) hx hb hrt hlk hP hS ⟨r, w, hI, CB_mono hC (by omega), hB, hr6, h80, hw6, h81⟩ rfl dL_moves_340
              refine lv_if_le (tgt := 332) hx hb dL_moves_325 (by decide) (fun c_28 => ?_) (fun c_28 => ?_)
              · skip
                replace c_28 := ge_n c_28
                refine lv_iconst (v := 0) hx hb dL_moves_332 (by decide) ?_
                exact jn_325_25 _ (by rw [if_neg c_28])
              · skip
                replace c_28 := nge_l c_28
                refine lv_iconst (v := 1) hx hb dL_moves_328 (by decide) ?_
                refine lv_goto (tgt := 333) hx hb dL_moves_329 (by decide) ?_
                exact jn_325_25 _ (by rw [if_pos c_28])
          refine lv_icmp_gt (tgt := 279) hx hb dL_moves_272 (by decide) (fun c_29 => ?_) (fun c_29 => ?_)
          · skip
            refine lv_iconst (v := (-1)) hx hb dL_moves_279 (by decide) ?_
            exact jn_272_17 _ (by rw [if_pos c_29])
          · skip
            refine lv_iconst (v := 1) hx hb dL_moves_275 (by decide) ?_
            refine lv_goto (tgt := 280) hx hb dL_moves_276 (by decide) ?_
            exact jn_272_17 _ (by rw [if_neg c_29])
        · exact absurd c_17 (fun h => h e_cd.symm)
  · skip
    replace c_1 := nge_l c_1
    refine lv_iload_n hx hb dL_moves_22 rfl (lv_at hl 4 rfl) ?_
    refine lv_iconst (v := 2) hx hb dL_moves_23 (by decide) ?_
    refine cs_p (runS (As := [.int yy, .int 2]) (rest := []) ⟨hx, hb, hml, hown, hts⟩ (m_L_at l D kA yy 2 (by decide)) q_193 q_194 q_0 q_195 hd_L_at ⟨rfl, rfl⟩ ⟨Nat.le_of_ble_eq_true rfl, Nat.le_of_ble_eq_true rfl⟩ hK (ws := []) (fun _ _ h => by simp at h) (D0 (A := fun _ => True)) rfl hl.1 rfl (Nat.le_of_ble_eq_true rfl) dL_moves_24 ⟨Nat.zero_le _, Nat.zero_le _⟩) ?_
    have jn_27_29 : ∀ v : Int32, v = (if (atF yy 2) = 0 then 1 else (-1)) → W p l e ({ frames := 5, cells := 0, slots := 0, locals := 151 } : Room) s m [.ref (ad 0), .int xx, .int yy, .ref (al 0), .ref (al 1), .ref (al 2), .ref (al 3), .ref (al 4), .ref (al 5), .ref (al 6), .ref (al 7), .ref (al 8), .ref (al 9)].toArray below meth c s.heap [] 0 0 (MQ below (eQ D kA al ad (N + 50) M (lqW kA al (X 0) (X 8 1) ++ cw kA ad X)) [.ref (ad 0), .int xx, .int yy, .ref (al 0), .ref (al 1), .ref (al 2), .ref (al 3), .ref (al 4), .ref (al 5), .ref (al 6), .ref (al 7), .ref (al 8), .ref (al 9)].toArray s 0 0 (Aw (lqW kA al (X 0) (X 8 1) ++ cw kA ad X))) (F0 m 35 ls (.int v :: [])) := by
      intro v ev
      obtain ⟨up, eup⟩ : ∃ up : Bool, v = wI up := by rw [ev]; exact ite_wI
      clear ev
      subst eup
      refine lv_istore (lv' := [(15, .int (wI up)), (14, .int (nI a)), (13, .int ac), (0, .ref (ad 0)), (1, .int xx), (2, .int yy), (3, .ref (al 0)), (4, .ref (al 1)), (5, .ref (al 2)), (6, .ref (al 3)), (7, .ref (al 4)), (8, .ref (al 5)), (9, .ref (al 6)), (10, .ref (al 7)), (11, .ref (al 8)), (12, .ref (al 9))]) hx hb dL_moves_35 hl (by decide) rfl (fun ls hl => ?_)
      refine lv_iconst (v := 1) hx hb dL_moves_37 (by decide) ?_
      refine lv_iload_n hx hb dL_moves_38 rfl (lv_at hl 5 rfl) ?_
      refine lv_iconst (v := 2) hx hb dL_moves_39 (by decide) ?_
      refine lv_ishr hx hb dL_moves_40 ?_
      refine lv_bipush (v := 24) hx hb dL_moves_41 (by decide) ?_
      refine cs_p (runS (As := [.int (yy >>> (2 &&& 31)), .int 24]) (rest := [.int 1]) ⟨hx, hb, hml, hown, hts⟩ (m_L_at l D kA (yy >>> (2 &&& 31)) 24 (by decide)) q_193 q_194 q_0 q_195 hd_L_at ⟨rfl, rfl⟩ ⟨Nat.le_of_ble_eq_true rfl, Nat.le_of_ble_eq_true rfl⟩ hK (ws := []) (fun _ _ h => by simp at h) (D0 (A := fun _ => True)) rfl hl.1 rfl (Nat.le_of_ble_eq_true rfl) dL_moves_43 ⟨Nat.zero_le _, Nat.zero_le _⟩) ?_
      refine lv_iadd hx hb dL_moves_46 ?_
      obtain ⟨k, hk1, hk2, e_k⟩ := at1_in (yy >>> (2 &&& 31)) (N := 24) (by omega) (by omega)
      refine W_top (v' := .int (nI k)) (congrArg Value.int (e_k)) ?_
      refine lv_istore (lv' := [(16, .int (nI k)), (15, .int (wI up)), (14, .int (nI a)), (13, .int ac), (0, .ref (ad 0)), (1, .int xx), (2, .int yy), (3, .ref (al 0)), (4, .ref (al 1)), (5, .ref (al 2)), (6, .ref (al 3)), (7, .ref (al 4)), (8, .ref (al 5)), (9, .ref (al 6)), (10, .ref (al 7)), (11, .ref (al 8)), (12, .ref (al 9))]) hx hb dL_moves_47 hl (by decide) rfl (fun ls hl => ?_)
      refine lv_aload_n hx hb dL_moves_49 rfl (lv_at hl 7 rfl) ?_
      refine lv_iconst (v := 0) hx hb dL_moves_50 (by decide) ?_
      refine va_iald (f := lqN (X 0) (X 8 1)) hx hb hK hP 0 0 lwR_0 rfl (in_nI (j := 0) rfl (by omega) (by decide)) dL_moves_51 ?_
      refine W_top (v' := .int ((X 0) 6)) (rfl) ?_
      refine lv_aload_n hx hb dL_moves_52 rfl (lv_at hl 7 rfl) ?_
      refine lv_aload hx hb dL_moves_53 (lv_at hl 10 rfl) ?_
      refine lv_iload hx hb dL_moves_55 (lv_at hl 2 rfl) ?_
      refine va_iald (f := lqG (X 0) 2) hx hb hK hP 3 0 lwR_3 rfl (in_nI rfl (by omega) (by decide)) dL_moves_57 ?_
      refine W_top (v' := .int (sl (X 0) a 2)) (congrArg Value.int (vG (by omega))) ?_
      refine lv_aload hx hb dL_moves_58 (lv_at hl 15 rfl) ?_
      refine lv_aload hx hb dL_moves_60 (lv_at hl 16 rfl) ?_
      refine lv_iload hx hb dL_moves_62 (lv_at hl 2 rfl) ?_
      refine lv_aload hx hb dL_moves_64 (lv_at hl 8 rfl) ?_
      refine lv_iload hx hb dL_moves_66 (lv_at hl 2 rfl) ?_
      refine va_iald (f := lqG (X 0) 0) hx hb hK hP 1 0 lwR_1 rfl (in_nI rfl (by omega) (by decide)) dL_moves_68 ?_
      refine W_top (v' := .int (sl (X 0) a 0)) (congrArg Value.int (vG (by omega))) ?_
      refine lv_iload hx hb dL_moves_69 (lv_at hl 1 rfl) ?_
      refine cs_p (runS (As := [.int (sl (X 0) a 0), .int (wI up)]) (rest := [.int (nI a), .ref (al 9), .ref (al 8), .int (sl (X 0) a 2), .ref (al 0), .int ((X 0) 6)]) ⟨hx, hb, hml, hown, hts⟩ (m_L_tooth l D kA (sl (X 0) a 0) ((sl (X 0) a 0).toNatClampNeg) up ((hI.p0 ha).1) ((hI.p0 ha).2)) q_199 q_200 q_0 q_201 hd_L_tooth ⟨rfl, rfl⟩ ⟨Nat.le_of_ble_eq_true rfl, Nat.le_of_ble_eq_true rfl⟩ hK (ws := []) (fun _ _ h => by simp at h) (D0 (A := fun _ => True)) rfl hl.1 rfl (Nat.le_of_ble_eq_true rfl) dL_moves_71 ⟨Nat.zero_le _, Nat.zero_le _⟩) ?_
      obtain ⟨t, ht, et⟩ := tW_in (hI.p0 ha).1 (hI.p0 ha).2 up
      refine W_top (v' := .int (nI t)) (congrArg Value.int (et)) ?_
      refine cs_p (runS (As := [.ref (al 8), .ref (al 9), .int (nI a), .int (nI t)]) (rest := [.int (sl (X 0) a 2), .ref (al 0), .int ((X 0) 6)]) ⟨hx, hb, hml, hown, hts⟩ (m_L_wear l D kA al (X 0) (X 8 1) a t (ha) (ht)) q_202 q_203 q_0 q_204 hd_L_wear ⟨rfl, rfl⟩ ⟨Nat.le_of_ble_eq_true rfl, Nat.le_of_ble_eq_true rfl⟩ hK (ws := (lqW kA al (X 0) (X 8 1))) hP.l hD.lf rfl hl.1 rfl (Nat.le_of_ble_eq_true rfl) dL_moves_74 ⟨Nat.zero_le _, Nat.zero_le _⟩) ?_
      obtain ⟨wv, e_wv⟩ : ∃ y9 : Int32, y9 = gwr (sl (X 0) a) (nI t) := ⟨_, rfl⟩
      rw [← e_wv]
      have hwv : wv = gwr (sl (X 0) a) (tW (sl (X 0) a 0) (wI up)) := by rw [e_wv, et]
      have hwb : bd wv 99 := by rw [e_wv]; exact gwr_bd (hI.2 a ha) rfl ht
      refine lv_aload hx hb dL_moves_77 (lv_at hl 13 rfl) ?_
      refine lv_iload hx hb dL_moves_79 (lv_at hl 2 rfl) ?_
      refine va_iald (f := lqG (X 0) 5) hx hb hK hP 6 0 lwR_6 rfl (in_nI rfl (by omega) (by decide)) dL_moves_81 ?_
      refine W_top (v' := .int (sl (X 0) a 5)) (congrArg Value.int (vG (by omega))) ?_
      have jn_82_30 : ∀ v : Int32, v = (if 0 < (sl (X 0) a 5) then 1 else 0) → W p l e ({ frames := 5, cells := 0, slots := 0, locals := 151 } : Room) s m [.ref (ad 0), .int xx, .int yy, .ref (al 0), .ref (al 1), .ref (al 2), .ref (al 3), .ref (al 4), .ref (al 5), .ref (al 6), .ref (al 7), .ref (al 8), .ref (al 9)].toArray below meth c s.heap [] 0 0 (MQ below (eQ D kA al ad (N + 50) M (lqW kA al (X 0) (X 8 1) ++ cw kA ad X)) [.ref (ad 0), .int xx, .int yy, .ref (al 0), .ref (al 1), .ref (al 2), .ref (al 3), .ref (al 4), .ref (al 5), .ref (al 6), .ref (al 7), .ref (al 8), .ref (al 9)].toArray s 0 0 (Aw (lqW kA al (X 0) (X 8 1) ++ cw kA ad X))) (F0 m 90 ls (.int v :: [.int wv, .int (sl (X 0) a 2), .ref (al 0), .int ((X 0) 6)])) := by
        intro v ev
        obtain rfl := ev.trans bI_if
        refine cs_p (runS (As := [.ref (al 0), .int (sl (X 0) a 2), .int wv, .int (bI (decide (0 < (sl (X 0) a 5))))]) (rest := [.int ((X 0) 6)]) ⟨hx, hb, hml, hown, hts⟩ (m_L_toll l D kA al (X 0) (X 8 1) (sl (X 0) a 2) wv (sl (X 0) a 5) (hI) ((hI.2 a ha).2.2.1) (hwb)) q_205 q_206 q_0 q_207 hd_L_toll ⟨rfl, rfl⟩ ⟨Nat.le_of_ble_eq_true rfl, Nat.le_of_ble_eq_true rfl⟩ hK (ws := (lqW kA al (X 0) (X 8 1))) hP.l hD.lf rfl hl.1 rfl (Nat.le_of_ble_eq_true rfl) dL_moves_90 ⟨Nat.zero_le _, Nat.zero_le _⟩) ?_
        obtain ⟨T, e_T⟩ : ∃ y9 : Int32, y9 = tlF (sl (X 0) a 2) wv (sl (X 0) a 5) ((X 0) 1) := ⟨_, rfl⟩
        rw [← e_T]
        have hT : T = tollG (sl (X 0) a) (X 0) (wI up) := by rw [e_T, hwv]; rfl
        refine lv_icmp_ge (tgt := 98) hx hb dL_moves_93 (by decide) (fun c_32 => ?_) (fun c_32 => ?_)
        · skip
          replace c_32 := ge_n c_32
          have hcan : canF (X 0) a (wI up) = true := canF_t.mpr (by rw [← hT]; exact c_32)
          have jp_98 : ∀ (zj : Nat → Int32) (x17 : Int32) (hE : msL a (wI up) k (X 0) 0 = (x17, zj)), ∀ (H : Heap) (locs : List Loc), va_P D vwCl (lqW kA al zj (X 8 1) ++ cw kA ad X) H → va_D (Aw (lqW kA al (X 0) (X 8 1) ++ cw kA ad X)) (lqW kA al zj (X 8 1) ++ cw kA ad X) → va_S (Aw (lqW kA al (X 0) (X 8 1) ++ cw kA ad X)) s.heap H locs → ∀ ls : Array Slot, lv_has ls 21 [(0, .ref (ad 0)), (1, .int xx), (2, .int yy), (3, .ref (al 0)), (4, .ref (al 1)), (5, .ref (al 2)), (6, .ref (al 3)), (7, .ref (al 4)), (8, .ref (al 5)), (9, .ref (al 6)), (10, .ref (al 7)), (11, .ref (al 8)), (12, .ref (al 9)), (13, .int ac), (14, .int (nI a)), (15, .int (wI up)), (16, .int (nI k)), (17, .int x17)] → W p l e ({ frames := 5, cells := 0, slots := 0, locals := 151 } : Room) s m [.ref (ad 0), .int xx, .int yy, .ref (al 0), .ref (al 1), .ref (al 2), .ref (al 3), .ref (al 4), .ref (al 5), .ref (al 6), .ref (al 7), .ref (al 8), .ref (al 9)].toArray below meth c H locs 0 0 (MQ below (eQ D kA al ad (N + 50) M (lqW kA al (X 0) (X 8 1) ++ cw kA ad X)) [.ref (ad 0), .int xx, .int yy, .ref (al 0), .ref (al 1), .ref (al 2), .ref (al 3), .ref (al 4), .ref (al 5), .ref (al 6), .ref (al 7), .ref (al 8), .ref (al 9)].toArray s 0 0 (Aw (lqW kA al (X 0) (X 8 1) ++ cw kA ad X))) (F0 m 143 ls []) := by
            intro zj x17 hE H locs hP hD hS ls hl
            refine lv_aload_n hx hb dL_moves_143 rfl (lv_at hl 3 rfl) ?_
            refine lv_iconst (v := 2) hx hb dL_moves_144 (by decide) ?_
            refine va_iald (f := lqN zj (X 8 1)) hx hb hK hP 0 0 lwR_0 rfl (in_nI (j := 2) rfl (by omega) (by decide)) dL_moves_145 ?_
            refine W_top (v' := .int (X 8 1)) (rfl) ?_
            refine lv_bipush (v := 6) hx hb dL_moves_146 (by decide) ?_
            have jp_148 : ∀ (H : Heap) (locs : List Loc), va_P D vwCl (lqW kA al zj (kpU (X 8 1)) ++ cw kA ad X) H → va_D (Aw (lqW kA al (X 0) (X 8 1) ++ cw kA ad X)) (lqW kA al zj (kpU (X 8 1)) ++ cw kA ad X) → va_S (Aw (lqW kA al (X 0) (X 8 1) ++ cw kA ad X)) s.heap H locs → ∀ ls : Array Slot, lv_has ls 21 [(0, .ref (ad 0)), (1, .int xx), (2, .int yy), (3, .ref (al 0)), (4, .ref (al 1)), (5, .ref (al 2)), (6, .ref (al 3)), (7, .ref (al 4)), (8, .ref (al 5)), (9, .ref (al 6)), (10, .ref (al 7)), (11, .ref (al 8)), (12, .ref (al 9)), (13, .int ac), (14, .int (nI a)), (15, .int (wI up)), (16, .int (nI k)), (17, .int x17)] → W p l e ({ frames := 5, cells := 0, slots := 0, locals := 151 } : Room) s m [.ref (ad 0), .int xx, .int yy, .ref (al 0), .ref (al 1), .ref (al 2), .ref (al 3), .ref (al 4), .ref (al 5), .ref (al 6), .ref (al 7), .ref (al 8), .ref (al 9)].toArray below meth c H locs 0 0 (MQ below (eQ D kA al ad (N + 50) M (lqW kA al (X 0) (X 8 1) ++ cw kA ad X)) [.ref (ad 0), .int xx, .int yy, .ref (al 0), .ref (al 1), .ref (al 2), .ref (al 3), .ref (al 4), .ref (al 5), .ref (al 6), .ref (al 7), .ref (al 8), .ref (al 9)].toArray s 0 0 (Aw (lqW kA al (X 0) (X 8 1) ++ cw kA ad X))) (F0 m 158 ls []) := by
              intro   H locs hP hD hS ls hl
              refine lv_aload_n hx hb dL_moves_158 rfl (lv_at hl 0 rfl) ?_
              refine lv_iload hx hb dL_moves_159 (lv_at hl 14 rfl) ?_
              refine lv_iload hx hb dL_moves_161 (lv_at hl 15 rfl) ?_
              refine lv_iload hx hb dL_moves_163 (lv_at hl 16 rfl) ?_
              refine lv_imul hx hb dL_moves_165 ?_
              cases up with
              | true =>
                refine W_top (v' := .int (nI k)) (congrArg Value.int (w1k)) ?_
                refine cs_fs (runV (As := [.int (nI a), .int (nI k)]) (rest := []) ⟨hx, hb, hml, hown, hts⟩ (m_X5_step_u l D kA ad X a (nI a) (nI k) k r (rfl) (ha) (h80) (hr6) (rfl) (hk1) (hk2) (hcan)) q_217 q_218 q_219 q_1 q_220 hd_X5_step ⟨rfl, rfl⟩ ⟨Nat.le_of_ble_eq_true rfl, Nat.le_of_ble_eq_true rfl⟩ hK (ws := (cw kA ad X)) hP.r hD.rt _ (ci := 5) (C := RX5) (T := TX5) (N := 6) rfl cw_arm rfl hl.1 rfl (Nat.le_of_ble_eq_true rfl) dL_moves_166 ⟨Nat.zero_le _, Nat.zero_le _⟩) hS (fun q h => Aw.rt q (cw_Aw h)) (fun H locs hP1 hk1 hS => ?_)
                obtain ⟨hP, hD⟩ := jR (b' := cw kA ad (up2 (svX X r) 0 (msL a (wI true) k (X 0) 0).2)) hP hD hk1 hP1 cw_fst
                clear hk1 hP1
                refine lv_iload hx hb dL_moves_169 (lv_at hl 17 rfl) ?_
                refine lv_icmp_ne (tgt := 178) hx hb dL_moves_171 (by decide) (fun c_33 => ?_) (fun c_33 => ?_)
                · exact absurd c_33 (fun h => h (by rw [hE]))
                · skip
                  refine lv_iconst (v := 1) hx hb dL_moves_174 (by decide) ?_
                  refine lv_goto (tgt := 179) hx hb dL_moves_175 (by decide) ?_
                  exact end_e (X' := up2 (svX X r) 0 (msL a (wI true) k (X 0) 0).2) hx hb hrt hlk hP hS (rq_sv (w := w) ⟨hI, hC, hB, hr6, h80, hw6, h81⟩ (Inv_ms ha k _ _ hI) (CB_mono (CB_ms ha k _ _ N hI hC) (by omega)) (pb_ms ha (by omega) k _ _ hI hB)) (rq_w (by rw [hE]) rfl) dL_moves_179
              | false =>
                refine W_top (v' := .int (-(nI k))) (congrArg Value.int (wm1k)) ?_
                refine cs_fs (runV (As := [.int (nI a), .int (-(nI k))]) (rest := []) ⟨hx, hb, hml, hown, hts⟩ (m_X5_step_d l D kA ad X a (nI a) (-(nI k)) k r (rfl) (ha) (h80) (hr6) (rfl) (hk1) (hk2) (hcan)) q_217 q_218 q_219 q_1 q_220 hd_X5_step ⟨rfl, rfl⟩ ⟨Nat.le_of_ble_eq_true rfl, Nat.le_of_ble_eq_true rfl⟩ hK (ws := (cw kA ad X)) hP.r hD.rt _ (ci := 5) (C := RX5) (T := TX5) (N := 6) rfl cw_arm rfl hl.1 rfl (Nat.le_of_ble_eq_true rfl) dL_moves_166 ⟨Nat.zero_le _, Nat.zero_le _⟩) hS (fun q h => Aw.rt q (cw_Aw h)) (fun H locs hP1 hk1 hS => ?_)
                obtain ⟨hP, hD⟩ := jR (b' := cw kA ad (up2 (svX X r) 0 (msL a (wI false) k (X 0) 0).2)) hP hD hk1 hP1 cw_fst
                clear hk1 hP1
                refine lv_iload hx hb dL_moves_169 (lv_at hl 17 rfl) ?_
                refine lv_icmp_ne (tgt := 178) hx hb dL_moves_171 (by decide) (fun c_34 => ?_) (fun c_34 => ?_)
                · exact absurd c_34 (fun h => h (by rw [hE]))
                · skip
                  refine lv_iconst (v := 1) hx hb dL_moves_174 (by decide) ?_
                  refine lv_goto (tgt := 179) hx hb dL_moves_175 (by decide) ?_
                  exact end_e (X' := up2 (svX X r) 0 (msL a (wI false) k (X 0) 0).2) hx hb hrt hlk hP hS (rq_sv (w := w) ⟨hI, hC, hB, hr6, h80, hw6, h81⟩ (Inv_ms ha k _ _ hI) (CB_mono (CB_ms ha k _ _ N hI hC) (by omega)) (pb_ms ha (by omega) k _ _ hI hB)) (rq_w (by rw [hE]) rfl) dL_moves_179
            refine lv_icmp_ge (tgt := 158) hx hb dL_moves_148 (by decide) (fun c_35 => ?_) (fun c_35 => ?_)
            · skip
              replace c_35 := ge_n c_35
              have hP : va_P D vwCl (lqW kA al zj (kpU (X 8 1)) ++ cw kA ad X) _ := Pcg (by rw [← kp_n h81 hw6 c_35]) hP
              have hD : va_D (Aw (lqW kA al (X 0) (X 8 1) ++ cw kA ad X)) (lqW kA al zj (kpU (X 8 1)) ++ cw kA ad X) := Dcg (by rw [← kp_n h81 hw6 c_35]) hD
              exact jp_148   _ _ hP hD hS ls (lv_sub hl [0, 1, 2, 3, 4, 5, 6, 7, 8, 9, 10, 11, 12, 13, 14, 15, 16, 17] rfl)
            · skip
              replace c_35 := nge_l c_35
              refine lv_aload_n hx hb dL_moves_151 rfl (lv_at hl 3 rfl) ?_
              refine lv_iconst (v := 2) hx hb dL_moves_152 (by decide) ?_
              refine lv_dup2_11 hx hb dL_moves_153 rfl rfl ?_
              refine va_iald (f := lqN zj (X 8 1)) hx hb hK hP 0 0 lwR_0 rfl (in_nI (j := 2) rfl (by omega) (by decide)) dL_moves_154 ?_
              refine W_top (v' := .int (X 8 1)) (rfl) ?_
              refine lv_iconst (v := 1) hx hb dL_moves_155 (by decide) ?_
              refine lv_iadd hx hb dL_moves_156 ?_
              refine va_iast (f := lqN zj (X 8 1)) hx hb hK hP hD hS 0 0 lwR_0 rfl (in_nI (j := 2) rfl (by omega) (by decide)) dL_moves_157 (fun H locs hP hD hS => ?_)
              rw [show (2 : Int32).toNatClampNeg = 2 from rfl] at hP hD
              rw [set_ap (by omega), sn_2] at hP hD
              have hP : va_P D vwCl (lqW kA al zj ((X 8 1) + 1) ++ cw kA ad X) H := hP
              have hD : va_D (Aw (lqW kA al (X 0) (X 8 1) ++ cw kA ad X)) (lqW kA al zj ((X 8 1) + 1) ++ cw kA ad X) := hD
              have hP : va_P D vwCl (lqW kA al zj (kpU (X 8 1)) ++ cw kA ad X) _ := Pcg (by rw [kp_y h81 hw6 c_35]) hP
              have hD : va_D (Aw (lqW kA al (X 0) (X 8 1) ++ cw kA ad X)) (lqW kA al zj (kpU (X 8 1)) ++ cw kA ad X) := Dcg (by rw [kp_y h81 hw6 c_35]) hD
              exact jp_148   _ _ hP hD hS ls (lv_sub hl [0, 1, 2, 3, 4, 5, 6, 7, 8, 9, 10, 11, 12, 13, 14, 15, 16, 17] rfl)
          refine lv_iconst (v := 0) hx hb dL_moves_98 (by decide) ?_
          refine lv_istore (lv' := [(17, .int 0), (16, .int (nI k)), (15, .int (wI up)), (14, .int (nI a)), (13, .int ac), (0, .ref (ad 0)), (1, .int xx), (2, .int yy), (3, .ref (al 0)), (4, .ref (al 1)), (5, .ref (al 2)), (6, .ref (al 3)), (7, .ref (al 4)), (8, .ref (al 5)), (9, .ref (al 6)), (10, .ref (al 7)), (11, .ref (al 8)), (12, .ref (al 9))]) hx hb dL_moves_99 hl (by decide) rfl (fun ls hl => ?_)
          have loop_101 : ∀ (n : Nat) (j : Nat) (zj : Nat → Int32) (x17 : Int32) (hj : j + n = k) (e17 : x17 = nI j) (hIj : Inv zj) (hres : msL a (wI up) n zj x17 = msL a (wI up) k (X 0) 0), ∀ (H : Heap) (locs : List Loc), va_P D vwCl (lqW kA al zj (X 8 1) ++ cw kA ad X) H → va_D (Aw (lqW kA al (X 0) (X 8 1) ++ cw kA ad X)) (lqW kA al zj (X 8 1) ++ cw kA ad X) → va_S (Aw (lqW kA al (X 0) (X 8 1) ++ cw kA ad X)) s.heap H locs → ∀ ls : Array Slot, lv_has ls 21 [(0, .ref (ad 0)), (1, .int xx), (2, .int yy), (3, .ref (al 0)), (4, .ref (al 1)), (5, .ref (al 2)), (6, .ref (al 3)), (7, .ref (al 4)), (8, .ref (al 5)), (9, .ref (al 6)), (10, .ref (al 7)), (11, .ref (al 8)), (12, .ref (al 9)), (13, .int ac), (14, .int (nI a)), (15, .int (wI up)), (16, .int (nI k)), (17, .int x17)] → W p l e ({ frames := 5, cells := 0, slots := 0, locals := 151 } : Room) s m [.ref (ad 0), .int xx, .int yy, .ref (al 0), .ref (al 1), .ref (al 2), .ref (al 3), .ref (al 4), .ref (al 5), .ref (al 6), .ref (al 7), .ref (al 8), .ref (al 9)].toArray below meth c H locs 0 0 (MQ below (eQ D kA al ad (N + 50) M (lqW kA al (X 0) (X 8 1) ++ cw kA ad X)) [.ref (ad 0), .int xx, .int yy, .ref (al 0), .ref (al 1), .ref (al 2), .ref (al 3), .ref (al 4), .ref (al 5), .ref (al 6), .ref (al 7), .ref (al 8), .ref (al 9)].toArray s 0 0 (Aw (lqW kA al (X 0) (X 8 1) ++ cw kA ad X))) (F0 m 101 ls []) := by
            clear hl
            clear hP hD hS
            intro n
            induction n with
            | zero =>
              intro j zj x17 hj e17 hIj hres H locs hP hD hS ls hl
              refine lv_iload hx hb dL_moves_101 (lv_at hl 17 rfl) ?_
              refine lv_iload hx hb dL_moves_103 (lv_at hl 16 rfl) ?_
              refine lv_icmp_ge (tgt := 143) hx hb dL_moves_105 (by decide) (fun c_36 => ?_) (fun c_36 => ?_)
              · skip
                replace c_36 := ge_n c_36
                exact jp_98 zj x17 (hres.symm) _ _ hP hD hS ls (lv_sub hl [0, 1, 2, 3, 4, 5, 6, 7, 8, 9, 10, 11, 12, 13, 14, 15, 16, 17] rfl)
              · exact absurd c_36 (fun h => h (cnt_ge (N := k) e17 rfl (by omega) (by omega)))
            | succ n ih101 =>
              intro j zj x17 hj e17 hIj hres H locs hP hD hS ls hl
              refine lv_iload hx hb dL_moves_101 (lv_at hl 17 rfl) ?_
              refine lv_iload hx hb dL_moves_103 (lv_at hl 16 rfl) ?_
              refine lv_icmp_ge (tgt := 143) hx hb dL_moves_105 (by decide) (fun c_37 => ?_) (fun c_37 => ?_)
              · exact absurd c_37 (cnt_nge (N := k) e17 rfl (by omega) (by omega))
              · skip
                replace c_37 := nge_l c_37
                refine lv_aload_n hx hb dL_moves_108 rfl (lv_at hl 3 rfl) ?_
                refine lv_aload hx hb dL_moves_109 (lv_at hl 4 rfl) ?_
                refine lv_aload hx hb dL_moves_111 (lv_at hl 5 rfl) ?_
                refine lv_aload hx hb dL_moves_113 (lv_at hl 6 rfl) ?_
                refine lv_aload hx hb dL_moves_115 (lv_at hl 7 rfl) ?_
                refine lv_aload hx hb dL_moves_117 (lv_at hl 8 rfl) ?_
                refine lv_aload hx hb dL_moves_119 (lv_at hl 9 rfl) ?_
                refine lv_aload hx hb dL_moves_121 (lv_at hl 10 rfl) ?_
                refine lv_aload hx hb dL_moves_123 (lv_at hl 11 rfl) ?_
                refine lv_aload hx hb dL_moves_125 (lv_at hl 12 rfl) ?_
                refine lv_iload hx hb dL_moves_127 (lv_at hl 14 rfl) ?_
                refine lv_iload hx hb dL_moves_129 (lv_at hl 15 rfl) ?_
                refine cs_fs (runS (As := [.ref (al 0), .ref (al 1), .ref (al 2), .ref (al 3), .ref (al 4), .ref (al 5), .ref (al 6), .ref (al 7), .ref (al 8), .ref (al 9), .int (nI a), .int (wI up)]) (rest := []) ⟨hx, hb, hml, hown, hts⟩ (m_L_step l D kA al zj (X 8 1) a up (hIj) (ha)) q_208 q_209 q_0 q_210 hd_L_step ⟨rfl, rfl⟩ ⟨Nat.le_of_ble_eq_true rfl, Nat.le_of_ble_eq_true rfl⟩ hK (ws := (lqW kA al zj (X 8 1))) hP.l hD.lf rfl hl.1 rfl (Nat.le_of_ble_eq_true rfl) dL_moves_131 ⟨Nat.zero_le _, Nat.zero_le _⟩) hS (fun q h => Aw.lf q (lw_Aw h)) (fun H locs hP1 hk1 hS => ?_)
                obtain ⟨hP, hD⟩ := jL (a' := (lqW kA al (stZ zj a up) (X 8 1))) hP hD hk1 hP1 lw_fst
                clear hk1 hP1
                refine lv_if_eq (tgt := 143) hx hb dL_moves_134 (by decide) (fun c_38 => ?_) (fun c_38 => ?_)
                · skip
                  replace c_38 := bI_0.mp c_38
                  have hP : va_P D vwCl (lqW kA al zj (X 8 1) ++ cw kA ad X) _ := Pcg (by rw [stZ_f c_38]) hP
                  have hD : va_D (Aw (lqW kA al (X 0) (X 8 1) ++ cw kA ad X)) (lqW kA al zj (X 8 1) ++ cw kA ad X) := Dcg (by rw [stZ_f c_38]) hD
                  exact jp_98 zj x17 (by rw [← hres, msL_s hIj ha, if_pos (canF_f c_38)]) _ _ hP hD hS ls (lv_sub hl [0, 1, 2, 3, 4, 5, 6, 7, 8, 9, 10, 11, 12, 13, 14, 15, 16, 17] rfl)
                · skip
                  replace c_38 := bI_n0 c_38
                  have hP : va_P D vwCl (lqW kA al (zS zj a (wI up)) (X 8 1) ++ cw kA ad X) _ := Pcg (by rw [stZ_t c_38]) hP
                  have hD : va_D (Aw (lqW kA al (X 0) (X 8 1) ++ cw kA ad X)) (lqW kA al (zS zj a (wI up)) (X 8 1) ++ cw kA ad X) := Dcg (by rw [stZ_t c_38]) hD
                  refine lv_iinc (v := x17 + 1) (lv' := [(17, .int (x17 + 1)), (0, .ref (ad 0)), (1, .int xx), (2, .int yy), (3, .ref (al 0)), (4, .ref (al 1)), (5, .ref (al 2)), (6, .ref (al 3)), (7, .ref (al 4)), (8, .ref (al 5)), (9, .ref (al 6)), (10, .ref (al 7)), (11, .ref (al 8)), (12, .ref (al 9)), (13, .int ac), (14, .int (nI a)), (15, .int (wI up)), (16, .int (nI k))]) hx hb dL_moves_137 hl (k := 17) rfl (by first | rfl | exact congrArg (_ + ·) (by decide)) (by decide) rfl (fun ls hl => ?_)
                  refine lv_goto (tgt := 101) hx hb dL_moves_140 (by decide) ?_
                  exact ih101 (j + 1) (zS zj a (wI up)) (x17 + 1) (by omega) (by rw [e17]; exact nI_1 j) (Inv_S hIj ha (canF_t.mp c_38)) (by rw [← hres, msL_s hIj ha, if_neg (canF_t.mp c_38)]) _ _ hP hD hS ls (lv_sub hl [1, 2, 3, 4, 5, 6, 7, 8, 9, 10, 11, 12, 13, 14, 15, 16, 17, 0] rfl)
          exact loop_101 k 0 (X 0) 0 (by omega) (nI_0.symm) (hI) (rfl) _ _ hP hD hS ls (lv_sub hl [5, 6, 7, 8, 9, 10, 11, 12, 13, 14, 15, 16, 17, 4, 3, 2, 1, 0] rfl)
        · skip
          replace c_32 := nge_l c_32
          refine lv_iconst (v := 1) hx hb dL_moves_96 (by decide) ?_
          exact end_e (X' := X) hx hb hrt hlk hP hS ⟨r, w, hI, CB_mono hC (by omega), hB, hr6, h80, hw6, h81⟩ rfl dL_moves_97
      refine lv_if_le (tgt := 89) hx hb dL_moves_82 (by decide) (fun c_39 => ?_) (fun c_39 => ?_)
      · skip
        replace c_39 := ge_n c_39
        refine lv_iconst (v := 0) hx hb dL_moves_89 (by decide) ?_
        exact jn_82_30 _ (by rw [if_neg c_39])
      · skip
        replace c_39 := nge_l c_39
        refine lv_iconst (v := 1) hx hb dL_moves_85 (by decide) ?_
        refine lv_goto (tgt := 90) hx hb dL_moves_86 (by decide) ?_
        exact jn_82_30 _ (by rw [if_pos c_39])
    refine lv_if_ne (tgt := 34) hx hb dL_moves_27 (by decide) (fun c_40 => ?_) (fun c_40 => ?_)
    · skip
      refine lv_iconst (v := (-1)) hx hb dL_moves_34 (by decide) ?_
      exact jn_27_29 _ (by rw [if_neg c_40])
    · skip
      refine lv_iconst (v := 1) hx hb dL_moves_30 (by decide) ?_
      refine lv_goto (tgt := 35) hx hb dL_moves_31 (by decide) ?_
      exact jn_27_29 _ (by rw [if_pos c_40])
