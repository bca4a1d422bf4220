theorem hd_X5_indexOfSyntaxError : yX5_indexOfSyntaxError.cls ≠ "java/lang/invoke/MethodHandle" ∧ yX5_indexOfSyntaxError.cls ≠ "java/lang/invoke/VarHandle" ∧ (parseMethodDescriptor yX5_indexOfSyntaxError.desc).map (fun d => d.parameters.length) = some 0 := by decide +kernel
set_option maxRecDepth 100000 in
set_option maxHeartbeats 4000000 in
theorem m_X5_indexOfSyntaxError (l : Launch) (D : va_G) (kA : Nat → Nat) (ad : Nat → Nat) (X : Nat → Nat → Int32) (L : Nat) (hlen : X 8 2 = nI L) (hL : L ≤ 60) : Met l yX5_indexOfSyntaxError (Cond.code yX5_indexOfSyntaxError cX5_indexOfSyntaxError 2 (some .int) :: AW) ({ frames := 2, cells := 0, slots := 0, locals := 44 } : Room) (Pz [.ref (ad 0)] D (TY kA) (cw kA ad X)) (fQ (some (.int ((ieF X L).1))) D (cw kA ad X) (cw kA ad (upQ X (ieF X L).2))) 0 0 (Aw (cw kA ad X)) := by
  refine MetZ (by decide +kernel) (Nat.le_of_ble_eq_true rfl) ?_
  intro p e s m below meth c ls hx hb hrt hts hown hml hlk hnm hP hK hD hS hl
  have hl : lv_has ls 2 [(0, .ref (ad 0))] := hl
  refine lv_aload_n hx hb dX5_indexOfSyntaxError_0 rfl (lv_at hl 0 rfl) ?_
  refine va_get (ci := 5) (v := .ref (ad 3)) (C := RX5) (T := TX5) (N := 6) hx hb hts inX5 hown hK hP _ (cw_arm (kA := kA) (ad := ad) (X := X)) rfl 3 (by decide) (hts _ q_179) (fun _ h9 => h9) rfl dX5_indexOfSyntaxError_1 ?_
  refine cs_fn (runV (As := []) (rest := []) ⟨hx, hb, hml, hown, hts⟩ (m_X2_begin l D kA (ad 3) (qz (X 8)) ) q_207 q_208 q_209 q_6 q_210 hd_X2_begin ⟨rfl, rfl⟩ ⟨Nat.le_of_ble_eq_true rfl, Nat.le_of_ble_eq_true rfl⟩ hK (ws := [((ad 3), dC (qz (X 8)))]) (P1 hP (cw_read (kA := kA) (ad := ad) (X := X))) (D1 hD (cw_read (kA := kA) (ad := ad) (X := X))) 0 (ci := 2) (C := RX2) (T := TX2) (N := 4) rfl rfl rfl hl.1 rfl (Nat.le_of_ble_eq_true rfl) dX5_indexOfSyntaxError_4 ⟨Nat.zero_le _, Nat.zero_le _⟩) hS (cw_sub (fun q hq => by simp only [List.mem_cons, List.not_mem_nil, or_false] at hq; rcases hq with rfl <;> first | exact ⟨3, by omega, rfl⟩)) (fun H locs hP1 hk1 hS => ?_)
  obtain ⟨hP, hD⟩ := jn_Q (Q' := (mkQ 0 ((qz (X 8)) 1) ((qz (X 8)) 2) ((qz (X 8)) 3))) hP hD hk1 hP1
  clear hk1 hP1
  refine lv_iconst (v := 0) hx hb dX5_indexOfSyntaxError_7 (by decide) ?_
  refine lv_istore_n (lv' := [(1, .int 0), (0, .ref (ad 0))]) hx hb dX5_indexOfSyntaxError_8 rfl hl (by decide) rfl (fun ls hl => ?_)
  have loop_9 : ∀ (n : Nat) (j : Nat) (Q : Nat → Int32) (x1 : Int32) (hj : j + n = L) (e1 : x1 = nI j) (hres : ieL (X 9) n Q x1 = ieF X L), ∀ (H : Heap) (locs : List Loc), va_P D vwCl (cw kA ad (upQ X Q)) H → va_D (Aw (cw kA ad X)) (cw kA ad (upQ X Q)) → va_S (Aw (cw kA ad X)) s.heap H locs → ∀ ls : Array Slot, lv_has ls 2 [(0, .ref (ad 0)), (1, .int x1)] → W p l e ({ frames := 2, cells := 0, slots := 0, locals := 44 } : Room) s m [.ref (ad 0)].toArray below meth c H locs 0 0 (MQ below (fQ (some (.int ((ieF X L).1))) D (cw kA ad X) (cw kA ad (upQ X (ieF X L).2))) [.ref (ad 0)].toArray s 0 0 (Aw (cw kA ad X))) (F0 m 9 ls []) := by
    clear hl
    clear hP hD hS
    intro n
    induction n with
    | zero =>
      intro j Q x1 hj e1 hres H locs hP hD hS ls hl
      refine lv_iload_n hx hb dX5_indexOfSyntaxError_9 rfl (lv_at hl 1 rfl) ?_
      refine lv_aload_n hx hb dX5_indexOfSyntaxError_10 rfl (lv_at hl 0 rfl) ?_
      refine va_get (ci := 5) (v := .int ((X 8) 2)) (C := RX5) (T := TX5) (N := 6) hx hb hts inX5 hown hK hP _ (cw_arm (kA := kA) (ad := ad) (X := upQ X Q)) rfl 5 (by decide) (hts _ q_181) (fun _ h9 => h9) rfl dX5_indexOfSyntaxError_11 ?_
      refine lv_icmp_ge (tgt := 40) hx hb dX5_indexOfSyntaxError_14 (by decide) (fun c_1 => ?_) (fun c_1 => ?_)
      · skip
        replace c_1 := ge_n c_1
        refine lv_aload_n hx hb dX5_indexOfSyntaxError_40 rfl (lv_at hl 0 rfl) ?_
        refine va_get (ci := 5) (v := .int ((X 8) 2)) (C := RX5) (T := TX5) (N := 6) hx hb hts inX5 hown hK hP _ (cw_arm (kA := kA) (ad := ad) (X := upQ X Q)) rfl 5 (by decide) (hts _ q_181) (fun _ h9 => h9) rfl dX5_indexOfSyntaxError_41 ?_
        exact end_fi hx hb hrt hlk hP hS (by rw [← hres]; show X 8 2 = x1; rw [e1, hlen, show j = L by omega]) (fun h => by rw [← hres]; exact h) dX5_indexOfSyntaxError_44
      · exact absurd c_1 (fun h => h (cnt_ge (N := L) e1 hlen.symm (by omega) (by omega)))
    | succ n ih9 =>
      intro j Q x1 hj e1 hres H locs hP hD hS ls hl
      refine lv_iload_n hx hb dX5_indexOfSyntaxError_9 rfl (lv_at hl 1 rfl) ?_
      refine lv_aload_n hx hb dX5_indexOfSyntaxError_10 rfl (lv_at hl 0 rfl) ?_
      refine va_get (ci := 5) (v := .int ((X 8) 2)) (C := RX5) (T := TX5) (N := 6) hx hb hts inX5 hown hK hP _ (cw_arm (kA := kA) (ad := ad) (X := upQ X Q)) rfl 5 (by decide) (hts _ q_181) (fun _ h9 => h9) rfl dX5_indexOfSyntaxError_11 ?_
      refine lv_icmp_ge (tgt := 40) hx hb dX5_indexOfSyntaxError_14 (by decide) (fun c_2 => ?_) (fun c_2 => ?_)
      · exact absurd c_2 (cnt_nge (N := L) e1 hlen.symm (by omega) (by omega))
      · skip
        replace c_2 := nge_l c_2
        refine lv_aload_n hx hb dX5_indexOfSyntaxError_17 rfl (lv_at hl 0 rfl) ?_
        refine va_get (ci := 5) (v := .ref (ad 3)) (C := RX5) (T := TX5) (N := 6) hx hb hts inX5 hown hK hP _ (cw_arm (kA := kA) (ad := ad) (X := upQ X Q)) rfl 3 (by decide) (hts _ q_179) (fun _ h9 => h9) rfl dX5_indexOfSyntaxError_18 ?_
        refine lv_aload_n hx hb dX5_indexOfSyntaxError_21 rfl (lv_at hl 0 rfl) ?_
        refine lv_iload_n hx hb dX5_indexOfSyntaxError_22 rfl (lv_at hl 1 rfl) ?_
        refine cs_p (runV (As := [.int x1]) (rest := [.ref (ad 3)]) ⟨hx, hb, hml, hown, hts⟩ (m_X5_codeAt l D kA ad (upQ X Q) x1 ) q_211 q_213 qp_1 q_1 q_214 hd_X5_codeAt ⟨rfl, rfl⟩ ⟨Nat.le_of_ble_eq_true rfl, Nat.le_of_ble_eq_true rfl⟩ hK (ws := (cw kA ad (upQ X Q))) hP hD _ (ci := 5) (C := RX5) (T := TX5) (N := 6) rfl (cw_arm (kA := kA) (ad := ad) (X := upQ X Q)) rfl hl.1 rfl (Nat.le_of_ble_eq_true rfl) dX5_indexOfSyntaxError_23 ⟨Nat.zero_le _, Nat.zero_le _⟩) ?_
        refine W_top (v' := .int (cdF ((X 9)) x1)) rfl ?_
        refine cs_fs (runV (As := [.int (cdF ((X 9)) x1)]) (rest := []) ⟨hx, hb, hml, hown, hts⟩ (m_X2_take l D kA (ad 3) Q (cdF ((X 9)) x1) ) q_215 q_216 q_217 q_6 q_218 hd_X2_take ⟨rfl, rfl⟩ ⟨Nat.le_of_ble_eq_true rfl, Nat.le_of_ble_eq_true rfl⟩ hK (ws := [((ad 3), dC Q)]) (P1 hP (cw_read (kA := kA) (ad := ad) (X := upQ X Q))) (D1 hD (cw_read (kA := kA) (ad := ad) (X := upQ X Q))) 0 (ci := 2) (C := RX2) (T := TX2) (N := 4) rfl rfl rfl hl.1 rfl (Nat.le_of_ble_eq_true rfl) dX5_indexOfSyntaxError_26 ⟨Nat.zero_le _, Nat.zero_le _⟩) hS (cw_sub (fun q hq => by simp only [List.mem_cons, List.not_mem_nil, or_false] at hq; rcases hq with rfl <;> first | exact ⟨3, by omega, rfl⟩)) (fun H locs hP1 hk1 hS => ?_)
        obtain ⟨hP, hD⟩ := jn_Q (Q' := ((tk Q (cdF ((X 9)) x1)).2)) hP hD hk1 hP1
        clear hk1 hP1
        rw [nf_Q] at hP hD
        refine lv_if_ne (tgt := 34) hx hb dX5_indexOfSyntaxError_29 (by decide) (fun c_3 => ?_) (fun c_3 => ?_)
        · skip
          replace c_3 := bI_n0 c_3
          refine lv_iinc (v := x1 + 1) (lv' := [(1, .int (x1 + 1)), (0, .ref (ad 0))]) hx hb dX5_indexOfSyntaxError_34 hl (k := 1) rfl (by first | rfl | exact congrArg (_ + ·) (by decide)) (by decide) rfl (fun ls hl => ?_)
          refine lv_goto (tgt := 9) hx hb dX5_indexOfSyntaxError_37 (by decide) ?_
          exact ih9 (j + 1) ((tk Q (cdF ((X 9)) x1)).2) (x1 + 1) (by omega) (by rw [e1]; exact nI_1 j) (by rw [← hres, ieL, if_pos c_3]) _ _ hP hD hS ls (lv_sub hl [1, 0] rfl)
        · skip
          replace c_3 := bI_0.mp c_3
          refine lv_iload_n hx hb dX5_indexOfSyntaxError_32 rfl (lv_at hl 1 rfl) ?_
          exact end_fi hx hb hrt hlk hP hS (by rw [← hres, ieL, if_neg (by rw [c_3]; decide)]) (fun h => by rw [← hres, ieL, if_neg (by rw [c_3]; decide)]; exact h) dX5_indexOfSyntaxError_33
  exact loop_9 L 0 (bgQ (qz (X 8))) 0 (by omega) (nI_0.symm) (rfl) _ _ hP hD hS ls (lv_sub hl [1, 0] rfl)

theorem hd_X5_isProgram : yX5_isProgram.cls ≠ "java/lang/invoke/MethodHandle" ∧ yX5_isProgram.cls ≠ "java/lang/invoke/VarHandle" ∧ (parseMethodDescriptor yX5_isProgram.desc).map (fun d => d.parameters.length) = some 0 := by decide +kernel
set_option maxRecDepth 100000 in
set_option maxHeartbeats 4000000 in
theorem m_X5_isProgram (l : Launch) (D : va_G) (kA : Nat → Nat) (ad : Nat → Nat) (X : Nat → Nat → Int32) (L : Nat) (hlen : X 8 2 = nI L) (hL : L ≤ 60) : Met l yX5_isProgram (Cond.code yX5_isProgram cX5_isProgram 1 (some .boolean) :: AW) ({ frames := 3, cells := 0, slots := 0, locals := 65 } : Room) (Pz [.ref (ad 0)] D (TY kA) (cw kA ad X)) (fQ (some (.int (bI (ipF X L)))) D (cw kA ad X) (cw kA ad (upQ X (ieF X L).2))) 0 0 (Aw (cw kA ad X)) := by
  refine MetZ (by decide +kernel) (Nat.le_of_ble_eq_true rfl) ?_
  intro p e s m below meth c ls hx hb hrt hts hown hml hlk hnm hP hK hD hS hl
  have hl : lv_has ls 1 [(0, .ref (ad 0))] := hl
  refine lv_aload_n hx hb dX5_isProgram_0 rfl (lv_at hl 0 rfl) ?_
  refine cs_fs (runV (As := []) (rest := []) ⟨hx, hb, hml, hown, hts⟩ (m_X5_indexOfSyntaxError l D kA ad X L (hlen) (hL)) q_203 q_205 qp_0 q_1 q_206 hd_X5_indexOfSyntaxError ⟨rfl, rfl⟩ ⟨Nat.le_of_ble_eq_true rfl, Nat.le_of_ble_eq_true rfl⟩ hK (ws := (cw kA ad X)) hP hD _ (ci := 5) (C := RX5) (T := TX5) (N := 6) rfl (cw_arm (kA := kA) (ad := ad) (X := X)) rfl hl.1 rfl (Nat.le_of_ble_eq_true rfl) dX5_isProgram_1 ⟨Nat.zero_le _, Nat.zero_le _⟩) hS (fun _ h => cw_Aw h) (fun H locs hP _ hS => ?_)
  have hD := cw_D (X' := upQ X (ieF X L).2) hD
  refine lv_aload_n hx hb dX5_isProgram_4 rfl (lv_at hl 0 rfl) ?_
  refine va_get (ci := 5) (v := .int ((X 8) 2)) (C := RX5) (T := TX5) (N := 6) hx hb hts inX5 hown hK hP _ (cw_arm (kA := kA) (ad := ad) (X := upQ X (ieF X L).2)) rfl 5 (by decide) (hts _ q_181) (fun _ h9 => h9) rfl dX5_isProgram_5 ?_
  refine lv_icmp_ne (tgt := 25) hx hb dX5_isProgram_8 (by decide) (fun c_1 => ?_) (fun c_1 => ?_)
  · skip
    refine lv_iconst (v := 0) hx hb dX5_isProgram_25 (by decide) ?_
    exact end_fz hx hb hrt hlk (by decide) hP hS (by rw [ipF, if_neg c_1] <;> rfl) (fun h => h) dX5_isProgram_26
  · skip
    refine lv_aload_n hx hb dX5_isProgram_11 rfl (lv_at hl 0 rfl) ?_
    refine va_get (ci := 5) (v := .ref (ad 3)) (C := RX5) (T := TX5) (N := 6) hx hb hts inX5 hown hK hP _ (cw_arm (kA := kA) (ad := ad) (X := upQ X (ieF X L).2)) rfl 3 (by decide) (hts _ q_179) (fun _ h9 => h9) rfl dX5_isProgram_12 ?_
    refine cs_p (runV (As := []) (rest := []) ⟨hx, hb, hml, hown, hts⟩ (m_X2_isAtEndOfCommand l D kA (ad 3) ((ieF X L).2) ) q_658 q_659 q_660 q_6 q_661 hd_X2_isAtEndOfCommand ⟨rfl, rfl⟩ ⟨Nat.le_of_ble_eq_true rfl, Nat.le_of_ble_eq_true rfl⟩ hK (ws := [((ad 3), dC ((ieF X L).2))]) (P1 hP (cw_read (kA := kA) (ad := ad) (X := upQ X (ieF X L).2))) (D1 hD (cw_read (kA := kA) (ad := ad) (X := upQ X (ieF X L).2))) 0 (ci := 2) (C := RX2) (T := TX2) (N := 4) rfl rfl rfl hl.1 rfl (Nat.le_of_ble_eq_true rfl) dX5_isProgram_15 ⟨Nat.zero_le _, Nat.zero_le _⟩) ?_
    refine lv_if_eq (tgt := 25) hx hb dX5_isProgram_18 (by decide) (fun c_2 => ?_) (fun c_2 => ?_)
    · skip
      replace c_2 := bI_0.mp c_2
      refine lv_iconst (v := 0) hx hb dX5_isProgram_25 (by decide) ?_
      exact end_fz hx hb hrt hlk (by decide) hP hS (by rw [ipF, if_pos c_1, if_neg (by rw [c_2]; decide)] <;> rfl) (fun h => h) dX5_isProgram_26
    · skip
      replace c_2 := bI_n0 c_2
      refine lv_iconst (v := 1) hx hb dX5_isProgram_21 (by decide) ?_
      refine lv_goto (tgt := 26) hx hb dX5_isProgram_22 (by decide) ?_
      exact end_fz hx hb hrt hlk (by decide) hP hS (by rw [ipF, if_pos c_1, if_pos c_2] <;> rfl) (fun h => h) dX5_isProgram_26

theorem hd_X5_carryOutCommand : yX5_carryOutCommand.cls ≠ "java/lang/invoke/MethodHandle" ∧ yX5_carryOutCommand.cls ≠ "java/lang/invoke/VarHandle" ∧ (parseMethodDescriptor yX5_carryOutCommand.desc).map (fun d => d.parameters.length) = some 0 := by decide +kernel
set_option maxRecDepth 100000 in
set_option maxHeartbeats 4000000 in
theorem m_X5_carryOutCommand (l : Launch) (D : va_G) (kA : Nat → Nat) (ad : Nat → Nat) (X : Nat → Nat → Int32) (a : Nat) (k : Nat) (ha : a < 4) (hq1 : qz (X 8) 1 = nI a) (hq3 : qz (X 8) 3 = nI k) (hk : k < 1000) : Met l yX5_carryOutCommand (Cond.code yX5_carryOutCommand cX5_carryOutCommand 2 (some .boolean) :: AW) ({ frames := 4, cells := 0, slots := 0, locals := 103 } : Room) (Pz [.ref (ad 0)] D (TY kA) (cw kA ad X)) (fQ (some (.int (bI (ccF (X 0) a k (qz (X 8) 2) (qz (X 8) 3)).1))) D (cw kA ad X) (cw kA ad (up2 X 0 (ccF (X 0) a k (qz (X 8) 2) (qz (X 8) 3)).2))) 0 0 (Aw (cw kA ad X)) := by
  refine MetZ (by decide +kernel) (Nat.le_of_ble_eq_true rfl) ?_
  intro p e s m below meth c ls hx hb hrt hts hown hml hlk hnm hP hK hD hS hl
  have hl : lv_has ls 2 [(0, .ref (ad 0))] := hl
  rw [← up2_self (X := X) (r := 0)] at hP hD
  refine lv_aload_n hx hb dX5_carryOutCommand_0 rfl (lv_at hl 0 rfl) ?_
  refine va_get (ci := 5) (v := .ref (sA ad 0)) (C := RX5) (T := TX5) (N := 6) hx hb hts inX5 hown hK hP _ (cw_arm (kA := kA) (ad := ad) (X := up2 X 0 (X 0))) rfl 0 (by decide) (hts _ q_176) (fun _ h9 => h9) rfl dX5_carryOutCommand_1 ?_
  refine lv_aload_n hx hb dX5_carryOutCommand_4 rfl (lv_at hl 0 rfl) ?_
  refine va_get (ci := 5) (v := .ref (ad 3)) (C := RX5) (T := TX5) (N := 6) hx hb hts inX5 hown hK hP _ (cw_arm (kA := kA) (ad := ad) (X := up2 X 0 (X 0))) rfl 3 (by decide) (hts _ q_179) (fun _ h9 => h9) rfl dX5_carryOutCommand_5 ?_
  refine va_get (ci := 2) (v := .int ((qz (X 8)) 1)) (C := RX2) (T := TX2) (N := 4) hx hb hts inX2 hown hK hP _ (cw_read (kA := kA) (ad := ad) (X := up2 X 0 (X 0))) rfl 1 (by decide) (hts _ q_162) (fun _ h9 => h9) rfl dX5_carryOutCommand_8 ?_
  refine cs_p (runV (As := [.int ((qz (X 8)) 1)]) (rest := []) ⟨hx, hb, hml, hown, hts⟩ (m_X4_gearAt l D kA ad (up2 X 0 (X 0)) 0 a ((qz (X 8)) 1) (by omega) (hq1) (ha)) q_297 q_248 q_249 q_2 q_250 hd_X4_gearAt ⟨rfl, rfl⟩ ⟨Nat.le_of_ble_eq_true rfl, Nat.le_of_ble_eq_true rfl⟩ hK (ws := (cw kA ad (up2 X 0 (X 0)))) hP hD _ (ci := 4) (C := RX4) (T := TX4) (N := 4) rfl (cw_state (kA := kA) (ad := ad) (X := up2 X 0 (X 0)) (r := 0) (by omega)) rfl hl.1 rfl (Nat.le_of_ble_eq_true rfl) dX5_carryOutCommand_11 ⟨Nat.zero_le _, Nat.zero_le _⟩) ?_
  refine lv_astore_n (lv' := [(1, .ref (gA ad 0 a)), (0, .ref (ad 0))]) hx hb dX5_carryOutCommand_14 rfl hl (by decide) rfl (fun ls hl => ?_)
  refine lv_aload_n hx hb dX5_carryOutCommand_15 rfl (lv_at hl 0 rfl) ?_
  refine lv_ifnonnull (tgt := 21) hx hb dX5_carryOutCommand_16 (by decide) ?_
  refine lv_aload_n hx hb dX5_carryOutCommand_21 rfl (lv_at hl 1 rfl) ?_
  refine va_get (ci := 5) (v := .ref (ad 3)) (C := RX5) (T := TX5) (N := 6) hx hb hts inX5 hown hK hP _ (cw_arm (kA := kA) (ad := ad) (X := up2 X 0 (X 0))) rfl 3 (by decide) (hts _ q_179) (fun _ h9 => h9) rfl dX5_carryOutCommand_22 ?_
  refine va_get (ci := 2) (v := .int ((qz (X 8)) 2)) (C := RX2) (T := TX2) (N := 4) hx hb hts inX2 hown hK hP _ (cw_read (kA := kA) (ad := ad) (X := up2 X 0 (X 0))) rfl 2 (by decide) (hts _ q_164) (fun _ h9 => h9) rfl dX5_carryOutCommand_25 ?_
  by_cases c_1 : (qz (X 8)) 2 = 43
  · skip
    refine lv_lookup (off := 44) (tgt := 72) hx hb dX5_carryOutCommand_28 (by decide +kernel) (by rw [c_1]; decide +kernel) (by decide) ?_
    refine lv_aload_n hx hb dX5_carryOutCommand_72 rfl (lv_at hl 1 rfl) ?_
    refine lv_aload_n hx hb dX5_carryOutCommand_73 rfl (lv_at hl 0 rfl) ?_
    refine lv_iconst (v := 1) hx hb dX5_carryOutCommand_74 (by decide) ?_
    refine lv_aload_n hx hb dX5_carryOutCommand_75 rfl (lv_at hl 1 rfl) ?_
    refine va_get (ci := 5) (v := .ref (ad 3)) (C := RX5) (T := TX5) (N := 6) hx hb hts inX5 hown hK hP _ (cw_arm (kA := kA) (ad := ad) (X := up2 X 0 (X 0))) rfl 3 (by decide) (hts _ q_179) (fun _ h9 => h9) rfl dX5_carryOutCommand_76 ?_
    refine va_get (ci := 2) (v := .int ((qz (X 8)) 3)) (C := RX2) (T := TX2) (N := 4) hx hb hts inX2 hown hK hP _ (cw_read (kA := kA) (ad := ad) (X := up2 X 0 (X 0))) rfl 3 (by decide) (hts _ q_166) (fun _ h9 => h9) rfl dX5_carryOutCommand_79 ?_
    refine cs_fs (runV (As := [.ref (gA ad 0 a), .int 1, .int ((qz (X 8)) 3)]) (rest := []) ⟨hx, hb, hml, hown, hts⟩ (m_X5_makeSteps l D kA ad (up2 X 0 (X 0)) a 1 ((qz (X 8)) 3) k (ha) (hq3) (hk)) q_567 q_569 qp_12 q_1 q_570 hd_X5_makeSteps ⟨rfl, rfl⟩ ⟨Nat.le_of_ble_eq_true rfl, Nat.le_of_ble_eq_true rfl⟩ hK (ws := (cw kA ad (up2 X 0 (X 0)))) hP hD _ (ci := 5) (C := RX5) (T := TX5) (N := 6) rfl (cw_arm (kA := kA) (ad := ad) (X := up2 X 0 (X 0))) rfl hl.1 rfl (Nat.le_of_ble_eq_true rfl) dX5_carryOutCommand_82 ⟨Nat.zero_le _, Nat.zero_le _⟩) hS (fun _ h => cw_Aw h) (fun H locs hP _ hS => ?_)
    have hD := cw_D (X' := up2 (up2 X 0 (X 0)) 0 (msL a 1 k ((X 0)) 0).2) hD
    have hP : va_P D vwCl (cw kA ad (up2 (up2 X 0 (X 0)) 0 (msL a 1 k ((X 0)) 0).2)) H := hP
    rw [nf_2] at hP hD
    refine W_top (v' := .int ((msL a 1 k ((X 0)) 0).1)) rfl ?_
    refine lv_if_le (tgt := 92) hx hb dX5_carryOutCommand_85 (by decide) (fun c_2 => ?_) (fun c_2 => ?_)
    · skip
      replace c_2 := ge_n c_2
      refine lv_iconst (v := 0) hx hb dX5_carryOutCommand_92 (by decide) ?_
      exact end_fz hx hb hrt hlk (by decide) hP hS (by rw [ccF, if_pos c_1, if_neg c_2] <;> rfl) (fun h => by rw [ccF, if_pos c_1, if_neg c_2]; exact h) dX5_carryOutCommand_93
    · skip
      replace c_2 := nge_l c_2
      refine lv_iconst (v := 1) hx hb dX5_carryOutCommand_88 (by decide) ?_
      refine lv_goto (tgt := 93) hx hb dX5_carryOutCommand_89 (by decide) ?_
      exact end_fz hx hb hrt hlk (by decide) hP hS (by rw [ccF, if_pos c_1, if_pos c_2] <;> rfl) (fun h => by rw [ccF, if_pos c_1, if_pos c_2]; exact h) dX5_carryOutCommand_93
  by_cases c_3 : (qz (X 8)) 2 = 45
  · skip
    refine lv_lookup (off := 66) (tgt := 94) hx hb dX5_carryOutCommand_28 (by decide +kernel) (by rw [c_3]; decide +kernel) (by decide) ?_
    refine lv_aload_n hx hb dX5_carryOutCommand_94 rfl (lv_at hl 1 rfl) ?_
    refine lv_aload_n hx hb dX5_carryOutCommand_95 rfl (lv_at hl 0 rfl) ?_
    refine lv_iconst (v := (-1)) hx hb dX5_carryOutCommand_96 (by decide) ?_
    refine lv_aload_n hx hb dX5_carryOutCommand_97 rfl (lv_at hl 1 rfl) ?_
    refine va_get (ci := 5) (v := .ref (ad 3)) (C := RX5) (T := TX5) (N := 6) hx hb hts inX5 hown hK hP _ (cw_arm (kA := kA) (ad := ad) (X := up2 X 0 (X 0))) rfl 3 (by decide) (hts _ q_179) (fun _ h9 => h9) rfl dX5_carryOutCommand_98 ?_
    refine va_get (ci := 2) (v := .int ((qz (X 8)) 3)) (C := RX2) (T := TX2) (N := 4) hx hb hts inX2 hown hK hP _ (cw_read (kA := kA) (ad := ad) (X := up2 X 0 (X 0))) rfl 3 (by decide) (hts _ q_166) (fun _ h9 => h9) rfl dX5_carryOutCommand_101 ?_
    refine cs_fs (runV (As := [.ref (gA ad 0 a), .int (-1), .int ((qz (X 8)) 3)]) (rest := []) ⟨hx, hb, hml, hown, hts⟩ (m_X5_makeSteps l D kA ad (up2 X 0 (X 0)) a (-1) ((qz (X 8)) 3) k (ha) (hq3) (hk)) q_567 q_569 qp_12 q_1 q_570 hd_X5_makeSteps ⟨rfl, rfl⟩ ⟨Nat.le_of_ble_eq_true rfl, Nat.le_of_ble_eq_true rfl⟩ hK (ws := (cw kA ad (up2 X 0 (X 0)))) hP hD _ (ci := 5) (C := RX5) (T := TX5) (N := 6) rfl (cw_arm (kA := kA) (ad := ad) (X := up2 X 0 (X 0))) rfl hl.1 rfl (Nat.le_of_ble_eq_true rfl) dX5_carryOutCommand_104 ⟨Nat.zero_le _, Nat.zero_le _⟩) hS (fun _ h => cw_Aw h) (fun H locs hP _ hS => ?_)
    have hD := cw_D (X' := up2 (up2 X 0 (X 0)) 0 (msL a (-1) k ((X 0)) 0).2) hD
    have hP : va_P D vwCl (cw kA ad (up2 (up2 X 0 (X 0)) 0 (msL a (-1) k ((X 0)) 0).2)) H := hP
    rw [nf_2] at hP hD
    refine W_top (v' := .int ((msL a (-1) k ((X 0)) 0).1)) rfl ?_
    refine lv_if_le (tgt := 114) hx hb dX5_carryOutCommand_107 (by decide) (fun c_4 => ?_) (fun c_4 => ?_)
    · skip
      replace c_4 := ge_n c_4
      refine lv_iconst (v := 0) hx hb dX5_carryOutCommand_114 (by decide) ?_
      exact end_fz hx hb hrt hlk (by decide) hP hS (by rw [ccF, if_neg c_1, if_pos c_3, if_neg c_4] <;> rfl) (fun h => by rw [ccF, if_neg c_1, if_pos c_3, if_neg c_4]; exact h) dX5_carryOutCommand_115
    · skip
      replace c_4 := nge_l c_4
      refine lv_iconst (v := 1) hx hb dX5_carryOutCommand_110 (by decide) ?_
      refine lv_goto (tgt := 115) hx hb dX5_carryOutCommand_111 (by decide) ?_
      exact end_fz hx hb hrt hlk (by decide) hP hS (by rw [ccF, if_neg c_1, if_pos c_3, if_pos c_4] <;> rfl) (fun h => by rw [ccF, if_neg c_1, if_pos c_3, if_pos c_4]; exact h) dX5_carryOutCommand_115
  by_cases c_5 : (qz (X 8)) 2 = 61
  · skip
    refine lv_lookup (off := 88) (tgt := 116) hx hb dX5_carryOutCommand_28 (by decide +kernel) (by rw [c_5]; decide +kernel) (by decide) ?_
    refine lv_aload_n hx hb dX5_carryOutCommand_116 rfl (lv_at hl 1 rfl) ?_
    refine lv_aload_n hx hb dX5_carryOutCommand_117 rfl (lv_at hl 0 rfl) ?_
    refine lv_aload_n hx hb dX5_carryOutCommand_118 rfl (lv_at hl 1 rfl) ?_
    refine va_get (ci := 5) (v := .ref (ad 3)) (C := RX5) (T := TX5) (N := 6) hx hb hts inX5 hown hK hP _ (cw_arm (kA := kA) (ad := ad) (X := up2 X 0 (X 0))) rfl 3 (by decide) (hts _ q_179) (fun _ h9 => h9) rfl dX5_carryOutCommand_119 ?_
    refine va_get (ci := 2) (v := .int ((qz (X 8)) 3)) (C := RX2) (T := TX2) (N := 4) hx hb hts inX2 hown hK hP _ (cw_read (kA := kA) (ad := ad) (X := up2 X 0 (X 0))) rfl 3 (by decide) (hts _ q_166) (fun _ h9 => h9) rfl dX5_carryOutCommand_122 ?_
    refine cs_p (runV (As := [.ref (gA ad 0 a), .int ((qz (X 8)) 3)]) (rest := []) ⟨hx, hb, hml, hown, hts⟩ (m_X5_canGo l D kA ad (up2 X 0 (X 0)) a ((qz (X 8)) 3) (ha)) q_582 q_584 qp_13 q_1 q_585 hd_X5_canGo ⟨rfl, rfl⟩ ⟨Nat.le_of_ble_eq_true rfl, Nat.le_of_ble_eq_true rfl⟩ hK (ws := (cw kA ad (up2 X 0 (X 0)))) hP hD _ (ci := 5) (C := RX5) (T := TX5) (N := 6) rfl (cw_arm (kA := kA) (ad := ad) (X := up2 X 0 (X 0))) rfl hl.1 rfl (Nat.le_of_ble_eq_true rfl) dX5_carryOutCommand_125 ⟨Nat.zero_le _, Nat.zero_le _⟩) ?_
    refine W_top (v' := .int (bI (cgF ((X 0)) a ((qz (X 8)) 3)))) rfl ?_
    refine lv_if_ne (tgt := 133) hx hb dX5_carryOutCommand_128 (by decide) (fun c_6 => ?_) (fun c_6 => ?_)
    · skip
      replace c_6 := bI_n0 c_6
      refine lv_aload_n hx hb dX5_carryOutCommand_133 rfl (lv_at hl 1 rfl) ?_
      refine lv_aload_n hx hb dX5_carryOutCommand_134 rfl (lv_at hl 0 rfl) ?_
      refine lv_aload_n hx hb dX5_carryOutCommand_135 rfl (lv_at hl 1 rfl) ?_
      refine va_get (ci := 5) (v := .ref (ad 3)) (C := RX5) (T := TX5) (N := 6) hx hb hts inX5 hown hK hP _ (cw_arm (kA := kA) (ad := ad) (X := up2 X 0 (X 0))) rfl 3 (by decide) (hts _ q_179) (fun _ h9 => h9) rfl dX5_carryOutCommand_136 ?_
      refine va_get (ci := 2) (v := .int ((qz (X 8)) 3)) (C := RX2) (T := TX2) (N := 4) hx hb hts inX2 hown hK hP _ (cw_read (kA := kA) (ad := ad) (X := up2 X 0 (X 0))) rfl 3 (by decide) (hts _ q_166) (fun _ h9 => h9) rfl dX5_carryOutCommand_139 ?_
      refine cs_fs (runV (As := [.ref (gA ad 0 a), .int ((qz (X 8)) 3)]) (rest := []) ⟨hx, hb, hml, hown, hts⟩ (m_X5_goTo l D kA ad (up2 X 0 (X 0)) a ((qz (X 8)) 3) (ha)) q_590 q_592 qp_15 q_1 q_593 hd_X5_goTo ⟨rfl, rfl⟩ ⟨Nat.le_of_ble_eq_true rfl, Nat.le_of_ble_eq_true rfl⟩ hK (ws := (cw kA ad (up2 X 0 (X 0)))) hP hD _ (ci := 5) (C := RX5) (T := TX5) (N := 6) rfl (cw_arm (kA := kA) (ad := ad) (X := up2 X 0 (X 0))) rfl hl.1 rfl (Nat.le_of_ble_eq_true rfl) dX5_carryOutCommand_142 ⟨Nat.zero_le _, Nat.zero_le _⟩) hS (fun _ h => cw_Aw h) (fun H locs hP _ hS => ?_)
      have hD := cw_D (X' := up2 (up2 X 0 (X 0)) 0 (gtF ((X 0)) a ((qz (X 8)) 3)).2) hD
      have hP : va_P D vwCl (cw kA ad (up2 (up2 X 0 (X 0)) 0 (gtF ((X 0)) a ((qz (X 8)) 3)).2)) H := hP
      rw [nf_2] at hP hD
      refine W_top (v' := .int ((gtF ((X 0)) a ((qz (X 8)) 3)).1)) rfl ?_
      refine lv_pop hx hb dX5_carryOutCommand_145 rfl ?_
      refine lv_iconst (v := 1) hx hb dX5_carryOutCommand_146 (by decide) ?_
      exact end_fz hx hb hrt hlk (by decide) hP hS (by rw [ccF, if_neg c_1, if_neg c_3, if_pos c_5, if_pos c_6] <;> rfl) (fun h => by rw [ccF, if_neg c_1, if_neg c_3, if_pos c_5, if_pos c_6]; exact h) dX5_carryOutCommand_147
    · skip
      replace c_6 := bI_0.mp c_6
      refine lv_iconst (v := 0) hx hb dX5_carryOutCommand_131 (by decide) ?_
      exact end_fz hx hb hrt hlk (by decide) hP hS (by rw [ccF, if_neg c_1, if_neg c_3, if_pos c_5, if_neg (by rw [c_6]; decide)] <;> rfl) (fun h => by rw [ccF, if_neg c_1, if_neg c_3, if_pos c_5, if_neg (by rw [c_6]; decide)]; exact h) dX5_carryOutCommand_132
  by_cases c_7 : (qz (X 8)) 2 = 103
  · skip
    refine lv_lookup (off := 120) (tgt := 148) hx hb dX5_carryOutCommand_28 (by decide +kernel) (by rw [c_7]; decide +kernel) (by decide) ?_
    refine lv_aload_n hx hb dX5_carryOutCommand_148 rfl (lv_at hl 1 rfl) ?_
    refine cs_p (runV (As := []) (rest := []) ⟨hx, hb, hml, hown, hts⟩ (m_X5_canGrease l D kA ad (up2 X 0 (X 0)) ) q_612 q_614 qp_17 q_1 q_615 hd_X5_canGrease ⟨rfl, rfl⟩ ⟨Nat.le_of_ble_eq_true rfl, Nat.le_of_ble_eq_true rfl⟩ hK (ws := (cw kA ad (up2 X 0 (X 0)))) hP hD _ (ci := 5) (C := RX5) (T := TX5) (N := 6) rfl (cw_arm (kA := kA) (ad := ad) (X := up2 X 0 (X 0))) rfl hl.1 rfl (Nat.le_of_ble_eq_true rfl) dX5_carryOutCommand_149 ⟨Nat.zero_le _, Nat.zero_le _⟩) ?_
    refine W_top (v' := .int (bI (gsF ((X 0))))) rfl ?_
    refine lv_if_ne (tgt := 157) hx hb dX5_carryOutCommand_152 (by decide) (fun c_8 => ?_) (fun c_8 => ?_)
    · skip
      replace c_8 := bI_n0 c_8
      refine lv_aload_n hx hb dX5_carryOutCommand_157 rfl (lv_at hl 1 rfl) ?_
      refine lv_aload_n hx hb dX5_carryOutCommand_158 rfl (lv_at hl 0 rfl) ?_
      refine cs_fn (runV (As := [.ref (gA ad 0 a)]) (rest := []) ⟨hx, hb, hml, hown, hts⟩ (m_X5_makeGreased l D kA ad (up2 X 0 (X 0)) a (ha)) q_617 q_619 qp_18 q_1 q_620 hd_X5_makeGreased ⟨rfl, rfl⟩ ⟨Nat.le_of_ble_eq_true rfl, Nat.le_of_ble_eq_true rfl⟩ hK (ws := (cw kA ad (up2 X 0 (X 0)))) hP hD _ (ci := 5) (C := RX5) (T := TX5) (N := 6) rfl (cw_arm (kA := kA) (ad := ad) (X := up2 X 0 (X 0))) rfl hl.1 rfl (Nat.le_of_ble_eq_true rfl) dX5_carryOutCommand_159 ⟨Nat.zero_le _, Nat.zero_le _⟩) hS (fun _ h => cw_Aw h) (fun H locs hP _ hS => ?_)
      have hD := cw_D (X' := up2 (up2 X 0 (X 0)) 0 (grZ ((X 0)) a)) hD
      have hP : va_P D vwCl (cw kA ad (up2 (up2 X 0 (X 0)) 0 (grZ ((X 0)) a))) H := hP
      rw [nf_2] at hP hD
      refine lv_iconst (v := 1) hx hb dX5_carryOutCommand_162 (by decide) ?_
      exact end_fz hx hb hrt hlk (by decide) hP hS (by rw [ccF, if_neg c_1, if_neg c_3, if_neg c_5, if_pos c_7, if_pos c_8] <;> rfl) (fun h => by rw [ccF, if_neg c_1, if_neg c_3, if_neg c_5, if_pos c_7, if_pos c_8]; exact h) dX5_carryOutCommand_163
    · skip
      replace c_8 := bI_0.mp c_8
      refine lv_iconst (v := 0) hx hb dX5_carryOutCommand_155 (by decide) ?_
      exact end_fz hx hb hrt hlk (by decide) hP hS (by rw [ccF, if_neg c_1, if_neg c_3, if_neg c_5, if_pos c_7, if_neg (by rw [c_8]; decide)] <;> rfl) (fun h => by rw [ccF, if_neg c_1, if_neg c_3, if_neg c_5, if_pos c_7, if_neg (by rw [c_8]; decide)]; exact h) dX5_carryOutCommand_156
  refine lv_lookup (off := 136) (tgt := 164) hx hb dX5_carryOutCommand_28 (by decide +kernel) (by rw [lv_osw c_1 (by decide)]; rw [lv_osw c_3 (by decide)]; rw [lv_osw c_5 (by decide)]; rw [lv_osw c_7 (by decide)]; rfl) (by decide) ?_
  refine lv_aload_n hx hb dX5_carryOutCommand_164 rfl (lv_at hl 1 rfl) ?_
  refine lv_aload_n hx hb dX5_carryOutCommand_165 rfl (lv_at hl 0 rfl) ?_
  refine cs_fs (runV (As := [.ref (gA ad 0 a)]) (rest := []) ⟨hx, hb, hml, hown, hts⟩ (m_X5_makeHomed l D kA ad (up2 X 0 (X 0)) a (ha)) q_601 q_603 qp_16 q_1 q_604 hd_X5_makeHomed ⟨rfl, rfl⟩ ⟨Nat.le_of_ble_eq_true rfl, Nat.le_of_ble_eq_true rfl⟩ hK (ws := (cw kA ad (up2 X 0 (X 0)))) hP hD _ (ci := 5) (C := RX5) (T := TX5) (N := 6) rfl (cw_arm (kA := kA) (ad := ad) (X := up2 X 0 (X 0))) rfl hl.1 rfl (Nat.le_of_ble_eq_true rfl) dX5_carryOutCommand_166 ⟨Nat.zero_le _, Nat.zero_le _⟩) hS (fun _ h => cw_Aw h) (fun H locs hP _ hS => ?_)
  have hD := cw_D (X' := up2 (up2 X 0 (X 0)) 0 (hmZ ((X 0)) a)) hD
  have hP : va_P D vwCl (cw kA ad (up2 (up2 X 0 (X 0)) 0 (hmZ ((X 0)) a))) H := hP
  rw [nf_2] at hP hD
  refine W_top (v' := .int (bI (hmB ((X 0)) a))) rfl ?_
  refine lv_pop hx hb dX5_carryOutCommand_169 rfl ?_
  refine lv_iconst (v := 1) hx hb dX5_carryOutCommand_170 (by decide) ?_
  exact end_fz hx hb hrt hlk (by decide) hP hS (by rw [ccF, if_neg c_1, if_neg c_3, if_neg c_5, if_neg c_7] <;> rfl) (fun h => by rw [ccF, if_neg c_1, if_neg c_3, if_neg c_5, if_neg c_7]; exact h) dX5_carryOutCommand_171

theorem hd_X5_carryOutBuffer : yX5_carryOutBuffer.cls ≠ "java/lang/invoke/MethodHandle" ∧ yX5_carryOutBuffer.cls ≠ "java/lang/invoke/VarHandle" ∧ (parseMethodDescriptor yX5_carryOutBuffer.desc).map (fun d => d.parameters.length) = some 0 := by decide +kernel
set_option maxRecDepth 100000 in
set_option maxHeartbeats 4000000 in
theorem m_X5_carryOutBuffer (l : Launch) (D : va_G) (kA : Nat → Nat) (ad : Nat → Nat) (X : Nat → Nat → Int32) (L : Nat) (hlen : X 8 2 = nI L) (hL : L ≤ 60) (hval : ∀ j, j ≤ L → codeN (X 9) L j = 59 → QV (Qs (X 9) L (qz (X 8)) j)) : Met l yX5_carryOutBuffer (Cond.code yX5_carryOutBuffer cX5_carryOutBuffer 4 (some .int) :: AW) ({ frames := 5, cells := 0, slots := 0, locals := 124 } : Room) (Pz [.ref (ad 0)] D (TY kA) (cw kA ad X)) (fQ (some (.int ((cbF X L).1))) D (cw kA ad X) (cw kA ad (upQ (up2 X 0 (cbF X L).2.1) (cbF X L).2.2))) 0 0 (Aw (cw kA ad X)) := by
  refine MetZ (by decide +kernel) (Nat.le_of_ble_eq_true rfl) ?_
  intro p e s m below meth c ls hx hb hrt hts hown hml hlk hnm hP hK hD hS hl
  have hl : lv_has ls 4 [(0, .ref (ad 0))] := hl
  rw [← up2_self (X := X) (r := 0)] at hP hD
  refine lv_aload_n hx hb dX5_carryOutBuffer_0 rfl (lv_at hl 0 rfl) ?_
  refine va_get (ci := 5) (v := .ref (ad 3)) (C := RX5) (T := TX5) (N := 6) hx hb hts inX5 hown hK hP _ (cw_arm (kA := kA) (ad := ad) (X := up2 X 0 (X 0))) rfl 3 (by decide) (hts _ q_179) (fun _ h9 => h9) rfl dX5_carryOutBuffer_1 ?_
  refine cs_fn (runV (As := []) (rest := []) ⟨hx, hb, hml, hown, hts⟩ (m_X2_begin l D kA (ad 3) (qz (X 8)) ) q_207 q_208 q_209 q_6 q_210 hd_X2_begin ⟨rfl, rfl⟩ ⟨Nat.le_of_ble_eq_true rfl, Nat.le_of_ble_eq_true rfl⟩ hK (ws := [((ad 3), dC (qz (X 8)))]) (P1 hP (cw_read (kA := kA) (ad := ad) (X := up2 X 0 (X 0)))) (D1 hD (cw_read (kA := kA) (ad := ad) (X := up2 X 0 (X 0)))) 0 (ci := 2) (C := RX2) (T := TX2) (N := 4) rfl rfl rfl hl.1 rfl (Nat.le_of_ble_eq_true rfl) dX5_carryOutBuffer_4 ⟨Nat.zero_le _, Nat.zero_le _⟩) hS (cw_sub (fun q hq => by simp only [List.mem_cons, List.not_mem_nil, or_false] at hq; rcases hq with rfl <;> first | exact ⟨3, by omega, rfl⟩)) (fun H locs hP1 hk1 hS => ?_)
  obtain ⟨hP, hD⟩ := jn_Q (Q' := (mkQ 0 ((qz (X 8)) 1) ((qz (X 8)) 2) ((qz (X 8)) 3))) hP hD hk1 hP1
  clear hk1 hP1
  refine lv_iconst (v := 0) hx hb dX5_carryOutBuffer_7 (by decide) ?_
  refine lv_istore_n (lv' := [(1, .int 0), (0, .ref (ad 0))]) hx hb dX5_carryOutBuffer_8 rfl hl (by decide) rfl (fun ls hl => ?_)
  refine lv_iconst (v := 0) hx hb dX5_carryOutBuffer_9 (by decide) ?_
  refine lv_istore_n (lv' := [(2, .int 0), (1, .int 0), (0, .ref (ad 0))]) hx hb dX5_carryOutBuffer_10 rfl hl (by decide) rfl (fun ls hl => ?_)
  have loop_11 : ∀ (n : Nat) (j : Nat) (z : Nat → Int32) (Q : Nat → Int32) (x1 : Int32) (x2 : Int32) (hj : j + n = L + 1) (e2 : x2 = nI j) (eQ : Q = Qs (X 9) L (qz (X 8)) j) (hres : cbL (X 9) L n j z Q x1 = cbF X L), ∀ (H : Heap) (locs : List Loc), va_P D vwCl (cw kA ad (upQ (up2 X 0 z) Q)) H → va_D (Aw (cw kA ad X)) (cw kA ad (upQ (up2 X 0 z) Q)) → va_S (Aw (cw kA ad X)) s.heap H locs → ∀ ls : Array Slot, lv_has ls 4 [(0, .ref (ad 0)), (1, .int x1), (2, .int x2)] → W p l e ({ frames := 5, cells := 0, slots := 0, locals := 124 } : Room) s m [.ref (ad 0)].toArray below meth c H locs 0 0 (MQ below (fQ (some (.int ((cbF X L).1))) D (cw kA ad X) (cw kA ad (upQ (up2 X 0 (cbF X L).2.1) (cbF X L).2.2))) [.ref (ad 0)].toArray s 0 0 (Aw (cw kA ad X))) (F0 m 11 ls []) := by
    clear hl
    clear hP hD hS
    intro n
    induction n with
    | zero =>
      intro j z Q x1 x2 hj e2 eQ hres H locs hP hD hS ls hl
      refine lv_iload_n hx hb dX5_carryOutBuffer_11 rfl (lv_at hl 2 rfl) ?_
      refine lv_aload_n hx hb dX5_carryOutBuffer_12 rfl (lv_at hl 0 rfl) ?_
      refine va_get (ci := 5) (v := .int ((X 8) 2)) (C := RX5) (T := TX5) (N := 6) hx hb hts inX5 hown hK hP _ (cw_arm (kA := kA) (ad := ad) (X := upQ (up2 X 0 z) Q)) rfl 5 (by decide) (hts _ q_181) (fun _ h9 => h9) rfl dX5_carryOutBuffer_13 ?_
      refine lv_icmp_gt (tgt := 72) hx hb dX5_carryOutBuffer_16 (by decide) (fun c_1 => ?_) (fun c_1 => ?_)
      · skip
        refine lv_iload_n hx hb dX5_carryOutBuffer_72 rfl (lv_at hl 1 rfl) ?_
        exact end_fi hx hb hrt hlk hP hS (by rw [← hres]; rfl) (fun h => by rw [← hres]; exact h) dX5_carryOutBuffer_73
      · exact absurd c_1 (fun h => h (by rw [e2, hlen]; exact (nI_ltI (by omega) (by omega)).mpr (by omega)))
    | succ n ih11 =>
      intro j z Q x1 x2 hj e2 eQ hres H locs hP hD hS ls hl
      refine lv_iload_n hx hb dX5_carryOutBuffer_11 rfl (lv_at hl 2 rfl) ?_
      refine lv_aload_n hx hb dX5_carryOutBuffer_12 rfl (lv_at hl 0 rfl) ?_
      refine va_get (ci := 5) (v := .int ((X 8) 2)) (C := RX5) (T := TX5) (N := 6) hx hb hts inX5 hown hK hP _ (cw_arm (kA := kA) (ad := ad) (X := upQ (up2 X 0 z) Q)) rfl 5 (by decide) (hts _ q_181) (fun _ h9 => h9) rfl dX5_carryOutBuffer_13 ?_
      refine lv_icmp_gt (tgt := 72) hx hb dX5_carryOutBuffer_16 (by decide) (fun c_2 => ?_) (fun c_2 => ?_)
      · exact absurd c_2 (by rw [e2, hlen]; exact fun h => absurd ((nI_ltI (by omega) (by omega)).mp h) (by omega))
      · skip
        refine lv_iload_n hx hb dX5_carryOutBuffer_19 rfl (lv_at hl 2 rfl) ?_
        refine lv_aload_n hx hb dX5_carryOutBuffer_20 rfl (lv_at hl 0 rfl) ?_
        refine va_get (ci := 5) (v := .int ((X 8) 2)) (C := RX5) (T := TX5) (N := 6) hx hb hts inX5 hown hK hP _ (cw_arm (kA := kA) (ad := ad) (X := upQ (up2 X 0 z) Q)) rfl 5 (by decide) (hts _ q_181) (fun _ h9 => h9) rfl dX5_carryOutBuffer_21 ?_
        refine lv_icmp_ge (tgt := 35) hx hb dX5_carryOutBuffer_24 (by decide) (fun c_3 => ?_) (fun c_3 => ?_)
        · skip
          replace c_3 := ge_n c_3
          have hjL : ¬ j < L := fun h => c_3 (by rw [e2, hlen]; exact (nI_ltI (by omega) (by omega)).mpr h)
          have ec := codeN_0 (b := X 9) hjL
          refine lv_bipush (v := 59) hx hb dX5_carryOutBuffer_35 (by decide) ?_
          refine lv_istore_n (lv' := [(3, .int 59), (0, .ref (ad 0)), (1, .int x1), (2, .int x2)]) hx hb dX5_carryOutBuffer_37 rfl hl (by decide) rfl (fun ls hl => ?_)
          refine lv_iload_n hx hb dX5_carryOutBuffer_38 rfl (lv_at hl 0 rfl) ?_
          refine lv_bipush (v := 59) hx hb dX5_carryOutBuffer_39 (by decide) ?_
          refine lv_icmp_ne (tgt := 57) hx hb dX5_carryOutBuffer_41 (by decide) (fun c_4 => ?_) (fun c_4 => ?_)
          · exact absurd c_4 (by decide)
          · skip
            have hqv : QV Q := by rw [eQ]; exact hval j (by omega) (by first | exact ec | (rw [ec]; exact c_4))
            refine lv_aload_n hx hb dX5_carryOutBuffer_44 rfl (lv_at hl 1 rfl) ?_
            refine cs_fs (runV (As := []) (rest := []) ⟨hx, hb, hml, hown, hts⟩ (m_X5_carryOutCommand l D kA ad (upQ (up2 X 0 z) Q) ((Q 1).toNatClampNeg) ((Q 3).toNatClampNeg) (hqv.1.2) (hqv.1.1) (hqv.2.1) (hqv.2.2)) q_667 q_669 qp_21 q_1 q_670 hd_X5_carryOutCommand ⟨rfl, rfl⟩ ⟨Nat.le_of_ble_eq_true rfl, Nat.le_of_ble_eq_true rfl⟩ hK (ws := (cw kA ad (upQ (up2 X 0 z) Q))) hP hD _ (ci := 5) (C := RX5) (T := TX5) (N := 6) rfl (cw_arm (kA := kA) (ad := ad) (X := upQ (up2 X 0 z) Q)) rfl hl.1 rfl (Nat.le_of_ble_eq_true rfl) dX5_carryOutBuffer_45 ⟨Nat.zero_le _, Nat.zero_le _⟩) hS (fun _ h => cw_Aw h) (fun H locs hP _ hS => ?_)
            have hD := cw_D (X' := up2 (upQ (up2 X 0 z) Q) 0 (ccF (z) ((Q 1).toNatClampNeg) ((Q 3).toNatClampNeg) (Q 2) (Q 3)).2) hD
            have hP : va_P D vwCl (cw kA ad (up2 (upQ (up2 X 0 z) Q) 0 (ccF (z) ((Q 1).toNatClampNeg) ((Q 3).toNatClampNeg) (Q 2) (Q 3)).2)) H := hP
            rw [nf_2Q (by omega)] at hP hD
            rw [nf_2] at hP hD
            refine W_top (v' := .int (bI (ccF (z) ((Q 1).toNatClampNeg) ((Q 3).toNatClampNeg) (Q 2) (Q 3)).1)) rfl ?_
            refine lv_if_ne (tgt := 54) hx hb dX5_carryOutBuffer_48 (by decide) (fun c_5 => ?_) (fun c_5 => ?_)
            · skip
              replace c_5 := bI_n0 c_5
              refine lv_iinc (v := x1 + 1) (lv' := [(1, .int (x1 + 1)), (3, .int 59), (0, .ref (ad 0)), (2, .int x2)]) hx hb dX5_carryOutBuffer_54 hl (k := 2) rfl (by first | rfl | exact congrArg (_ + ·) (by decide)) (by decide) rfl (fun ls hl => ?_)
              refine lv_aload_n hx hb dX5_carryOutBuffer_57 rfl (lv_at hl 2 rfl) ?_
              refine va_get (ci := 5) (v := .ref (ad 3)) (C := RX5) (T := TX5) (N := 6) hx hb hts inX5 hown hK hP _ (cw_arm (kA := kA) (ad := ad) (X := upQ (up2 X 0 (ccF (z) ((Q 1).toNatClampNeg) ((Q 3).toNatClampNeg) (Q 2) (Q 3)).2) Q)) rfl 3 (by decide) (hts _ q_179) (fun _ h9 => h9) rfl dX5_carryOutBuffer_58 ?_
              refine lv_iload_n hx hb dX5_carryOutBuffer_61 rfl (lv_at hl 1 rfl) ?_
              refine cs_fs (runV (As := [.int 59]) (rest := []) ⟨hx, hb, hml, hown, hts⟩ (m_X2_take l D kA (ad 3) Q 59 ) q_215 q_216 q_217 q_6 q_218 hd_X2_take ⟨rfl, rfl⟩ ⟨Nat.le_of_ble_eq_true rfl, Nat.le_of_ble_eq_true rfl⟩ hK (ws := [((ad 3), dC Q)]) (P1 hP (cw_read (kA := kA) (ad := ad) (X := upQ (up2 X 0 (ccF (z) ((Q 1).toNatClampNeg) ((Q 3).toNatClampNeg) (Q 2) (Q 3)).2) Q))) (D1 hD (cw_read (kA := kA) (ad := ad) (X := upQ (up2 X 0 (ccF (z) ((Q 1).toNatClampNeg) ((Q 3).toNatClampNeg) (Q 2) (Q 3)).2) Q))) 0 (ci := 2) (C := RX2) (T := TX2) (N := 4) rfl rfl rfl hl.1 rfl (Nat.le_of_ble_eq_true rfl) dX5_carryOutBuffer_62 ⟨Nat.zero_le _, Nat.zero_le _⟩) hS (cw_sub (fun q hq => by simp only [List.mem_cons, List.not_mem_nil, or_false] at hq; rcases hq with rfl <;> first | exact ⟨3, by omega, rfl⟩)) (fun H locs hP1 hk1 hS => ?_)
              obtain ⟨hP, hD⟩ := jn_Q (Q' := ((tk Q 59).2)) hP hD hk1 hP1
              clear hk1 hP1
              rw [nf_Q] at hP hD
              refine lv_pop hx hb dX5_carryOutBuffer_65 rfl ?_
              refine lv_iinc (v := x2 + 1) (lv' := [(2, .int (x2 + 1)), (1, .int (x1 + 1)), (3, .int 59), (0, .ref (ad 0))]) hx hb dX5_carryOutBuffer_66 hl (k := 3) rfl (by first | rfl | exact congrArg (_ + ·) (by decide)) (by decide) rfl (fun ls hl => ?_)
              refine lv_goto (tgt := 11) hx hb dX5_carryOutBuffer_69 (by decide) ?_
              exact ih11 (j + 1) ((ccF (z) ((Q 1).toNatClampNeg) ((Q 3).toNatClampNeg) (Q 2) (Q 3)).2) ((tk Q 59).2) (x1 + 1) (x2 + 1) (by omega) (by rw [e2]; exact nI_1 j) (by rw [eQ, Qs, ← eQ, ec]) (by rw [← hres, cbL, if_pos ec, ccQ, if_pos c_5]; first | done | (rw [ec]; done) | (rw [ec]; rfl)) _ _ hP hD hS ls (lv_sub hl [3, 1, 0] rfl)
            · skip
              replace c_5 := bI_0.mp c_5
              refine lv_goto (tgt := 72) hx hb dX5_carryOutBuffer_51 (by decide) ?_
              refine lv_iload_n hx hb dX5_carryOutBuffer_72 rfl (lv_at hl 2 rfl) ?_
              exact end_fi hx hb hrt hlk hP hS (by rw [← hres, cbL, if_pos ec, ccQ, if_neg (by rw [c_5]; decide)]) (fun h => by rw [← hres, cbL, if_pos ec, ccQ, if_neg (by rw [c_5]; decide)]; exact h) dX5_carryOutBuffer_73
        · skip
          replace c_3 := nge_l c_3
          have hjL : j < L := by rw [e2, hlen] at c_3; exact (nI_ltI (by omega) (by omega)).mp c_3
          have ec := codeN_1 (b := X 9) e2 hjL
          refine lv_aload_n hx hb dX5_carryOutBuffer_27 rfl (lv_at hl 0 rfl) ?_
          refine lv_iload_n hx hb dX5_carryOutBuffer_28 rfl (lv_at hl 2 rfl) ?_
          refine cs_p (runV (As := [.int x2]) (rest := []) ⟨hx, hb, hml, hown, hts⟩ (m_X5_codeAt l D kA ad (upQ (up2 X 0 z) Q) x2 ) q_211 q_213 qp_1 q_1 q_214 hd_X5_codeAt ⟨rfl, rfl⟩ ⟨Nat.le_of_ble_eq_true rfl, Nat.le_of_ble_eq_true rfl⟩ hK (ws := (cw kA ad (upQ (up2 X 0 z) Q))) hP hD _ (ci := 5) (C := RX5) (T := TX5) (N := 6) rfl (cw_arm (kA := kA) (ad := ad) (X := upQ (up2 X 0 z) Q)) rfl hl.1 rfl (Nat.le_of_ble_eq_true rfl) dX5_carryOutBuffer_29 ⟨Nat.zero_le _, Nat.zero_le _⟩) ?_
          refine W_top (v' := .int (cdF ((X 9)) x2)) rfl ?_
          refine lv_goto (tgt := 37) hx hb dX5_carryOutBuffer_32 (by decide) ?_
          refine lv_istore_n (lv' := [(3, .int (cdF ((X 9)) x2)), (0, .ref (ad 0)), (1, .int x1), (2, .int x2)]) hx hb dX5_carryOutBuffer_37 rfl hl (by decide) rfl (fun ls hl => ?_)
          refine lv_iload_n hx hb dX5_carryOutBuffer_38 rfl (lv_at hl 0 rfl) ?_
          refine lv_bipush (v := 59) hx hb dX5_carryOutBuffer_39 (by decide) ?_
          refine lv_icmp_ne (tgt := 57) hx hb dX5_carryOutBuffer_41 (by decide) (fun c_6 => ?_) (fun c_6 => ?_)
          · skip
            refine lv_aload_n hx hb dX5_carryOutBuffer_57 rfl (lv_at hl 1 rfl) ?_
            refine va_get (ci := 5) (v := .ref (ad 3)) (C := RX5) (T := TX5) (N := 6) hx hb hts inX5 hown hK hP _ (cw_arm (kA := kA) (ad := ad) (X := upQ (up2 X 0 z) Q)) rfl 3 (by decide) (hts _ q_179) (fun _ h9 => h9) rfl dX5_carryOutBuffer_58 ?_
            refine lv_iload_n hx hb dX5_carryOutBuffer_61 rfl (lv_at hl 0 rfl) ?_
            refine cs_fs (runV (As := [.int (cdF ((X 9)) x2)]) (rest := []) ⟨hx, hb, hml, hown, hts⟩ (m_X2_take l D kA (ad 3) Q (cdF ((X 9)) x2) ) q_215 q_216 q_217 q_6 q_218 hd_X2_take ⟨rfl, rfl⟩ ⟨Nat.le_of_ble_eq_true rfl, Nat.le_of_ble_eq_true rfl⟩ hK (ws := [((ad 3), dC Q)]) (P1 hP (cw_read (kA := kA) (ad := ad) (X := upQ (up2 X 0 z) Q))) (D1 hD (cw_read (kA := kA) (ad := ad) (X := upQ (up2 X 0 z) Q))) 0 (ci := 2) (C := RX2) (T := TX2) (N := 4) rfl rfl rfl hl.1 rfl (Nat.le_of_ble_eq_true rfl) dX5_carryOutBuffer_62 ⟨Nat.zero_le _, Nat.zero_le _⟩) hS (cw_sub (fun q hq => by simp only [List.mem_cons, List.not_mem_nil, or_false] at hq; rcases hq with rfl <;> first | exact ⟨3, by omega, rfl⟩)) (fun H locs hP1 hk1 hS => ?_)
            obtain ⟨hP, hD⟩ := jn_Q (Q' := ((tk Q (cdF ((X 9)) x2)).2)) hP hD hk1 hP1
            clear hk1 hP1
            rw [nf_Q] at hP hD
            refine lv_pop hx hb dX5_carryOutBuffer_65 rfl ?_
            refine lv_iinc (v := x2 + 1) (lv' := [(2, .int (x2 + 1)), (3, .int (cdF ((X 9)) x2)), (0, .ref (ad 0)), (1, .int x1)]) hx hb dX5_carryOutBuffer_66 hl (k := 3) rfl (by first | rfl | exact congrArg (_ + ·) (by decide)) (by decide) rfl (fun ls hl => ?_)
            refine lv_goto (tgt := 11) hx hb dX5_carryOutBuffer_69 (by decide) ?_
            exact ih11 (j + 1) z ((tk Q (cdF ((X 9)) x2)).2) x1 (x2 + 1) (by omega) (by rw [e2]; exact nI_1 j) (by rw [eQ, Qs, ← eQ, ec]) (by rw [← hres, cbL, if_neg (fun h => c_6 (ec.symm.trans h))]; first | done | (rw [ec]; done) | (rw [ec]; rfl)) _ _ hP hD hS ls (lv_sub hl [2, 3, 0] rfl)
          · skip
            have hqv : QV Q := by rw [eQ]; exact hval j (by omega) (by first | exact ec | (rw [ec]; exact c_6))
            refine lv_aload_n hx hb dX5_carryOutBuffer_44 rfl (lv_at hl 1 rfl) ?_
            refine cs_fs (runV (As := []) (rest := []) ⟨hx, hb, hml, hown, hts⟩ (m_X5_carryOutCommand l D kA ad (upQ (up2 X 0 z) Q) ((Q 1).toNatClampNeg) ((Q 3).toNatClampNeg) (hqv.1.2) (hqv.1.1) (hqv.2.1) (hqv.2.2)) q_667 q_669 qp_21 q_1 q_670 hd_X5_carryOutCommand ⟨rfl, rfl⟩ ⟨Nat.le_of_ble_eq_true rfl, Nat.le_of_ble_eq_true rfl⟩ hK (ws := (cw kA ad (upQ (up2 X 0 z) Q))) hP hD _ (ci := 5) (C := RX5) (T := TX5) (N := 6) rfl (cw_arm (kA := kA) (ad := ad) (X := upQ (up2 X 0 z) Q)) rfl hl.1 rfl (Nat.le_of_ble_eq_true rfl) dX5_carryOutBuffer_45 ⟨Nat.zero_le _, Nat.zero_le _⟩) hS (fun _ h => cw_Aw h) (fun H locs hP _ hS => ?_)
            have hD := cw_D (X' := up2 (upQ (up2 X 0 z) Q) 0 (ccF (z) ((Q 1).toNatClampNeg) ((Q 3).toNatClampNeg) (Q 2) (Q 3)).2) hD
            have hP : va_P D vwCl (cw kA ad (up2 (upQ (up2 X 0 z) Q) 0 (ccF (z) ((Q 1).toNatClampNeg) ((Q 3).toNatClampNeg) (Q 2) (Q 3)).2)) H := hP
            rw [nf_2Q (by omega)] at hP hD
            rw [nf_2] at hP hD
            refine W_top (v' := .int (bI (ccF (z) ((Q 1).toNatClampNeg) ((Q 3).toNatClampNeg) (Q 2) (Q 3)).1)) rfl ?_
            refine lv_if_ne (tgt := 54) hx hb dX5_carryOutBuffer_48 (by decide) (fun c_7 => ?_) (fun c_7 => ?_)
            · skip
              replace c_7 := bI_n0 c_7
              refine lv_iinc (v := x1 + 1) (lv' := [(1, .int (x1 + 1)), (3, .int (cdF ((X 9)) x2)), (0, .ref (ad 0)), (2, .int x2)]) hx hb dX5_carryOutBuffer_54 hl (k := 2) rfl (by first | rfl | exact congrArg (_ + ·) (by decide)) (by decide) rfl (fun ls hl => ?_)
              refine lv_aload_n hx hb dX5_carryOutBuffer_57 rfl (lv_at hl 2 rfl) ?_
              refine va_get (ci := 5) (v := .ref (ad 3)) (C := RX5) (T := TX5) (N := 6) hx hb hts inX5 hown hK hP _ (cw_arm (kA := kA) (ad := ad) (X := upQ (up2 X 0 (ccF (z) ((Q 1).toNatClampNeg) ((Q 3).toNatClampNeg) (Q 2) (Q 3)).2) Q)) rfl 3 (by decide) (hts _ q_179) (fun _ h9 => h9) rfl dX5_carryOutBuffer_58 ?_
              refine lv_iload_n hx hb dX5_carryOutBuffer_61 rfl (lv_at hl 1 rfl) ?_
              refine cs_fs (runV (As := [.int (cdF ((X 9)) x2)]) (rest := []) ⟨hx, hb, hml, hown, hts⟩ (m_X2_take l D kA (ad 3) Q (cdF ((X 9)) x2) ) q_215 q_216 q_217 q_6 q_218 hd_X2_take ⟨rfl, rfl⟩ ⟨Nat.le_of_ble_eq_true rfl, Nat.le_of_ble_eq_true rfl⟩ hK (ws := [((ad 3), dC Q)]) (P1 hP (cw_read (kA := kA) (ad := ad) (X := upQ (up2 X 0 (ccF (z) ((Q 1).toNatClampNeg) ((Q 3).toNatClampNeg) (Q 2) (Q 3)).2) Q))) (D1 hD (cw_read (kA := kA) (ad := ad) (X := upQ (up2 X 0 (ccF (z) ((Q 1).toNatClampNeg) ((Q 3).toNatClampNeg) (Q 2) (Q 3)).2) Q))) 0 (ci := 2) (C := RX2) (T := TX2) (N := 4) rfl rfl rfl hl.1 rfl (Nat.le_of_ble_eq_true rfl) dX5_carryOutBuffer_62 ⟨Nat.zero_le _, Nat.zero_le _⟩) hS (cw_sub (fun q hq => by simp only [List.mem_cons, List.not_mem_nil, or_false] at hq; rcases hq with rfl <;> first | exact ⟨3, by omega, rfl⟩)) (fun H locs hP1 hk1 hS => ?_)
              obtain ⟨hP, hD⟩ := jn_Q (Q' := ((tk Q (cdF ((X 9)) x2)).2)) hP hD hk1 hP1
              clear hk1 hP1
              rw [nf_Q] at hP hD
              refine lv_pop hx hb dX5_carryOutBuffer_65 rfl ?_
              refine lv_iinc (v := x2 + 1) (lv' := [(2, .int (x2 + 1)), (1, .int (x1 + 1)), (3, .int (cdF ((X 9)) x2)), (0, .ref (ad 0))]) hx hb dX5_carryOutBuffer_66 hl (k := 3) rfl (by first | rfl | exact congrArg (_ + ·) (by decide)) (by decide) rfl (fun ls hl => ?_)
              refine lv_goto (tgt := 11) hx hb dX5_carryOutBuffer_69 (by decide) ?_
              exact ih11 (j + 1) ((ccF (z) ((Q 1).toNatClampNeg) ((Q 3).toNatClampNeg) (Q 2) (Q 3)).2) ((tk Q (cdF ((X 9)) x2)).2) (x1 + 1) (x2 + 1) (by omega) (by rw [e2]; exact nI_1 j) (by rw [eQ, Qs, ← eQ, ec]) (by rw [← hres, cbL, if_pos (ec.trans c_6), ccQ, if_pos c_7]; first | done | (rw [ec]; done) | (rw [ec]; rfl)) _ _ hP hD hS ls (lv_sub hl [3, 1, 0] rfl)
            · skip
              replace c_7 := bI_0.mp c_7
              refine lv_goto (tgt := 72) hx hb dX5_carryOutBuffer_51 (by decide) ?_
              refine lv_iload_n hx hb dX5_carryOutBuffer_72 rfl (lv_at hl 2 rfl) ?_
              exact end_fi hx hb hrt hlk hP hS (by rw [← hres, cbL, if_pos (ec.trans c_6), ccQ, if_neg (by rw [c_7]; decide)]) (fun h => by rw [← hres, cbL, if_pos (ec.trans c_6), ccQ, if_neg (by rw [c_7]; decide)]; exact h) dX5_carryOutBuffer_73
  exact loop_11 (L + 1) 0 (X 0) (bgQ (qz (X 8))) 0 0 (by omega) (nI_0.symm) (rfl) (rfl) _ _ hP hD hS ls (lv_sub hl [2, 1, 0] rfl)

theorem hd_X5_mixedWithFacts : yX5_mixedWithFacts.cls ≠ "java/lang/invoke/MethodHandle" ∧ yX5_mixedWithFacts.cls ≠ "java/lang/invoke/VarHandle" ∧ (parseMethodDescriptor yX5_mixedWithFacts.desc).map (fun d => d.parameters.length) = some 2 := by decide +kernel
set_option maxRecDepth 100000 in
set_option maxHeartbeats 4000000 in
theorem m_X5_mixedWithFacts (l : Launch) (D : va_G) (kA : Nat → Nat) (ad : Nat → Nat) (X : Nat → Nat → Int32) (q0 : Int64) (a : Nat) (ha : a < 4) : Met l yX5_mixedWithFacts (Cond.code yX5_mixedWithFacts cX5_mixedWithFacts 4 (some .long) :: AW) ({ frames := 3, cells := 0, slots := 0, locals := 65 } : Room) (Pz [.long q0, .ref (gA ad 0 a)] D (TY kA) (cw kA ad X)) (pQ (some (.long (mfF (sl (X 0) a) q0)))) 0 0 (fun _ => False) := by
  refine MetZ (by decide +kernel) (Nat.le_of_ble_eq_true rfl) ?_
  intro p e s m below meth c ls hx hb hrt hts hown hml hlk hnm hP hK hD hS hl
  have hl : lv_has ls 4 [(0, .long q0), (2, .ref (gA ad 0 a))] := hl
  refine lv_iconst (v := 0) hx hb dX5_mixedWithFacts_0 (by decide) ?_
  refine lv_istore_n (lv' := [(3, .int 0), (0, .long q0), (2, .ref (gA ad 0 a))]) hx hb dX5_mixedWithFacts_1 rfl hl (by decide) rfl (fun ls hl => ?_)
  have loop_2 : ∀ (n : Nat) (j : Nat) (y0 : Int64) (x3 : Int32) (hj : j + n = 12) (e3 : x3 = nI j) (hres : foldJ (fun j s => mx s (gwr (sl (X 0) a) (nI j)).toInt64) 24 0 (foldJ (fun j s => mx s (propG (sl (X 0) a) (nI j)).toInt64) n j y0) = mfF (sl (X 0) a) q0), ∀ ls : Array Slot, lv_has ls 4 [(0, .long y0), (2, .ref (gA ad 0 a)), (3, .int x3)] → W p l e ({ frames := 3, cells := 0, slots := 0, locals := 65 } : Room) s m [.long q0, .ref (gA ad 0 a)].toArray below meth c s.heap [] 0 0 (MQ below (pQ (some (.long (mfF (sl (X 0) a) q0)))) [.long q0, .ref (gA ad 0 a)].toArray s 0 0 (fun _ => False)) (F0 m 2 ls []) := by
    clear hl
    intro n
    induction n with
    | zero =>
      intro j y0 x3 hj e3 hres  ls hl
      refine lv_iload_n hx hb dX5_mixedWithFacts_2 rfl (lv_at hl 2 rfl) ?_
      refine lv_bipush (v := 12) hx hb dX5_mixedWithFacts_3 (by decide) ?_
      refine lv_icmp_ge (tgt := 25) hx hb dX5_mixedWithFacts_5 (by decide) (fun c_1 => ?_) (fun c_1 => ?_)
      · skip
        replace c_1 := ge_n c_1
        refine lv_iconst (v := 0) hx hb dX5_mixedWithFacts_25 (by decide) ?_
        refine lv_istore_n (lv' := [(3, .int 0), (0, .long y0), (2, .ref (gA ad 0 a))]) hx hb dX5_mixedWithFacts_26 rfl hl (by decide) rfl (fun ls hl => ?_)
        have loop_27 : ∀ (n2 : Nat) (t : Nat) (y0b : Int64) (x3b : Int32) (ht : t + n2 = 24) (e4 : x3b = nI t) (hrs : foldJ (fun j s => mx s (gwr (sl (X 0) a) (nI j)).toInt64) n2 t y0b = mfF (sl (X 0) a) q0), ∀ ls : Array Slot, lv_has ls 4 [(0, .long y0b), (2, .ref (gA ad 0 a)), (3, .int x3b)] → W p l e ({ frames := 3, cells := 0, slots := 0, locals := 65 } : Room) s m [.long q0, .ref (gA ad 0 a)].toArray below meth c s.heap [] 0 0 (MQ below (pQ (some (.long (mfF (sl (X 0) a) q0)))) [.long q0, .ref (gA ad 0 a)].toArray s 0 0 (fun _ => False)) (F0 m 27 ls []) := by
          clear hl
          intro n2
          induction n2 with
          | zero =>
            intro t y0b x3b ht e4 hrs  ls hl
            refine lv_iload_n hx hb dX5_mixedWithFacts_27 rfl (lv_at hl 2 rfl) ?_
            refine lv_bipush (v := 24) hx hb dX5_mixedWithFacts_28 (by decide) ?_
            refine lv_icmp_ge (tgt := 50) hx hb dX5_mixedWithFacts_30 (by decide) (fun c_2 => ?_) (fun c_2 => ?_)
            · skip
              replace c_2 := ge_n c_2
              refine lv_lload_n hx hb dX5_mixedWithFacts_50 rfl (lv_at hl 0 rfl) ?_
              exact end_pl hx hb hrt hlk (hrs) dX5_mixedWithFacts_51
            · exact absurd c_2 (fun h => h (cnt_ge (N := 24) e4 rfl (by omega) (by omega)))
          | succ n2 ih27 =>
            intro t y0b x3b ht e4 hrs  ls hl
            refine lv_iload_n hx hb dX5_mixedWithFacts_27 rfl (lv_at hl 2 rfl) ?_
            refine lv_bipush (v := 24) hx hb dX5_mixedWithFacts_28 (by decide) ?_
            refine lv_icmp_ge (tgt := 50) hx hb dX5_mixedWithFacts_30 (by decide) (fun c_3 => ?_) (fun c_3 => ?_)
            · exact absurd c_3 (cnt_nge (N := 24) e4 rfl (by decide) (by omega))
            · skip
              replace c_3 := nge_l c_3
              refine lv_lload_n hx hb dX5_mixedWithFacts_33 rfl (lv_at hl 0 rfl) ?_
              refine lv_aload_n hx hb dX5_mixedWithFacts_34 rfl (lv_at hl 1 rfl) ?_
              refine lv_iload_n hx hb dX5_mixedWithFacts_35 rfl (lv_at hl 2 rfl) ?_
              refine cs_p (runV (As := [.int x3b]) (rest := [.long y0b]) ⟨hx, hb, hml, hown, hts⟩ (m_X0_wearOf l D kA (gA ad 0 a) (wA ad 0 a) ((sl ((X 0)) a) 0) ((sl ((X 0)) a) 1) ((sl ((X 0)) a) 2) ((sl ((X 0)) a) 3) ((sl ((X 0)) a) 4) ((sl ((X 0)) a) 5) ((sl ((X 0)) a) 6) ((sl ((X 0)) a) 7) ((sl ((X 0)) a) 8) ((sl ((X 0)) a) 9) ((sl ((X 0)) a) 10) (fun t => (sl ((X 0)) a) (t + 11)) x3b ) q_302 q_278 q_279 q_4 q_280 hd_X0_wearOf ⟨rfl, rfl⟩ ⟨Nat.le_of_ble_eq_true rfl, Nat.le_of_ble_eq_true rfl⟩ hK (ws := [((gA ad 0 a), .inr (0, [.ref (wA ad 0 a), .int ((sl ((X 0)) a) 0), .int ((sl ((X 0)) a) 1), .int ((sl ((X 0)) a) 2), .int ((sl ((X 0)) a) 3), .int ((sl ((X 0)) a) 4), .int ((sl ((X 0)) a) 5), .int ((sl ((X 0)) a) 6), .int ((sl ((X 0)) a) 7), .int ((sl ((X 0)) a) 8), .int ((sl ((X 0)) a) 9), .int ((sl ((X 0)) a) 10)])), ((wA ad 0 a), .inl (kA 0, 24, .inl (fun t => (sl ((X 0)) a) (t + 11))))]) (P2 hP (cw_gear (kA := kA) (ad := ad) (X := X) (r := 0) (a := a) (by omega) (by omega)) (cw_wears (kA := kA) (ad := ad) (X := X) (r := 0) (a := a) (by omega) (by omega))) (D2 hD (cw_gear (kA := kA) (ad := ad) (X := X) (r := 0) (a := a) (by omega) (by omega)) (cw_wears (kA := kA) (ad := ad) (X := X) (r := 0) (a := a) (by omega) (by omega)) (by omega)) 0 (ci := 0) (C := RX0) (T := TX0) (N := 12) rfl rfl rfl hl.1 rfl (Nat.le_of_ble_eq_true rfl) dX5_mixedWithFacts_36 ⟨Nat.zero_le _, Nat.zero_le _⟩) ?_
              refine lv_i2l (v := (wrF (fun t => (sl ((X 0)) a) (t + 11)) x3b).toInt64) hx hb dX5_mixedWithFacts_39 rfl ?_
              refine cs_p (runS (As := [.long y0b, .long ((wrF (fun t => (sl ((X 0)) a) (t + 11)) x3b).toInt64)]) (rest := []) ⟨hx, hb, hml, hown, hts⟩ (m_X5_mixed l D kA ad X y0b ((wrF (fun t => (sl ((X 0)) a) (t + 11)) x3b).toInt64) ) q_289 q_290 q_1 q_291 hd_X5_mixed ⟨rfl, rfl⟩ ⟨Nat.le_of_ble_eq_true rfl, Nat.le_of_ble_eq_true rfl⟩ hK (ws := (cw kA ad X)) hP hD rfl hl.1 rfl (Nat.le_of_ble_eq_true rfl) dX5_mixedWithFacts_40 ⟨Nat.zero_le _, Nat.zero_le _⟩) ?_
              refine lv_lstore_n (lv' := [(0, .long (mx y0b ((wrF (fun t => (sl ((X 0)) a) (t + 11)) x3b).toInt64))), (2, .ref (gA ad 0 a)), (3, .int x3b)]) hx hb dX5_mixedWithFacts_43 rfl hl (by decide) rfl (fun ls hl => ?_)
              refine lv_iinc (v := x3b + 1) (lv' := [(3, .int (x3b + 1)), (0, .long (mx y0b ((wrF (fun t => (sl ((X 0)) a) (t + 11)) x3b).toInt64))), (2, .ref (gA ad 0 a))]) hx hb dX5_mixedWithFacts_44 hl (k := 2) rfl (by first | rfl | exact congrArg (_ + ·) (by decide)) (by decide) rfl (fun ls hl => ?_)
              refine lv_goto (tgt := 27) hx hb dX5_mixedWithFacts_47 (by decide) ?_
              exact ih27 (t + 1) (mx y0b ((wrF (fun t => (sl ((X 0)) a) (t + 11)) x3b).toInt64)) (x3b + 1) (by omega) (by rw [e4]; exact nI_1 t) (by rw [← hrs, e4]; rfl) ls (lv_sub hl [1, 2, 0] rfl)
        exact loop_27 24 0 y0 0 (by omega) (nI_0.symm) (by rw [← hres]; rfl) ls (lv_sub hl [1, 2, 0] rfl)
      · exact absurd c_1 (fun h => h (cnt_ge (N := 12) e3 rfl (by omega) (by omega)))
    | succ n ih2 =>
      intro j y0 x3 hj e3 hres  ls hl
      refine lv_iload_n hx hb dX5_mixedWithFacts_2 rfl (lv_at hl 2 rfl) ?_
      refine lv_bipush (v := 12) hx hb dX5_mixedWithFacts_3 (by decide) ?_
      refine lv_icmp_ge (tgt := 25) hx hb dX5_mixedWithFacts_5 (by decide) (fun c_4 => ?_) (fun c_4 => ?_)
      · exact absurd c_4 (cnt_nge (N := 12) e3 rfl (by decide) (by omega))
      · skip
        replace c_4 := nge_l c_4
        refine lv_lload_n hx hb dX5_mixedWithFacts_8 rfl (lv_at hl 0 rfl) ?_
        refine lv_aload_n hx hb dX5_mixedWithFacts_9 rfl (lv_at hl 1 rfl) ?_
        refine lv_iload_n hx hb dX5_mixedWithFacts_10 rfl (lv_at hl 2 rfl) ?_
        refine cs_p (runV (As := [.int x3]) (rest := [.long y0]) ⟨hx, hb, hml, hown, hts⟩ (m_X0_property l D kA (gA ad 0 a) (wA ad 0 a) (sl ((X 0)) a) x3 ) q_301 q_252 q_253 q_4 q_254 hd_X0_property ⟨rfl, rfl⟩ ⟨Nat.le_of_ble_eq_true rfl, Nat.le_of_ble_eq_true rfl⟩ hK (ws := [((gA ad 0 a), gC (wA ad 0 a) (sl ((X 0)) a)), ((wA ad 0 a), wC kA (sl ((X 0)) a))]) (P2 hP (cw_gear (kA := kA) (ad := ad) (X := X) (r := 0) (a := a) (by omega) (by omega)) (cw_wears (kA := kA) (ad := ad) (X := X) (r := 0) (a := a) (by omega) (by omega))) (D2 hD (cw_gear (kA := kA) (ad := ad) (X := X) (r := 0) (a := a) (by omega) (by omega)) (cw_wears (kA := kA) (ad := ad) (X := X) (r := 0) (a := a) (by omega) (by omega)) (by omega)) 0 (ci := 0) (C := RX0) (T := TX0) (N := 12) rfl rfl rfl hl.1 rfl (Nat.le_of_ble_eq_true rfl) dX5_mixedWithFacts_11 ⟨Nat.zero_le _, Nat.zero_le _⟩) ?_
        refine lv_i2l (v := (propG (sl ((X 0)) a) x3).toInt64) hx hb dX5_mixedWithFacts_14 rfl ?_
        refine cs_p (runS (As := [.long y0, .long ((propG (sl ((X 0)) a) x3).toInt64)]) (rest := []) ⟨hx, hb, hml, hown, hts⟩ (m_X5_mixed l D kA ad X y0 ((propG (sl ((X 0)) a) x3).toInt64) ) q_289 q_290 q_1 q_291 hd_X5_mixed ⟨rfl, rfl⟩ ⟨Nat.le_of_ble_eq_true rfl, Nat.le_of_ble_eq_true rfl⟩ hK (ws := (cw kA ad X)) hP hD rfl hl.1 rfl (Nat.le_of_ble_eq_true rfl) dX5_mixedWithFacts_15 ⟨Nat.zero_le _, Nat.zero_le _⟩) ?_
        refine lv_lstore_n (lv' := [(0, .long (mx y0 ((propG (sl ((X 0)) a) x3).toInt64))), (2, .ref (gA ad 0 a)), (3, .int x3)]) hx hb dX5_mixedWithFacts_18 rfl hl (by decide) rfl (fun ls hl => ?_)
        refine lv_iinc (v := x3 + 1) (lv' := [(3, .int (x3 + 1)), (0, .long (mx y0 ((propG (sl ((X 0)) a) x3).toInt64))), (2, .ref (gA ad 0 a))]) hx hb dX5_mixedWithFacts_19 hl (k := 2) rfl (by first | rfl | exact congrArg (_ + ·) (by decide)) (by decide) rfl (fun ls hl => ?_)
        refine lv_goto (tgt := 2) hx hb dX5_mixedWithFacts_22 (by decide) ?_
        exact ih2 (j + 1) (mx y0 ((propG (sl ((X 0)) a) x3).toInt64)) (x3 + 1) (by omega) (by rw [e3]; exact nI_1 j) (by rw [← hres, e3]; rfl) ls (lv_sub hl [1, 2, 0] rfl)
  exact loop_2 12 0 q0 0 (by omega) (nI_0.symm) (rfl) ls (lv_sub hl [1, 2, 0] rfl)

theorem hd_X5_mixedWithForecasts : yX5_mixedWithForecasts.cls ≠ "java/lang/invoke/MethodHandle" ∧ yX5_mixedWithForecasts.cls ≠ "java/lang/invoke/VarHandle" ∧ (parseMethodDescriptor yX5_mixedWithForecasts.desc).map (fun d => d.parameters.length) = some 2 := by decide +kernel
set_option maxRecDepth 100000 in
set_option maxHeartbeats 4000000 in
theorem m_X5_mixedWithForecasts (l : Launch) (D : va_G) (kA : Nat → Nat) (ad : Nat → Nat) (X : Nat → Nat → Int32) (q0 : Int64) (a : Nat) (ha : a < 4) : Met l yX5_mixedWithForecasts (Cond.code yX5_mixedWithForecasts cX5_mixedWithForecasts 5 (some .long) :: AW) ({ frames := 4, cells := 0, slots := 0, locals := 106 } : Room) (Pz [.ref (ad 0), .long q0, .ref (gA ad 0 a)] D (TY kA) (cw kA ad X)) (fQ (some (.long (fcF (X 7) (X 0) a q0))) D (cw kA ad X) (cw kA ad (up2 X 7 (fc4 (X 7) (X 0) a q0).2))) 0 0 (Aw (cw kA ad X)) := by
  refine MetZ (by decide +kernel) (Nat.le_of_ble_eq_true rfl) ?_
  intro p e s m below meth c ls hx hb hrt hts hown hml hlk hnm hP hK hD hS hl
  have hl : lv_has ls 5 [(0, .ref (ad 0)), (1, .long q0), (3, .ref (gA ad 0 a))] := hl
  rw [← up2_self (X := X) (r := 7)] at hP hD
  refine lv_lload_n hx hb dX5_mixedWithForecasts_0 rfl (lv_at hl 1 rfl) ?_
  refine lv_aload_n hx hb dX5_mixedWithForecasts_1 rfl (lv_at hl 2 rfl) ?_
  refine lv_iconst (v := 1) hx hb dX5_mixedWithForecasts_2 (by decide) ?_
  refine lv_aload_n hx hb dX5_mixedWithForecasts_3 rfl (lv_at hl 0 rfl) ?_
  refine va_get (ci := 5) (v := .ref (sA ad 0)) (C := RX5) (T := TX5) (N := 6) hx hb hts inX5 hown hK hP _ (cw_arm (kA := kA) (ad := ad) (X := up2 X 7 (X 7))) rfl 0 (by decide) (hts _ q_176) (fun _ h9 => h9) rfl dX5_mixedWithForecasts_4 ?_
  refine va_get (ci := 4) (v := .ref (rA ad 0)) (C := RX4) (T := TX4) (N := 4) hx hb hts inX4 hown hK hP _ (cw_state (kA := kA) (ad := ad) (X := up2 X 7 (X 7)) (r := 0) (by omega)) rfl 0 (by decide) (hts _ q_117) (fun _ h9 => h9) rfl dX5_mixedWithForecasts_7 ?_
  refine cs_p (runV (As := [.int 1, .ref (rA ad 0)]) (rest := [.long q0]) ⟨hx, hb, hml, hown, hts⟩ (m_X0_tollOfStep l D kA (gA ad 0 a) (wA ad 0 a) (sl ((X 0)) a) (rA ad 0) (X 0) 1 ) q_307 q_308 q_309 q_4 q_310 hd_X0_tollOfStep ⟨rfl, rfl⟩ ⟨Nat.le_of_ble_eq_true rfl, Nat.le_of_ble_eq_true rfl⟩ hK (ws := [((gA ad 0 a), gC (wA ad 0 a) (sl ((X 0)) a)), ((wA ad 0 a), wC kA (sl ((X 0)) a)), ((rA ad 0), rC (X 0))]) (P3 hP (cw_gear (kA := kA) (ad := ad) (X := up2 X 7 (X 7)) (r := 0) (a := a) (by omega) (by omega)) (cw_wears (kA := kA) (ad := ad) (X := up2 X 7 (X 7)) (r := 0) (a := a) (by omega) (by omega)) (cw_rules (kA := kA) (ad := ad) (X := up2 X 7 (X 7)) (r := 0) (by omega))) (D3 hD (cw_gear (kA := kA) (ad := ad) (X := up2 X 7 (X 7)) (r := 0) (a := a) (by omega) (by omega)) (cw_wears (kA := kA) (ad := ad) (X := up2 X 7 (X 7)) (r := 0) (a := a) (by omega) (by omega)) (cw_rules (kA := kA) (ad := ad) (X := up2 X 7 (X 7)) (r := 0) (by omega)) (by omega) (by omega) (by omega)) 0 (ci := 0) (C := RX0) (T := TX0) (N := 12) rfl rfl rfl hl.1 rfl (Nat.le_of_ble_eq_true rfl) dX5_mixedWithForecasts_10 ⟨Nat.zero_le _, Nat.zero_le _⟩) ?_
  refine lv_i2l (v := (tollG (sl ((X 0)) a) (X 0) 1).toInt64) hx hb dX5_mixedWithForecasts_13 rfl ?_
  refine cs_p (runS (As := [.long q0, .long ((tollG (sl ((X 0)) a) (X 0) 1).toInt64)]) (rest := []) ⟨hx, hb, hml, hown, hts⟩ (m_X5_mixed l D kA ad (up2 X 7 (X 7)) q0 ((tollG (sl ((X 0)) a) (X 0) 1).toInt64) ) q_289 q_290 q_1 q_291 hd_X5_mixed ⟨rfl, rfl⟩ ⟨Nat.le_of_ble_eq_true rfl, Nat.le_of_ble_eq_true rfl⟩ hK (ws := (cw kA ad (up2 X 7 (X 7)))) hP hD rfl hl.1 rfl (Nat.le_of_ble_eq_true rfl) dX5_mixedWithForecasts_14 ⟨Nat.zero_le _, Nat.zero_le _⟩) ?_
  refine lv_lstore_n (lv' := [(1, .long (mx q0 ((tollG (sl ((X 0)) a) (X 0) 1).toInt64))), (0, .ref (ad 0)), (3, .ref (gA ad 0 a))]) hx hb dX5_mixedWithForecasts_17 rfl hl (by decide) rfl (fun ls hl => ?_)
  refine lv_lload_n hx hb dX5_mixedWithForecasts_18 rfl (lv_at hl 0 rfl) ?_
  refine lv_aload_n hx hb dX5_mixedWithForecasts_19 rfl (lv_at hl 2 rfl) ?_
  refine lv_iconst (v := (-1)) hx hb dX5_mixedWithForecasts_20 (by decide) ?_
  refine lv_aload_n hx hb dX5_mixedWithForecasts_21 rfl (lv_at hl 1 rfl) ?_
  refine va_get (ci := 5) (v := .ref (sA ad 0)) (C := RX5) (T := TX5) (N := 6) hx hb hts inX5 hown hK hP _ (cw_arm (kA := kA) (ad := ad) (X := up2 X 7 (X 7))) rfl 0 (by decide) (hts _ q_176) (fun _ h9 => h9) rfl dX5_mixedWithForecasts_22 ?_
  refine va_get (ci := 4) (v := .ref (rA ad 0)) (C := RX4) (T := TX4) (N := 4) hx hb hts inX4 hown hK hP _ (cw_state (kA := kA) (ad := ad) (X := up2 X 7 (X 7)) (r := 0) (by omega)) rfl 0 (by decide) (hts _ q_117) (fun _ h9 => h9) rfl dX5_mixedWithForecasts_25 ?_
  refine cs_p (runV (As := [.int (-1), .ref (rA ad 0)]) (rest := [.long (mx q0 ((tollG (sl ((X 0)) a) (X 0) 1).toInt64))]) ⟨hx, hb, hml, hown, hts⟩ (m_X0_tollOfStep l D kA (gA ad 0 a) (wA ad 0 a) (sl ((X 0)) a) (rA ad 0) (X 0) (-1) ) q_307 q_308 q_309 q_4 q_310 hd_X0_tollOfStep ⟨rfl, rfl⟩ ⟨Nat.le_of_ble_eq_true rfl, Nat.le_of_ble_eq_true rfl⟩ hK (ws := [((gA ad 0 a), gC (wA ad 0 a) (sl ((X 0)) a)), ((wA ad 0 a), wC kA (sl ((X 0)) a)), ((rA ad 0), rC (X 0))]) (P3 hP (cw_gear (kA := kA) (ad := ad) (X := up2 X 7 (X 7)) (r := 0) (a := a) (by omega) (by omega)) (cw_wears (kA := kA) (ad := ad) (X := up2 X 7 (X 7)) (r := 0) (a := a) (by omega) (by omega)) (cw_rules (kA := kA) (ad := ad) (X := up2 X 7 (X 7)) (r := 0) (by omega))) (D3 hD (cw_gear (kA := kA) (ad := ad) (X := up2 X 7 (X 7)) (r := 0) (a := a) (by omega) (by omega)) (cw_wears (kA := kA) (ad := ad) (X := up2 X 7 (X 7)) (r := 0) (a := a) (by omega) (by omega)) (cw_rules (kA := kA) (ad := ad) (X := up2 X 7 (X 7)) (r := 0) (by omega)) (by omega) (by omega) (by omega)) 0 (ci := 0) (C := RX0) (T := TX0) (N := 12) rfl rfl rfl hl.1 rfl (Nat.le_of_ble_eq_true rfl) dX5_mixedWithForecasts_28 ⟨Nat.zero_le _, Nat.zero_le _⟩) ?_
  refine lv_i2l (v := (tollG (sl ((X 0)) a) (X 0) (-1)).toInt64) hx hb dX5_mixedWithForecasts_31 rfl ?_
  refine cs_p (runS (As := [.long (mx q0 ((tollG (sl ((X 0)) a) (X 0) 1).toInt64)), .long ((tollG (sl ((X 0)) a) (X 0) (-1)).toInt64)]) (rest := []) ⟨hx, hb, hml, hown, hts⟩ (m_X5_mixed l D kA ad (up2 X 7 (X 7)) (mx q0 ((tollG (sl ((X 0)) a) (X 0) 1).toInt64)) ((tollG (sl ((X 0)) a) (X 0) (-1)).toInt64) ) q_289 q_290 q_1 q_291 hd_X5_mixed ⟨rfl, rfl⟩ ⟨Nat.le_of_ble_eq_true rfl, Nat.le_of_ble_eq_true rfl⟩ hK (ws := (cw kA ad (up2 X 7 (X 7)))) hP hD rfl hl.1 rfl (Nat.le_of_ble_eq_true rfl) dX5_mixedWithForecasts_32 ⟨Nat.zero_le _, Nat.zero_le _⟩) ?_
  refine lv_lstore_n (lv' := [(1, .long (mx (mx q0 ((tollG (sl ((X 0)) a) (X 0) 1).toInt64)) ((tollG (sl ((X 0)) a) (X 0) (-1)).toInt64))), (0, .ref (ad 0)), (3, .ref (gA ad 0 a))]) hx hb dX5_mixedWithForecasts_35 rfl hl (by decide) rfl (fun ls hl => ?_)
  refine lv_lload_n hx hb dX5_mixedWithForecasts_36 rfl (lv_at hl 0 rfl) ?_
  refine lv_aload_n hx hb dX5_mixedWithForecasts_37 rfl (lv_at hl 1 rfl) ?_
  refine lv_aload_n hx hb dX5_mixedWithForecasts_38 rfl (lv_at hl 2 rfl) ?_
  refine lv_iconst (v := 1) hx hb dX5_mixedWithForecasts_39 (by decide) ?_
  refine cs_p (runV (As := [.ref (gA ad 0 a), .int 1]) (rest := [.long (mx (mx q0 ((tollG (sl ((X 0)) a) (X 0) 1).toInt64)) ((tollG (sl ((X 0)) a) (X 0) (-1)).toInt64))]) ⟨hx, hb, hml, hown, hts⟩ (m_X5_turnAndSlip l D kA ad (up2 X 7 (X 7)) a 1 (ha)) q_319 q_321 qp_4 q_1 q_322 hd_X5_turnAndSlip ⟨rfl, rfl⟩ ⟨Nat.le_of_ble_eq_true rfl, Nat.le_of_ble_eq_true rfl⟩ hK (ws := (cw kA ad (up2 X 7 (X 7)))) hP hD _ (ci := 5) (C := RX5) (T := TX5) (N := 6) rfl (cw_arm (kA := kA) (ad := ad) (X := up2 X 7 (X 7))) rfl hl.1 rfl (Nat.le_of_ble_eq_true rfl) dX5_mixedWithForecasts_40 ⟨Nat.zero_le _, Nat.zero_le _⟩) ?_
  refine W_top (v' := .int (tsF ((X 0)) a 1)) rfl ?_
  refine lv_i2l (v := (tsF ((X 0)) a 1).toInt64) hx hb dX5_mixedWithForecasts_43 rfl ?_
  refine cs_p (runS (As := [.long (mx (mx q0 ((tollG (sl ((X 0)) a) (X 0) 1).toInt64)) ((tollG (sl ((X 0)) a) (X 0) (-1)).toInt64)), .long ((tsF ((X 0)) a 1).toInt64)]) (rest := []) ⟨hx, hb, hml, hown, hts⟩ (m_X5_mixed l D kA ad (up2 X 7 (X 7)) (mx (mx q0 ((tollG (sl ((X 0)) a) (X 0) 1).toInt64)) ((tollG (sl ((X 0)) a) (X 0) (-1)).toInt64)) ((tsF ((X 0)) a 1).toInt64) ) q_289 q_290 q_1 q_291 hd_X5_mixed ⟨rfl, rfl⟩ ⟨Nat.le_of_ble_eq_true rfl, Nat.le_of_ble_eq_true rfl⟩ hK (ws := (cw kA ad (up2 X 7 (X 7)))) hP hD rfl hl.1 rfl (Nat.le_of_ble_eq_true rfl) dX5_mixedWithForecasts_44 ⟨Nat.zero_le _, Nat.zero_le _⟩) ?_
  refine lv_lstore_n (lv' := [(1, .long (mx (mx (mx q0 ((tollG (sl ((X 0)) a) (X 0) 1).toInt64)) ((tollG (sl ((X 0)) a) (X 0) (-1)).toInt64)) ((tsF ((X 0)) a 1).toInt64))), (0, .ref (ad 0)), (3, .ref (gA ad 0 a))]) hx hb dX5_mixedWithForecasts_47 rfl hl (by decide) rfl (fun ls hl => ?_)
  refine lv_lload_n hx hb dX5_mixedWithForecasts_48 rfl (lv_at hl 0 rfl) ?_
  refine lv_aload_n hx hb dX5_mixedWithForecasts_49 rfl (lv_at hl 1 rfl) ?_
  refine lv_aload_n hx hb dX5_mixedWithForecasts_50 rfl (lv_at hl 2 rfl) ?_
  refine lv_iconst (v := (-1)) hx hb dX5_mixedWithForecasts_51 (by decide) ?_
  refine cs_p (runV (As := [.ref (gA ad 0 a), .int (-1)]) (rest := [.long (mx (mx (mx q0 ((tollG (sl ((X 0)) a) (X 0) 1).toInt64)) ((tollG (sl ((X 0)) a) (X 0) (-1)).toInt64)) ((tsF ((X 0)) a 1).toInt64))]) ⟨hx, hb, hml, hown, hts⟩ (m_X5_turnAndSlip l D kA ad (up2 X 7 (X 7)) a (-1) (ha)) q_319 q_321 qp_4 q_1 q_322 hd_X5_turnAndSlip ⟨rfl, rfl⟩ ⟨Nat.le_of_ble_eq_true rfl, Nat.le_of_ble_eq_true rfl⟩ hK (ws := (cw kA ad (up2 X 7 (X 7)))) hP hD _ (ci := 5) (C := RX5) (T := TX5) (N := 6) rfl (cw_arm (kA := kA) (ad := ad) (X := up2 X 7 (X 7))) rfl hl.1 rfl (Nat.le_of_ble_eq_true rfl) dX5_mixedWithForecasts_52 ⟨Nat.zero_le _, Nat.zero_le _⟩) ?_
  refine W_top (v' := .int (tsF ((X 0)) a (-1))) rfl ?_
  refine lv_i2l (v := (tsF ((X 0)) a (-1)).toInt64) hx hb dX5_mixedWithForecasts_55 rfl ?_
  refine cs_p (runS (As := [.long (mx (mx (mx q0 ((tollG (sl ((X 0)) a) (X 0) 1).toInt64)) ((tollG (sl ((X 0)) a) (X 0) (-1)).toInt64)) ((tsF ((X 0)) a 1).toInt64)), .long ((tsF ((X 0)) a (-1)).toInt64)]) (rest := []) ⟨hx, hb, hml, hown, hts⟩ (m_X5_mixed l D kA ad (up2 X 7 (X 7)) (mx (mx (mx q0 ((tollG (sl ((X 0)) a) (X 0) 1).toInt64)) ((tollG (sl ((X 0)) a) (X 0) (-1)).toInt64)) ((tsF ((X 0)) a 1).toInt64)) ((tsF ((X 0)) a (-1)).toInt64) ) q_289 q_290 q_1 q_291 hd_X5_mixed ⟨rfl, rfl⟩ ⟨Nat.le_of_ble_eq_true rfl, Nat.le_of_ble_eq_true rfl⟩ hK (ws := (cw kA ad (up2 X 7 (X 7)))) hP hD rfl hl.1 rfl (Nat.le_of_ble_eq_true rfl) dX5_mixedWithForecasts_56 ⟨Nat.zero_le _, Nat.zero_le _⟩) ?_
  refine lv_lstore_n (lv' := [(1, .long (mx (mx (mx (mx q0 ((tollG (sl ((X 0)) a) (X 0) 1).toInt64)) ((tollG (sl ((X 0)) a) (X 0) (-1)).toInt64)) ((tsF ((X 0)) a 1).toInt64)) ((tsF ((X 0)) a (-1)).toInt64))), (0, .ref (ad 0)), (3, .ref (gA ad 0 a))]) hx hb dX5_mixedWithForecasts_59 rfl hl (by decide) rfl (fun ls hl => ?_)
  refine lv_lload_n hx hb dX5_mixedWithForecasts_60 rfl (lv_at hl 0 rfl) ?_
  refine lv_aload_n hx hb dX5_mixedWithForecasts_61 rfl (lv_at hl 2 rfl) ?_
  refine lv_bipush (v := 12) hx hb dX5_mixedWithForecasts_62 (by decide) ?_
  refine lv_iconst (v := 1) hx hb dX5_mixedWithForecasts_64 (by decide) ?_
  refine lv_iconst (v := (-1)) hx hb dX5_mixedWithForecasts_65 (by decide) ?_
  refine lv_aload_n hx hb dX5_mixedWithForecasts_66 rfl (lv_at hl 1 rfl) ?_
  refine va_get (ci := 5) (v := .ref (sA ad 0)) (C := RX5) (T := TX5) (N := 6) hx hb hts inX5 hown hK hP _ (cw_arm (kA := kA) (ad := ad) (X := up2 X 7 (X 7))) rfl 0 (by decide) (hts _ q_176) (fun _ h9 => h9) rfl dX5_mixedWithForecasts_67 ?_
  refine va_get (ci := 4) (v := .ref (rA ad 0)) (C := RX4) (T := TX4) (N := 4) hx hb hts inX4 hown hK hP _ (cw_state (kA := kA) (ad := ad) (X := up2 X 7 (X 7)) (r := 0) (by omega)) rfl 0 (by decide) (hts _ q_117) (fun _ h9 => h9) rfl dX5_mixedWithForecasts_70 ?_
  refine cs_p (runV (As := [.int 12, .int 1, .int (-1), .ref (rA ad 0)]) (rest := [.long (mx (mx (mx (mx q0 ((tollG (sl ((X 0)) a) (X 0) 1).toInt64)) ((tollG (sl ((X 0)) a) (X 0) (-1)).toInt64)) ((tsF ((X 0)) a 1).toInt64)) ((tsF ((X 0)) a (-1)).toInt64))]) ⟨hx, hb, hml, hown, hts⟩ (m_X0_costOfWay l D kA (gA ad 0 a) (wA ad 0 a) (sl ((X 0)) a) (rA ad 0) (X 0) 12 1 (-1) ) q_328 q_329 q_330 q_4 q_331 hd_X0_costOfWay ⟨rfl, rfl⟩ ⟨Nat.le_of_ble_eq_true rfl, Nat.le_of_ble_eq_true rfl⟩ hK (ws := [((gA ad 0 a), gC (wA ad 0 a) (sl ((X 0)) a)), ((wA ad 0 a), wC kA (sl ((X 0)) a)), ((rA ad 0), rC (X 0))]) (P3 hP (cw_gear (kA := kA) (ad := ad) (X := up2 X 7 (X 7)) (r := 0) (a := a) (by omega) (by omega)) (cw_wears (kA := kA) (ad := ad) (X := up2 X 7 (X 7)) (r := 0) (a := a) (by omega) (by omega)) (cw_rules (kA := kA) (ad := ad) (X := up2 X 7 (X 7)) (r := 0) (by omega))) (D3 hD (cw_gear (kA := kA) (ad := ad) (X := up2 X 7 (X 7)) (r := 0) (a := a) (by omega) (by omega)) (cw_wears (kA := kA) (ad := ad) (X := up2 X 7 (X 7)) (r := 0) (a := a) (by omega) (by omega)) (cw_rules (kA := kA) (ad := ad) (X := up2 X 7 (X 7)) (r := 0) (by omega)) (by omega) (by omega) (by omega)) 0 (ci := 0) (C := RX0) (T := TX0) (N := 12) rfl rfl rfl hl.1 rfl (Nat.le_of_ble_eq_true rfl) dX5_mixedWithForecasts_73 ⟨Nat.zero_le _, Nat.zero_le _⟩) ?_
  refine lv_i2l (v := (costG (sl ((X 0)) a) (X 0) 12 1 (-1)).toInt64) hx hb dX5_mixedWithForecasts_76 rfl ?_
  refine cs_p (runS (As := [.long (mx (mx (mx (mx q0 ((tollG (sl ((X 0)) a) (X 0) 1).toInt64)) ((tollG (sl ((X 0)) a) (X 0) (-1)).toInt64)) ((tsF ((X 0)) a 1).toInt64)) ((tsF ((X 0)) a (-1)).toInt64)), .long ((costG (sl ((X 0)) a) (X 0) 12 1 (-1)).toInt64)]) (rest := []) ⟨hx, hb, hml, hown, hts⟩ (m_X5_mixed l D kA ad (up2 X 7 (X 7)) (mx (mx (mx (mx q0 ((tollG (sl ((X 0)) a) (X 0) 1).toInt64)) ((tollG (sl ((X 0)) a) (X 0) (-1)).toInt64)) ((tsF ((X 0)) a 1).toInt64)) ((tsF ((X 0)) a (-1)).toInt64)) ((costG (sl ((X 0)) a) (X 0) 12 1 (-1)).toInt64) ) q_289 q_290 q_1 q_291 hd_X5_mixed ⟨rfl, rfl⟩ ⟨Nat.le_of_ble_eq_true rfl, Nat.le_of_ble_eq_true rfl⟩ hK (ws := (cw kA ad (up2 X 7 (X 7)))) hP hD rfl hl.1 rfl (Nat.le_of_ble_eq_true rfl) dX5_mixedWithForecasts_77 ⟨Nat.zero_le _, Nat.zero_le _⟩) ?_
  refine lv_lstore_n (lv' := [(1, .long (mx (mx (mx (mx (mx q0 ((tollG (sl ((X 0)) a) (X 0) 1).toInt64)) ((tollG (sl ((X 0)) a) (X 0) (-1)).toInt64)) ((tsF ((X 0)) a 1).toInt64)) ((tsF ((X 0)) a (-1)).toInt64)) ((costG (sl ((X 0)) a) (X 0) 12 1 (-1)).toInt64))), (0, .ref (ad 0)), (3, .ref (gA ad 0 a))]) hx hb dX5_mixedWithForecasts_80 rfl hl (by decide) rfl (fun ls hl => ?_)
  refine lv_lload_n hx hb dX5_mixedWithForecasts_81 rfl (lv_at hl 0 rfl) ?_
  refine lv_aload_n hx hb dX5_mixedWithForecasts_82 rfl (lv_at hl 2 rfl) ?_
  refine lv_bipush (v := 12) hx hb dX5_mixedWithForecasts_83 (by decide) ?_
  refine lv_iconst (v := (-1)) hx hb dX5_mixedWithForecasts_85 (by decide) ?_
  refine lv_iconst (v := (-1)) hx hb dX5_mixedWithForecasts_86 (by decide) ?_
  refine lv_aload_n hx hb dX5_mixedWithForecasts_87 rfl (lv_at hl 1 rfl) ?_
  refine va_get (ci := 5) (v := .ref (sA ad 0)) (C := RX5) (T := TX5) (N := 6) hx hb hts inX5 hown hK hP _ (cw_arm (kA := kA) (ad := ad) (X := up2 X 7 (X 7))) rfl 0 (by decide) (hts _ q_176) (fun _ h9 => h9) rfl dX5_mixedWithForecasts_88 ?_
  refine va_get (ci := 4) (v := .ref (rA ad 0)) (C := RX4) (T := TX4) (N := 4) hx hb hts inX4 hown hK hP _ (cw_state (kA := kA) (ad := ad) (X := up2 X 7 (X 7)) (r := 0) (by omega)) rfl 0 (by decide) (hts _ q_117) (fun _ h9 => h9) rfl dX5_mixedWithForecasts_91 ?_
  refine cs_p (runV (As := [.int 12, .int (-1), .int (-1), .ref (rA ad 0)]) (rest := [.long (mx (mx (mx (mx (mx q0 ((tollG (sl ((X 0)) a) (X 0) 1).toInt64)) ((tollG (sl ((X 0)) a) (X 0) (-1)).toInt64)) ((tsF ((X 0)) a 1).toInt64)) ((tsF ((X 0)) a (-1)).toInt64)) ((costG (sl ((X 0)) a) (X 0) 12 1 (-1)).toInt64))]) ⟨hx, hb, hml, hown, hts⟩ (m_X0_costOfWay l D kA (gA ad 0 a) (wA ad 0 a) (sl ((X 0)) a) (rA ad 0) (X 0) 12 (-1) (-1) ) q_328 q_329 q_330 q_4 q_331 hd_X0_costOfWay ⟨rfl, rfl⟩ ⟨Nat.le_of_ble_eq_true rfl, Nat.le_of_ble_eq_true rfl⟩ hK (ws := [((gA ad 0 a), gC (wA ad 0 a) (sl ((X 0)) a)), ((wA ad 0 a), wC kA (sl ((X 0)) a)), ((rA ad 0), rC (X 0))]) (P3 hP (cw_gear (kA := kA) (ad := ad) (X := up2 X 7 (X 7)) (r := 0) (a := a) (by omega) (by omega)) (cw_wears (kA := kA) (ad := ad) (X := up2 X 7 (X 7)) (r := 0) (a := a) (by omega) (by omega)) (cw_rules (kA := kA) (ad := ad) (X := up2 X 7 (X 7)) (r := 0) (by omega))) (D3 hD (cw_gear (kA := kA) (ad := ad) (X := up2 X 7 (X 7)) (r := 0) (a := a) (by omega) (by omega)) (cw_wears (kA := kA) (ad := ad) (X := up2 X 7 (X 7)) (r := 0) (a := a) (by omega) (by omega)) (cw_rules (kA := kA) (ad := ad) (X := up2 X 7 (X 7)) (r := 0) (by omega)) (by omega) (by omega) (by omega)) 0 (ci := 0) (C := RX0) (T := TX0) (N := 12) rfl rfl rfl hl.1 rfl (Nat.le_of_ble_eq_true rfl) dX5_mixedWithForecasts_94 ⟨Nat.zero_le _, Nat.zero_le _⟩) ?_
  refine lv_i2l (v := (costG (sl ((X 0)) a) (X 0) 12 (-1) (-1)).toInt64) hx hb dX5_mixedWithForecasts_97 rfl ?_
  refine cs_p (runS (As := [.long (mx (mx (mx (mx (mx q0 ((tollG (sl ((X 0)) a) (X 0) 1).toInt64)) ((tollG (sl ((X 0)) a) (X 0) (-1)).toInt64)) ((tsF ((X 0)) a 1).toInt64)) ((tsF ((X 0)) a (-1)).toInt64)) ((costG (sl ((X 0)) a) (X 0) 12 1 (-1)).toInt64)), .long ((costG (sl ((X 0)) a) (X 0) 12 (-1) (-1)).toInt64)]) (rest := []) ⟨hx, hb, hml, hown, hts⟩ (m_X5_mixed l D kA ad (up2 X 7 (X 7)) (mx (mx (mx (mx (mx q0 ((tollG (sl ((X 0)) a) (X 0) 1).toInt64)) ((tollG (sl ((X 0)) a) (X 0) (-1)).toInt64)) ((tsF ((X 0)) a 1).toInt64)) ((tsF ((X 0)) a (-1)).toInt64)) ((costG (sl ((X 0)) a) (X 0) 12 1 (-1)).toInt64)) ((costG (sl ((X 0)) a) (X 0) 12 (-1) (-1)).toInt64) ) q_289 q_290 q_1 q_291 hd_X5_mixed ⟨rfl, rfl⟩ ⟨Nat.le_of_ble_eq_true rfl, Nat.le_of_ble_eq_true rfl⟩ hK (ws := (cw kA ad (up2 X 7 (X 7)))) hP hD rfl hl.1 rfl (Nat.le_of_ble_eq_true rfl) dX5_mixedWithForecasts_98 ⟨Nat.zero_le _, Nat.zero_le _⟩) ?_
  refine lv_lstore_n (lv' := [(1, .long (mx (mx (mx (mx (mx (mx q0 ((tollG (sl ((X 0)) a) (X 0) 1).toInt64)) ((tollG (sl ((X 0)) a) (X 0) (-1)).toInt64)) ((tsF ((X 0)) a 1).toInt64)) ((tsF ((X 0)) a (-1)).toInt64)) ((costG (sl ((X 0)) a) (X 0) 12 1 (-1)).toInt64)) ((costG (sl ((X 0)) a) (X 0) 12 (-1) (-1)).toInt64))), (0, .ref (ad 0)), (3, .ref (gA ad 0 a))]) hx hb dX5_mixedWithForecasts_101 rfl hl (by decide) rfl (fun ls hl => ?_)
  refine lv_iconst (v := 0) hx hb dX5_mixedWithForecasts_102 (by decide) ?_
  refine lv_istore (lv' := [(4, .int 0), (1, .long (mx (mx (mx (mx (mx (mx q0 ((tollG (sl ((X 0)) a) (X 0) 1).toInt64)) ((tollG (sl ((X 0)) a) (X 0) (-1)).toInt64)) ((tsF ((X 0)) a 1).toInt64)) ((tsF ((X 0)) a (-1)).toInt64)) ((costG (sl ((X 0)) a) (X 0) 12 1 (-1)).toInt64)) ((costG (sl ((X 0)) a) (X 0) 12 (-1) (-1)).toInt64))), (0, .ref (ad 0)), (3, .ref (gA ad 0 a))]) hx hb dX5_mixedWithForecasts_103 hl (by decide) rfl (fun ls hl => ?_)
  have loop_105 : ∀ (n : Nat) (j : Nat) (T : Nat → Int32) (y1 : Int64) (x4 : Int32) (hj : j + n = 3) (e4 : x4 = nI j) (hres : hfL (X 0) a n j T y1 = fc2 (X 7) (X 0) a q0), ∀ (H : Heap) (locs : List Loc), va_P D vwCl (cw kA ad (up2 X 7 T)) H → va_D (Aw (cw kA ad X)) (cw kA ad (up2 X 7 T)) → va_S (Aw (cw kA ad X)) s.heap H locs → ∀ ls : Array Slot, lv_has ls 5 [(0, .ref (ad 0)), (1, .long y1), (3, .ref (gA ad 0 a)), (4, .int x4)] → W p l e ({ frames := 4, cells := 0, slots := 0, locals := 106 } : Room) s m [.ref (ad 0), .long q0, .ref (gA ad 0 a)].toArray below meth c H locs 0 0 (MQ below (fQ (some (.long (fcF (X 7) (X 0) a q0))) D (cw kA ad X) (cw kA ad (up2 X 7 (fc4 (X 7) (X 0) a q0).2))) [.ref (ad 0), .long q0, .ref (gA ad 0 a)].toArray s 0 0 (Aw (cw kA ad X))) (F0 m 105 ls []) := by
    clear hl
    clear hP hD hS
    intro n
    induction n with
    | zero =>
      intro j T y1 x4 hj e4 hres H locs hP hD hS ls hl
      refine lv_iload hx hb dX5_mixedWithForecasts_105 (lv_at hl 3 rfl) ?_
      refine lv_iconst (v := 3) hx hb dX5_mixedWithForecasts_107 (by decide) ?_
      refine lv_icmp_ge (tgt := 130) hx hb dX5_mixedWithForecasts_108 (by decide) (fun c_1 => ?_) (fun c_1 => ?_)
      · skip
        replace c_1 := ge_n c_1
        refine lv_lload_n hx hb dX5_mixedWithForecasts_130 rfl (lv_at hl 1 rfl) ?_
        refine lv_aload_n hx hb dX5_mixedWithForecasts_131 rfl (lv_at hl 0 rfl) ?_
        refine lv_aload_n hx hb dX5_mixedWithForecasts_132 rfl (lv_at hl 2 rfl) ?_
        refine lv_iconst (v := 1) hx hb dX5_mixedWithForecasts_133 (by decide) ?_
        refine cs_fs (runV (As := [.ref (gA ad 0 a), .int 1]) (rest := [.long y1]) ⟨hx, hb, hml, hown, hts⟩ (m_X5_reachOf l D kA ad (up2 X 7 T) a 1 (ha)) q_362 q_364 qp_6 q_1 q_365 hd_X5_reachOf ⟨rfl, rfl⟩ ⟨Nat.le_of_ble_eq_true rfl, Nat.le_of_ble_eq_true rfl⟩ hK (ws := (cw kA ad (up2 X 7 T))) hP hD _ (ci := 5) (C := RX5) (T := TX5) (N := 6) rfl (cw_arm (kA := kA) (ad := ad) (X := up2 X 7 T)) rfl hl.1 rfl (Nat.le_of_ble_eq_true rfl) dX5_mixedWithForecasts_134 ⟨Nat.zero_le _, Nat.zero_le _⟩) hS (fun _ h => cw_Aw h) (fun H locs hP _ hS => ?_)
        have hD := cw_D (X' := up2 (up2 X 7 T) 7 (reF (T) ((X 0)) a 1).2) hD
        have hP : va_P D vwCl (cw kA ad (up2 (up2 X 7 T) 7 (reF (T) ((X 0)) a 1).2)) H := hP
        rw [nf_2] at hP hD
        refine W_top (v' := .int ((reF (T) ((X 0)) a 1).1)) rfl ?_
        refine lv_i2l (v := ((reF (T) ((X 0)) a 1).1).toInt64) hx hb dX5_mixedWithForecasts_137 rfl ?_
        refine cs_p (runS (As := [.long y1, .long (((reF (T) ((X 0)) a 1).1).toInt64)]) (rest := []) ⟨hx, hb, hml, hown, hts⟩ (m_X5_mixed l D kA ad (up2 X 7 (reF (T) ((X 0)) a 1).2) y1 (((reF (T) ((X 0)) a 1).1).toInt64) ) q_289 q_290 q_1 q_291 hd_X5_mixed ⟨rfl, rfl⟩ ⟨Nat.le_of_ble_eq_true rfl, Nat.le_of_ble_eq_true rfl⟩ hK (ws := (cw kA ad (up2 X 7 (reF (T) ((X 0)) a 1).2))) hP hD rfl hl.1 rfl (Nat.le_of_ble_eq_true rfl) dX5_mixedWithForecasts_138 ⟨Nat.zero_le _, Nat.zero_le _⟩) ?_
        refine lv_lstore_n (lv' := [(1, .long (mx y1 (((reF (T) ((X 0)) a 1).1).toInt64))), (0, .ref (ad 0)), (3, .ref (gA ad 0 a)), (4, .int x4)]) hx hb dX5_mixedWithForecasts_141 rfl hl (by decide) rfl (fun ls hl => ?_)
        refine lv_lload_n hx hb dX5_mixedWithForecasts_142 rfl (lv_at hl 0 rfl) ?_
        refine lv_aload_n hx hb dX5_mixedWithForecasts_143 rfl (lv_at hl 1 rfl) ?_
        refine lv_aload_n hx hb dX5_mixedWithForecasts_144 rfl (lv_at hl 2 rfl) ?_
        refine lv_iconst (v := (-1)) hx hb dX5_mixedWithForecasts_145 (by decide) ?_
        refine cs_fs (runV (As := [.ref (gA ad 0 a), .int (-1)]) (rest := [.long (mx y1 (((reF (T) ((X 0)) a 1).1).toInt64))]) ⟨hx, hb, hml, hown, hts⟩ (m_X5_reachOf l D kA ad (up2 X 7 (reF (T) ((X 0)) a 1).2) a (-1) (ha)) q_362 q_364 qp_6 q_1 q_365 hd_X5_reachOf ⟨rfl, rfl⟩ ⟨Nat.le_of_ble_eq_true rfl, Nat.le_of_ble_eq_true rfl⟩ hK (ws := (cw kA ad (up2 X 7 (reF (T) ((X 0)) a 1).2))) hP hD _ (ci := 5) (C := RX5) (T := TX5) (N := 6) rfl (cw_arm (kA := kA) (ad := ad) (X := up2 X 7 (reF (T) ((X 0)) a 1).2)) rfl hl.1 rfl (Nat.le_of_ble_eq_true rfl) dX5_mixedWithForecasts_146 ⟨Nat.zero_le _, Nat.zero_le _⟩) hS (fun _ h => cw_Aw h) (fun H locs hP _ hS => ?_)
        have hD := cw_D (X' := up2 (up2 X 7 (reF (T) ((X 0)) a 1).2) 7 (reF ((reF (T) ((X 0)) a 1).2) ((X 0)) a (-1)).2) hD
        have hP : va_P D vwCl (cw kA ad (up2 (up2 X 7 (reF (T) ((X 0)) a 1).2) 7 (reF ((reF (T) ((X 0)) a 1).2) ((X 0)) a (-1)).2)) H := hP
        rw [nf_2] at hP hD
        refine W_top (v' := .int ((reF ((reF (T) ((X 0)) a 1).2) ((X 0)) a (-1)).1)) rfl ?_
        refine lv_i2l (v := ((reF ((reF (T) ((X 0)) a 1).2) ((X 0)) a (-1)).1).toInt64) hx hb dX5_mixedWithForecasts_149 rfl ?_
        refine cs_p (runS (As := [.long (mx y1 (((reF (T) ((X 0)) a 1).1).toInt64)), .long (((reF ((reF (T) ((X 0)) a 1).2) ((X 0)) a (-1)).1).toInt64)]) (rest := []) ⟨hx, hb, hml, hown, hts⟩ (m_X5_mixed l D kA ad (up2 X 7 (reF ((reF (T) ((X 0)) a 1).2) ((X 0)) a (-1)).2) (mx y1 (((reF (T) ((X 0)) a 1).1).toInt64)) (((reF ((reF (T) ((X 0)) a 1).2) ((X 0)) a (-1)).1).toInt64) ) q_289 q_290 q_1 q_291 hd_X5_mixed ⟨rfl, rfl⟩ ⟨Nat.le_of_ble_eq_true rfl, Nat.le_of_ble_eq_true rfl⟩ hK (ws := (cw kA ad (up2 X 7 (reF ((reF (T) ((X 0)) a 1).2) ((X 0)) a (-1)).2))) hP hD rfl hl.1 rfl (Nat.le_of_ble_eq_true rfl) dX5_mixedWithForecasts_150 ⟨Nat.zero_le _, Nat.zero_le _⟩) ?_
        refine lv_lstore_n (lv' := [(1, .long (mx (mx y1 (((reF (T) ((X 0)) a 1).1).toInt64)) (((reF ((reF (T) ((X 0)) a 1).2) ((X 0)) a (-1)).1).toInt64))), (0, .ref (ad 0)), (3, .ref (gA ad 0 a)), (4, .int x4)]) hx hb dX5_mixedWithForecasts_153 rfl hl (by decide) rfl (fun ls hl => ?_)
        refine lv_lload_n hx hb dX5_mixedWithForecasts_154 rfl (lv_at hl 0 rfl) ?_
        refine lv_aload_n hx hb dX5_mixedWithForecasts_155 rfl (lv_at hl 2 rfl) ?_
        refine cs_p (runV (As := []) (rest := [.long (mx (mx y1 (((reF (T) ((X 0)) a 1).1).toInt64)) (((reF ((reF (T) ((X 0)) a 1).2) ((X 0)) a (-1)).1).toInt64))]) ⟨hx, hb, hml, hown, hts⟩ (m_X0_possiblePlaces l D kA (gA ad 0 a) (wA ad 0 a) (sl ((X 0)) a) ) q_367 q_368 q_369 q_4 q_370 hd_X0_possiblePlaces ⟨rfl, rfl⟩ ⟨Nat.le_of_ble_eq_true rfl, Nat.le_of_ble_eq_true rfl⟩ hK (ws := [((gA ad 0 a), gC (wA ad 0 a) (sl ((X 0)) a)), ((wA ad 0 a), wC kA (sl ((X 0)) a))]) (P2 hP (cw_gear (kA := kA) (ad := ad) (X := up2 X 7 (reF ((reF (T) ((X 0)) a 1).2) ((X 0)) a (-1)).2) (r := 0) (a := a) (by omega) (by omega)) (cw_wears (kA := kA) (ad := ad) (X := up2 X 7 (reF ((reF (T) ((X 0)) a 1).2) ((X 0)) a (-1)).2) (r := 0) (a := a) (by omega) (by omega))) (D2 hD (cw_gear (kA := kA) (ad := ad) (X := up2 X 7 (reF ((reF (T) ((X 0)) a 1).2) ((X 0)) a (-1)).2) (r := 0) (a := a) (by omega) (by omega)) (cw_wears (kA := kA) (ad := ad) (X := up2 X 7 (reF ((reF (T) ((X 0)) a 1).2) ((X 0)) a (-1)).2) (r := 0) (a := a) (by omega) (by omega)) (by omega)) 0 (ci := 0) (C := RX0) (T := TX0) (N := 12) rfl rfl rfl hl.1 rfl (Nat.le_of_ble_eq_true rfl) dX5_mixedWithForecasts_156 ⟨Nat.zero_le _, Nat.zero_le _⟩) ?_
        refine lv_i2l (v := (possG (sl ((X 0)) a)).toInt64) hx hb dX5_mixedWithForecasts_159 rfl ?_
        refine cs_p (runS (As := [.long (mx (mx y1 (((reF (T) ((X 0)) a 1).1).toInt64)) (((reF ((reF (T) ((X 0)) a 1).2) ((X 0)) a (-1)).1).toInt64)), .long ((possG (sl ((X 0)) a)).toInt64)]) (rest := []) ⟨hx, hb, hml, hown, hts⟩ (m_X5_mixed l D kA ad (up2 X 7 (reF ((reF (T) ((X 0)) a 1).2) ((X 0)) a (-1)).2) (mx (mx y1 (((reF (T) ((X 0)) a 1).1).toInt64)) (((reF ((reF (T) ((X 0)) a 1).2) ((X 0)) a (-1)).1).toInt64)) ((possG (sl ((X 0)) a)).toInt64) ) q_289 q_290 q_1 q_291 hd_X5_mixed ⟨rfl, rfl⟩ ⟨Nat.le_of_ble_eq_true rfl, Nat.le_of_ble_eq_true rfl⟩ hK (ws := (cw kA ad (up2 X 7 (reF ((reF (T) ((X 0)) a 1).2) ((X 0)) a (-1)).2))) hP hD rfl hl.1 rfl (Nat.le_of_ble_eq_true rfl) dX5_mixedWithForecasts_160 ⟨Nat.zero_le _, Nat.zero_le _⟩) ?_
        refine lv_lstore_n (lv' := [(1, .long (mx (mx (mx y1 (((reF (T) ((X 0)) a 1).1).toInt64)) (((reF ((reF (T) ((X 0)) a 1).2) ((X 0)) a (-1)).1).toInt64)) ((possG (sl ((X 0)) a)).toInt64))), (0, .ref (ad 0)), (3, .ref (gA ad 0 a)), (4, .int x4)]) hx hb dX5_mixedWithForecasts_163 rfl hl (by decide) rfl (fun ls hl => ?_)
        refine lv_lload_n hx hb dX5_mixedWithForecasts_164 rfl (lv_at hl 0 rfl) ?_
        refine lv_aload_n hx hb dX5_mixedWithForecasts_165 rfl (lv_at hl 1 rfl) ?_
        refine lv_aload_n hx hb dX5_mixedWithForecasts_166 rfl (lv_at hl 2 rfl) ?_
        refine lv_bipush (v := 12) hx hb dX5_mixedWithForecasts_167 (by decide) ?_
        refine cs_p (runV (As := [.ref (gA ad 0 a), .int 12]) (rest := [.long (mx (mx (mx y1 (((reF (T) ((X 0)) a 1).1).toInt64)) (((reF ((reF (T) ((X 0)) a 1).2) ((X 0)) a (-1)).1).toInt64)) ((possG (sl ((X 0)) a)).toInt64))]) ⟨hx, hb, hml, hown, hts⟩ (m_X5_worstTooth l D kA ad (up2 X 7 (reF ((reF (T) ((X 0)) a 1).2) ((X 0)) a (-1)).2) a 12 (ha)) q_371 q_373 qp_7 q_1 q_374 hd_X5_worstTooth ⟨rfl, rfl⟩ ⟨Nat.le_of_ble_eq_true rfl, Nat.le_of_ble_eq_true rfl⟩ hK (ws := (cw kA ad (up2 X 7 (reF ((reF (T) ((X 0)) a 1).2) ((X 0)) a (-1)).2))) hP hD _ (ci := 5) (C := RX5) (T := TX5) (N := 6) rfl (cw_arm (kA := kA) (ad := ad) (X := up2 X 7 (reF ((reF (T) ((X 0)) a 1).2) ((X 0)) a (-1)).2)) rfl hl.1 rfl (Nat.le_of_ble_eq_true rfl) dX5_mixedWithForecasts_169 ⟨Nat.zero_le _, Nat.zero_le _⟩) ?_
        refine W_top (v' := .int (woF ((X 0)) a 12)) rfl ?_
        refine lv_i2l (v := (woF ((X 0)) a 12).toInt64) hx hb dX5_mixedWithForecasts_172 rfl ?_
        refine cs_p (runS (As := [.long (mx (mx (mx y1 (((reF (T) ((X 0)) a 1).1).toInt64)) (((reF ((reF (T) ((X 0)) a 1).2) ((X 0)) a (-1)).1).toInt64)) ((possG (sl ((X 0)) a)).toInt64)), .long ((woF ((X 0)) a 12).toInt64)]) (rest := []) ⟨hx, hb, hml, hown, hts⟩ (m_X5_mixed l D kA ad (up2 X 7 (reF ((reF (T) ((X 0)) a 1).2) ((X 0)) a (-1)).2) (mx (mx (mx y1 (((reF (T) ((X 0)) a 1).1).toInt64)) (((reF ((reF (T) ((X 0)) a 1).2) ((X 0)) a (-1)).1).toInt64)) ((possG (sl ((X 0)) a)).toInt64)) ((woF ((X 0)) a 12).toInt64) ) q_289 q_290 q_1 q_291 hd_X5_mixed ⟨rfl, rfl⟩ ⟨Nat.le_of_ble_eq_true rfl, Nat.le_of_ble_eq_true rfl⟩ hK (ws := (cw kA ad (up2 X 7 (reF ((reF (T) ((X 0)) a 1).2) ((X 0)) a (-1)).2))) hP hD rfl hl.1 rfl (Nat.le_of_ble_eq_true rfl) dX5_mixedWithForecasts_173 ⟨Nat.zero_le _, Nat.zero_le _⟩) ?_
        exact end_fl hx hb hrt hlk hP hS (by rw [fcF, fc4, fc3, ← hres]; rfl) (fun h => by rw [fc4, fc3, ← hres]; exact h) dX5_mixedWithForecasts_176
      · exact absurd c_1 (fun h => h (cnt_ge (N := 3) e4 rfl (by omega) (by omega)))
    | succ n ih105 =>
      intro j T y1 x4 hj e4 hres H locs hP hD hS ls hl
      refine lv_iload hx hb dX5_mixedWithForecasts_105 (lv_at hl 3 rfl) ?_
      refine lv_iconst (v := 3) hx hb dX5_mixedWithForecasts_107 (by decide) ?_
      refine lv_icmp_ge (tgt := 130) hx hb dX5_mixedWithForecasts_108 (by decide) (fun c_2 => ?_) (fun c_2 => ?_)
      · exact absurd c_2 (cnt_nge (N := 3) e4 rfl (by decide) (by omega))
      · skip
        replace c_2 := nge_l c_2
        refine lv_lload_n hx hb dX5_mixedWithForecasts_111 rfl (lv_at hl 1 rfl) ?_
        refine lv_aload_n hx hb dX5_mixedWithForecasts_112 rfl (lv_at hl 0 rfl) ?_
        refine lv_aload_n hx hb dX5_mixedWithForecasts_113 rfl (lv_at hl 2 rfl) ?_
        refine lv_iload hx hb dX5_mixedWithForecasts_114 (lv_at hl 3 rfl) ?_
        refine cs_fs (runV (As := [.ref (gA ad 0 a), .int x4]) (rest := [.long y1]) ⟨hx, hb, hml, hown, hts⟩ (m_X5_homingFact l D kA ad (up2 X 7 T) a x4 (ha)) q_335 q_337 qp_5 q_1 q_338 hd_X5_homingFact ⟨rfl, rfl⟩ ⟨Nat.le_of_ble_eq_true rfl, Nat.le_of_ble_eq_true rfl⟩ hK (ws := (cw kA ad (up2 X 7 T))) hP hD _ (ci := 5) (C := RX5) (T := TX5) (N := 6) rfl (cw_arm (kA := kA) (ad := ad) (X := up2 X 7 T)) rfl hl.1 rfl (Nat.le_of_ble_eq_true rfl) dX5_mixedWithForecasts_116 ⟨Nat.zero_le _, Nat.zero_le _⟩) hS (fun _ h => cw_Aw h) (fun H locs hP _ hS => ?_)
        have hD := cw_D (X' := up2 (up2 X 7 T) 7 (hfT (T) ((X 0)) a)) hD
        have hP : va_P D vwCl (cw kA ad (up2 (up2 X 7 T) 7 (hfT (T) ((X 0)) a))) H := hP
        rw [nf_2] at hP hD
        refine W_top (v' := .int (hfF (T) ((X 0)) a x4)) rfl ?_
        refine lv_i2l (v := (hfF (T) ((X 0)) a x4).toInt64) hx hb dX5_mixedWithForecasts_119 rfl ?_
        refine cs_p (runS (As := [.long y1, .long ((hfF (T) ((X 0)) a x4).toInt64)]) (rest := []) ⟨hx, hb, hml, hown, hts⟩ (m_X5_mixed l D kA ad (up2 X 7 (hfT (T) ((X 0)) a)) y1 ((hfF (T) ((X 0)) a x4).toInt64) ) q_289 q_290 q_1 q_291 hd_X5_mixed ⟨rfl, rfl⟩ ⟨Nat.le_of_ble_eq_true rfl, Nat.le_of_ble_eq_true rfl⟩ hK (ws := (cw kA ad (up2 X 7 (hfT (T) ((X 0)) a)))) hP hD rfl hl.1 rfl (Nat.le_of_ble_eq_true rfl) dX5_mixedWithForecasts_120 ⟨Nat.zero_le _, Nat.zero_le _⟩) ?_
        refine lv_lstore_n (lv' := [(1, .long (mx y1 ((hfF (T) ((X 0)) a x4).toInt64))), (0, .ref (ad 0)), (3, .ref (gA ad 0 a)), (4, .int x4)]) hx hb dX5_mixedWithForecasts_123 rfl hl (by decide) rfl (fun ls hl => ?_)
        refine lv_iinc (v := x4 + 1) (lv' := [(4, .int (x4 + 1)), (1, .long (mx y1 ((hfF (T) ((X 0)) a x4).toInt64))), (0, .ref (ad 0)), (3, .ref (gA ad 0 a))]) hx hb dX5_mixedWithForecasts_124 hl (k := 3) rfl (by first | rfl | exact congrArg (_ + ·) (by decide)) (by decide) rfl (fun ls hl => ?_)
        refine lv_goto (tgt := 105) hx hb dX5_mixedWithForecasts_127 (by decide) ?_
        exact ih105 (j + 1) (hfT (T) ((X 0)) a) (mx y1 ((hfF (T) ((X 0)) a x4).toInt64)) (x4 + 1) (by omega) (by rw [e4]; exact nI_1 j) (by rw [← hres, e4]; rfl) _ _ hP hD hS ls (lv_sub hl [2, 1, 3, 0] rfl)
  exact loop_105 3 0 (X 7) (fc1 (X 0) a q0) 0 (by omega) (nI_0.symm) (rfl) _ _ hP hD hS ls (lv_sub hl [2, 1, 3, 0] rfl)
