theorem hd_L_cost : yL_cost.cls ≠ "java/lang/invoke/MethodHandle" ∧ yL_cost.cls ≠ "java/lang/invoke/VarHandle" ∧ (parseMethodDescriptor yL_cost.desc).map (fun d => d.parameters.length) = some 10 := by decide +kernel
set_option maxRecDepth 100000 in
set_option maxHeartbeats 4000000 in
theorem m_L_cost (l : Launch) (D : va_G) (kA : Nat → Nat) (al : Nat → Nat) (z : Nat → Int32) (k : Int32) (a : Nat) (p1 : Int32) (tg : Nat) (up : Bool) (hI : Inv z) (ha : a < 4) (hp : p1 = nI tg) (htg : tg < 24) : Met l yL_cost (Cond.code yL_cost cL_cost 14 (some .int) :: AW) ({ frames := 1, cells := 0, slots := 0, locals := 24 } : Room) (Pz [.ref (al 0), .ref (al 2), .ref (al 3), .ref (al 6), .ref (al 8), .ref (al 9), .int (nI a), .int p1, .int (wI up), .int (-1)] D (TY kA) (lqW kA al z k)) (pQ (some (.int (costG (sl z a) z p1 (wI up) (-1))))) 0 0 (fun _ => False) := by
  refine MetZ (by decide +kernel) (Nat.le_of_ble_eq_true rfl) ?_
  intro p e s m below meth c ls hx hb hrt hts hown hml hlk hnm hP hK hD hS hl
  have hl : lv_has ls 14 [(0, .ref (al 0)), (1, .ref (al 2)), (2, .ref (al 3)), (3, .ref (al 6)), (4, .ref (al 8)), (5, .ref (al 9)), (6, .int (nI a)), (7, .int p1), (8, .int (wI up)), (9, .int (-1))] := hl
  refine lv_iconst (v := 0) hx hb dL_cost_0 (by decide) ?_
  refine lv_istore (lv' := [(10, .int 0), (0, .ref (al 0)), (1, .ref (al 2)), (2, .ref (al 3)), (3, .ref (al 6)), (4, .ref (al 8)), (5, .ref (al 9)), (6, .int (nI a)), (7, .int p1), (8, .int (wI up)), (9, .int (-1))]) hx hb dL_cost_1 hl (by decide) rfl (fun ls hl => ?_)
  refine lv_iconst (v := 0) hx hb dL_cost_3 (by decide) ?_
  refine lv_istore (lv' := [(11, .int 0), (10, .int 0), (0, .ref (al 0)), (1, .ref (al 2)), (2, .ref (al 3)), (3, .ref (al 6)), (4, .ref (al 8)), (5, .ref (al 9)), (6, .int (nI a)), (7, .int p1), (8, .int (wI up)), (9, .int (-1))]) hx hb dL_cost_4 hl (by decide) rfl (fun ls hl => ?_)
  refine lv_aload_n hx hb dL_cost_6 rfl (lv_at hl 3 rfl) ?_
  refine lv_iload hx hb dL_cost_7 (lv_at hl 8 rfl) ?_
  refine va_iald (f := lqG z 1) hx hb hK hP 2 0 lw_2 rfl (in_nI rfl (by omega) (by decide)) dL_cost_9 ?_
  refine W_top (v' := .int (sl z a 1)) (congrArg Value.int (vG (by omega))) ?_
  refine lv_istore (lv' := [(12, .int (sl z a 1)), (11, .int 0), (10, .int 0), (0, .ref (al 0)), (1, .ref (al 2)), (2, .ref (al 3)), (3, .ref (al 6)), (4, .ref (al 8)), (5, .ref (al 9)), (6, .int (nI a)), (7, .int p1), (8, .int (wI up)), (9, .int (-1))]) hx hb dL_cost_10 hl (by decide) rfl (fun ls hl => ?_)
  have loop_12 : ∀ (n : Nat) (cq : Nat) (kf : Nat) (j : Nat) (x10 : Int32) (x11 : Int32) (x12 : Int32) (e4 : x12 = nI cq) (hc : cq < 24) (ej : x11 = nI j) (hjk : j + kf = 24) (hd : dN cq tg up = n) (hk : n < kf) (hres : coL (sl z a) z p1 (wI up) (-1) kf x12 x11 x10 = costG (sl z a) z p1 (wI up) (-1)), ∀ ls : Array Slot, lv_has ls 14 [(0, .ref (al 0)), (1, .ref (al 2)), (2, .ref (al 3)), (3, .ref (al 6)), (4, .ref (al 8)), (5, .ref (al 9)), (6, .int (nI a)), (7, .int p1), (8, .int (wI up)), (9, .int (-1)), (10, .int x10), (11, .int x11), (12, .int x12)] → W p l e ({ frames := 1, cells := 0, slots := 0, locals := 24 } : Room) s m [.ref (al 0), .ref (al 2), .ref (al 3), .ref (al 6), .ref (al 8), .ref (al 9), .int (nI a), .int p1, .int (wI up), .int (-1)].toArray below meth c s.heap [] 0 0 (MQ below (pQ (some (.int (costG (sl z a) z p1 (wI up) (-1))))) [.ref (al 0), .ref (al 2), .ref (al 3), .ref (al 6), .ref (al 8), .ref (al 9), .int (nI a), .int p1, .int (wI up), .int (-1)].toArray s 0 0 (fun _ => False)) (F0 m 12 ls []) := by
    clear hl
    intro n
    induction n with
    | zero =>
      intro cq kf j x10 x11 x12 e4 hc ej hjk hd hk hres  ls hl
      refine lv_iload hx hb dL_cost_12 (lv_at hl 12 rfl) ?_
      refine lv_iload hx hb dL_cost_14 (lv_at hl 7 rfl) ?_
      refine lv_icmp_eq (tgt := 92) hx hb dL_cost_16 (by decide) (fun c_1 => ?_) (fun c_1 => ?_)
      · skip
        refine lv_iload hx hb dL_cost_92 (lv_at hl 10 rfl) ?_
        exact end_pi hx hb hrt hlk (by rw [← hres]; exact (co_e (by omega) c_1).symm) dL_cost_94
      · exact absurd c_1 (fun hh => hh (dN_z e4 hp hc htg hd))
    | succ n ih12 =>
      intro cq kf j x10 x11 x12 e4 hc ej hjk hd hk hres  ls hl
      refine lv_iload hx hb dL_cost_12 (lv_at hl 12 rfl) ?_
      refine lv_iload hx hb dL_cost_14 (lv_at hl 7 rfl) ?_
      refine lv_icmp_eq (tgt := 92) hx hb dL_cost_16 (by decide) (fun c_2 => ?_) (fun c_2 => ?_)
      · exact absurd c_2 (dN_ne e4 hp hc htg hd)
      · skip
        refine lv_iload hx hb dL_cost_19 (lv_at hl 12 rfl) ?_
        refine lv_iload hx hb dL_cost_21 (lv_at hl 8 rfl) ?_
        refine cs_p (runS (As := [.int x12, .int (wI up)]) (rest := []) ⟨hx, hb, hml, hown, hts⟩ (m_L_tooth l D kA x12 cq up (e4) (hc)) q_199 q_200 q_0 q_201 hd_L_tooth ⟨rfl, rfl⟩ ⟨Nat.le_of_ble_eq_true rfl, Nat.le_of_ble_eq_true rfl⟩ hK (ws := []) (fun _ _ h => by simp at h) (D0 (A := fun _ => True)) rfl hl.1 rfl (Nat.le_of_ble_eq_true rfl) dL_cost_23 ⟨Nat.zero_le _, Nat.zero_le _⟩) ?_
        obtain ⟨t, ht, et⟩ := tW_in e4 hc up
        refine W_top (v' := .int (nI t)) (congrArg Value.int (et)) ?_
        refine lv_istore (lv' := [(13, .int (nI t)), (0, .ref (al 0)), (1, .ref (al 2)), (2, .ref (al 3)), (3, .ref (al 6)), (4, .ref (al 8)), (5, .ref (al 9)), (6, .int (nI a)), (7, .int p1), (8, .int (wI up)), (9, .int (-1)), (10, .int x10), (11, .int x11), (12, .int x12)]) hx hb dL_cost_26 hl (by decide) rfl (fun ls hl => ?_)
        refine lv_iload hx hb dL_cost_28 (lv_at hl 11 rfl) ?_
        refine lv_aload_n hx hb dL_cost_30 rfl (lv_at hl 1 rfl) ?_
        refine lv_aload_n hx hb dL_cost_31 rfl (lv_at hl 3 rfl) ?_
        refine lv_iload hx hb dL_cost_32 (lv_at hl 7 rfl) ?_
        refine va_iald (f := lqG z 2) hx hb hK hP 3 0 lw_3 rfl (in_nI rfl (by omega) (by decide)) dL_cost_34 ?_
        refine W_top (v' := .int (sl z a 2)) (congrArg Value.int (vG (by omega))) ?_
        refine lv_iload hx hb dL_cost_35 (lv_at hl 0 rfl) ?_
        refine lv_iload hx hb dL_cost_37 (lv_at hl 10 rfl) ?_
        refine lv_icmp_ne (tgt := 46) hx hb dL_cost_39 (by decide) (fun c_3 => ?_) (fun c_3 => ?_)
        · skip
          refine lv_aload hx hb dL_cost_46 (lv_at hl 5 rfl) ?_
          refine lv_aload hx hb dL_cost_48 (lv_at hl 6 rfl) ?_
          refine lv_iload hx hb dL_cost_50 (lv_at hl 7 rfl) ?_
          refine lv_iload hx hb dL_cost_52 (lv_at hl 0 rfl) ?_
          refine cs_p (runS (As := [.ref (al 8), .ref (al 9), .int (nI a), .int (nI t)]) (rest := [.int (sl z a 2), .ref (al 0), .int x10]) ⟨hx, hb, hml, hown, hts⟩ (m_L_wear l D kA al z k a t (ha) (ht)) q_202 q_203 q_0 q_204 hd_L_wear ⟨rfl, rfl⟩ ⟨Nat.le_of_ble_eq_true rfl, Nat.le_of_ble_eq_true rfl⟩ hK (ws := (lqW kA al z k)) hP hD rfl hl.1 rfl (Nat.le_of_ble_eq_true rfl) dL_cost_54 ⟨Nat.zero_le _, Nat.zero_le _⟩) ?_
          refine lv_aload_n hx hb dL_cost_57 rfl (lv_at hl 4 rfl) ?_
          refine lv_iload hx hb dL_cost_58 (lv_at hl 7 rfl) ?_
          refine va_iald (f := lqG z 5) hx hb hK hP 6 0 lw_6 rfl (in_nI rfl (by omega) (by decide)) dL_cost_60 ?_
          refine W_top (v' := .int (sl z a 5)) (congrArg Value.int (vG (by omega))) ?_
          refine lv_iload hx hb dL_cost_61 (lv_at hl 12 rfl) ?_
          have jn_63_3 : ∀ v : Int32, v = (if x11 < (sl z a 5) then 1 else 0) → W p l e ({ frames := 1, cells := 0, slots := 0, locals := 24 } : Room) s m [.ref (al 0), .ref (al 2), .ref (al 3), .ref (al 6), .ref (al 8), .ref (al 9), .int (nI a), .int p1, .int (wI up), .int (-1)].toArray below meth c s.heap [] 0 0 (MQ below (pQ (some (.int (costG (sl z a) z p1 (wI up) (-1))))) [.ref (al 0), .ref (al 2), .ref (al 3), .ref (al 6), .ref (al 8), .ref (al 9), .int (nI a), .int p1, .int (wI up), .int (-1)].toArray s 0 0 (fun _ => False)) (F0 m 71 ls (.int v :: [.int (gwr (sl z a) (nI t)), .int (sl z a 2), .ref (al 0), .int x10])) := by
            intro v ev
            obtain rfl := ev.trans (gs_if ej (by omega) (hI.2 a ha).2.2.2.2.2.1)
            refine cs_p (runS (As := [.ref (al 0), .int (sl z a 2), .int (gwr (sl z a) (nI t)), .int (bI (decide (0 < (sl z a 5 - x11))))]) (rest := [.int x10]) ⟨hx, hb, hml, hown, hts⟩ (m_L_toll l D kA al z k (sl z a 2) (gwr (sl z a) (nI t)) (sl z a 5 - x11) (hI) ((hI.2 a ha).2.2.1) (gwr_bd (hI.2 a ha) rfl ht)) q_205 q_206 q_0 q_207 hd_L_toll ⟨rfl, rfl⟩ ⟨Nat.le_of_ble_eq_true rfl, Nat.le_of_ble_eq_true rfl⟩ hK (ws := (lqW kA al z k)) hP hD rfl hl.1 rfl (Nat.le_of_ble_eq_true rfl) dL_cost_71 ⟨Nat.zero_le _, Nat.zero_le _⟩) ?_
            refine lv_iadd hx hb dL_cost_74 ?_
            refine lv_istore (lv' := [(10, .int (x10 + (tlF (sl z a 2) (gwr (sl z a) (nI t)) (sl z a 5 - x11) (z 1)))), (13, .int (nI t)), (0, .ref (al 0)), (1, .ref (al 2)), (2, .ref (al 3)), (3, .ref (al 6)), (4, .ref (al 8)), (5, .ref (al 9)), (6, .int (nI a)), (7, .int p1), (8, .int (wI up)), (9, .int (-1)), (11, .int x11), (12, .int x12)]) hx hb dL_cost_75 hl (by decide) rfl (fun ls hl => ?_)
            refine lv_iinc (v := x11 + 1) (lv' := [(11, .int (x11 + 1)), (10, .int (x10 + (tlF (sl z a 2) (gwr (sl z a) (nI t)) (sl z a 5 - x11) (z 1)))), (13, .int (nI t)), (0, .ref (al 0)), (1, .ref (al 2)), (2, .ref (al 3)), (3, .ref (al 6)), (4, .ref (al 8)), (5, .ref (al 9)), (6, .int (nI a)), (7, .int p1), (8, .int (wI up)), (9, .int (-1)), (12, .int x12)]) hx hb dL_cost_77 hl (k := 12) rfl (by first | rfl | exact congrArg (_ + ·) (by decide)) (by decide) rfl (fun ls hl => ?_)
            refine lv_iload hx hb dL_cost_80 (lv_at hl 13 rfl) ?_
            refine lv_iload hx hb dL_cost_82 (lv_at hl 11 rfl) ?_
            refine cs_p (runS (As := [.int x12, .int (wI up)]) (rest := []) ⟨hx, hb, hml, hown, hts⟩ (m_L_go l D kA x12 cq up (e4) (hc)) q_211 q_212 q_0 q_213 hd_L_go ⟨rfl, rfl⟩ ⟨Nat.le_of_ble_eq_true rfl, Nat.le_of_ble_eq_true rfl⟩ hK (ws := []) (fun _ _ h => by simp at h) (D0 (A := fun _ => True)) rfl hl.1 rfl (Nat.le_of_ble_eq_true rfl) dL_cost_84 ⟨Nat.zero_le _, Nat.zero_le _⟩) ?_
            refine lv_istore (lv' := [(12, .int (nW x12 (wI up))), (11, .int (x11 + 1)), (10, .int (x10 + (tlF (sl z a 2) (gwr (sl z a) (nI t)) (sl z a 5 - x11) (z 1)))), (13, .int (nI t)), (0, .ref (al 0)), (1, .ref (al 2)), (2, .ref (al 3)), (3, .ref (al 6)), (4, .ref (al 8)), (5, .ref (al 9)), (6, .int (nI a)), (7, .int p1), (8, .int (wI up)), (9, .int (-1))]) hx hb dL_cost_87 hl (by decide) rfl (fun ls hl => ?_)
            refine lv_goto (tgt := 12) hx hb dL_cost_89 (by decide) ?_
            exact ih12 (cN cq up) (kf - 1) (j + 1) (x10 + (tlF (sl z a 2) (gwr (sl z a) (nI t)) (sl z a 5 - x11) (z 1))) (x11 + 1) (nW x12 (wI up)) (nW_c e4 hc up) (cN_lt) (by rw [ej]; exact nI_1 j) (by omega) (dN_s hc htg hd) (by omega) (by have h9 := co_s (by omega) (dN_ne e4 hp hc htg hd) hres; rw [et, if_neg (nI_m1 ht)] at h9; exact h9) ls (lv_sub hl [4, 5, 6, 7, 8, 9, 10, 11, 12, 13, 2, 1, 0] rfl)
          refine lv_icmp_le (tgt := 70) hx hb dL_cost_63 (by decide) (fun c_5 => ?_) (fun c_5 => ?_)
          · skip
            replace c_5 := ge_n c_5
            refine lv_iconst (v := 0) hx hb dL_cost_70 (by decide) ?_
            exact jn_63_3 _ (by rw [if_neg c_5])
          · skip
            replace c_5 := nge_l c_5
            refine lv_iconst (v := 1) hx hb dL_cost_66 (by decide) ?_
            refine lv_goto (tgt := 71) hx hb dL_cost_67 (by decide) ?_
            exact jn_63_3 _ (by rw [if_pos c_5])
        · exact absurd c_3 (nI_m1 ht)
  exact loop_12 (dN (sl z a 1).toNatClampNeg tg up) ((sl z a 1).toNatClampNeg) 24 0 0 0 (sl z a 1) ((hI.p1 ha).1) ((hI.p1 ha).2) (nI_0.symm) (by omega) (rfl) (dN_lt) (rfl) ls (lv_sub hl [3, 4, 5, 6, 7, 8, 9, 10, 11, 12, 2, 1, 0] rfl)

theorem hd_L_agree : yL_agree.cls ≠ "java/lang/invoke/MethodHandle" ∧ yL_agree.cls ≠ "java/lang/invoke/VarHandle" ∧ (parseMethodDescriptor yL_agree.desc).map (fun d => d.parameters.length) = some 11 := by decide +kernel
set_option maxRecDepth 100000 in
set_option maxHeartbeats 4000000 in
theorem m_L_agree (l : Launch) (D : va_G) (kA : Nat → Nat) (al : Nat → Nat) (ad : Nat → Nat) (X : Nat → Nat → Int32) (hI : Inv (X 0)) : Met l yL_agree (Cond.code yL_agree cL_agree 21 (some .boolean) :: AW) ({ frames := 6, cells := 0, slots := 0, locals := 131 } : Room) (Pz [.ref (ad 0), .ref (al 0), .ref (al 1), .ref (al 2), .ref (al 3), .ref (al 4), .ref (al 5), .ref (al 6), .ref (al 7), .ref (al 8), .ref (al 9)] D (TY kA) (lqW kA al (X 0) (X 8 1) ++ cw kA ad X)) (pQ (some (.int 1))) 0 0 (fun _ => False) := by
  refine MetZ (by decide +kernel) (Nat.le_of_ble_eq_true rfl) ?_
  intro p e s m below meth c ls hx hb hrt hts hown hml hlk hnm hP hK hD hS hl
  have hl : lv_has ls 21 [(0, .ref (ad 0)), (1, .ref (al 0)), (2, .ref (al 1)), (3, .ref (al 2)), (4, .ref (al 3)), (5, .ref (al 4)), (6, .ref (al 5)), (7, .ref (al 6)), (8, .ref (al 7)), (9, .ref (al 8)), (10, .ref (al 9))] := hl
  refine lv_iconst (v := 0) hx hb dL_agree_0 (by decide) ?_
  refine lv_istore (lv' := [(11, .int 0), (0, .ref (ad 0)), (1, .ref (al 0)), (2, .ref (al 1)), (3, .ref (al 2)), (4, .ref (al 3)), (5, .ref (al 4)), (6, .ref (al 5)), (7, .ref (al 6)), (8, .ref (al 7)), (9, .ref (al 8)), (10, .ref (al 9))]) hx hb dL_agree_1 hl (by decide) rfl (fun ls hl => ?_)
  refine lv_iconst (v := 0) hx hb dL_agree_3 (by decide) ?_
  refine lv_istore (lv' := [(12, .int 0), (11, .int 0), (0, .ref (ad 0)), (1, .ref (al 0)), (2, .ref (al 1)), (3, .ref (al 2)), (4, .ref (al 3)), (5, .ref (al 4)), (6, .ref (al 5)), (7, .ref (al 6)), (8, .ref (al 7)), (9, .ref (al 8)), (10, .ref (al 9))]) hx hb dL_agree_4 hl (by decide) rfl (fun ls hl => ?_)
  refine lv_iconst (v := 0) hx hb dL_agree_6 (by decide) ?_
  refine lv_istore (lv' := [(13, .int 0), (12, .int 0), (11, .int 0), (0, .ref (ad 0)), (1, .ref (al 0)), (2, .ref (al 1)), (3, .ref (al 2)), (4, .ref (al 3)), (5, .ref (al 4)), (6, .ref (al 5)), (7, .ref (al 6)), (8, .ref (al 7)), (9, .ref (al 8)), (10, .ref (al 9))]) hx hb dL_agree_7 hl (by decide) rfl (fun ls hl => ?_)
  refine lv_iconst (v := 0) hx hb dL_agree_9 (by decide) ?_
  refine lv_istore (lv' := [(14, .int 0), (13, .int 0), (12, .int 0), (11, .int 0), (0, .ref (ad 0)), (1, .ref (al 0)), (2, .ref (al 1)), (3, .ref (al 2)), (4, .ref (al 3)), (5, .ref (al 4)), (6, .ref (al 5)), (7, .ref (al 6)), (8, .ref (al 7)), (9, .ref (al 8)), (10, .ref (al 9))]) hx hb dL_agree_10 hl (by decide) rfl (fun ls hl => ?_)
  refine lv_iconst (v := 0) hx hb dL_agree_12 (by decide) ?_
  refine lv_istore (lv' := [(15, .int 0), (14, .int 0), (13, .int 0), (12, .int 0), (11, .int 0), (0, .ref (ad 0)), (1, .ref (al 0)), (2, .ref (al 1)), (3, .ref (al 2)), (4, .ref (al 3)), (5, .ref (al 4)), (6, .ref (al 5)), (7, .ref (al 6)), (8, .ref (al 7)), (9, .ref (al 8)), (10, .ref (al 9))]) hx hb dL_agree_13 hl (by decide) rfl (fun ls hl => ?_)
  refine lv_iconst (v := 0) hx hb dL_agree_15 (by decide) ?_
  refine lv_istore (lv' := [(16, .int 0), (15, .int 0), (14, .int 0), (13, .int 0), (12, .int 0), (11, .int 0), (0, .ref (ad 0)), (1, .ref (al 0)), (2, .ref (al 1)), (3, .ref (al 2)), (4, .ref (al 3)), (5, .ref (al 4)), (6, .ref (al 5)), (7, .ref (al 6)), (8, .ref (al 7)), (9, .ref (al 8)), (10, .ref (al 9))]) hx hb dL_agree_16 hl (by decide) rfl (fun ls hl => ?_)
  refine lv_iconst (v := 0) hx hb dL_agree_18 (by decide) ?_
  refine lv_istore (lv' := [(17, .int 0), (16, .int 0), (15, .int 0), (14, .int 0), (13, .int 0), (12, .int 0), (11, .int 0), (0, .ref (ad 0)), (1, .ref (al 0)), (2, .ref (al 1)), (3, .ref (al 2)), (4, .ref (al 3)), (5, .ref (al 4)), (6, .ref (al 5)), (7, .ref (al 6)), (8, .ref (al 7)), (9, .ref (al 8)), (10, .ref (al 9))]) hx hb dL_agree_19 hl (by decide) rfl (fun ls hl => ?_)
  have loop_21 : ∀ (n : Nat) (j : Nat) (x11 : Int32) (x12 : Int32) (x13 : Int32) (x14 : Int32) (x15 : Int32) (x16 : Int32) (hj : j + n = 4) (h11 : foldL (fun a s => foldL (fun t s => s + gwr (sl (X 0) a) (nI t)) 24 0 s) n j x11 = wearX (X 0)) (h12 : foldL (fun a s => foldL (fun t s => if gwr (sl (X 0) a) (nI t) < X 0 2 then s else s + 1) 24 0 s) n j x12 = wornX (X 0) (X 0 2)) (h13 : foldL (fun a s => if sl (X 0) a 0 = sl (X 0) a 1 then s + 1 else s) n j x13 = belX (X 0)) (h14 : foldL (fun a s => s + propG (sl (X 0) a) 6) n j x14 = sumX (X 0) 6) (h15 : foldL (fun a s => s + propG (sl (X 0) a) 8) n j x15 = sumX (X 0) 8) (h16 : foldL (fun a s => s + propG (sl (X 0) a) 7) n j x16 = sumX (X 0) 7), ∀ ls : Array Slot, lv_has ls 21 [(0, .ref (ad 0)), (1, .ref (al 0)), (2, .ref (al 1)), (3, .ref (al 2)), (4, .ref (al 3)), (5, .ref (al 4)), (6, .ref (al 5)), (7, .ref (al 6)), (8, .ref (al 7)), (9, .ref (al 8)), (10, .ref (al 9)), (11, .int x11), (12, .int x12), (13, .int x13), (14, .int x14), (15, .int x15), (16, .int x16), (17, .int (nI j))] → W p l e ({ frames := 6, cells := 0, slots := 0, locals := 131 } : Room) s m [.ref (ad 0), .ref (al 0), .ref (al 1), .ref (al 2), .ref (al 3), .ref (al 4), .ref (al 5), .ref (al 6), .ref (al 7), .ref (al 8), .ref (al 9)].toArray below meth c s.heap [] 0 0 (MQ below (pQ (some (.int 1))) [.ref (ad 0), .ref (al 0), .ref (al 1), .ref (al 2), .ref (al 3), .ref (al 4), .ref (al 5), .ref (al 6), .ref (al 7), .ref (al 8), .ref (al 9)].toArray s 0 0 (fun _ => False)) (F0 m 21 ls []) := by
    clear hl
    intro n
    induction n with
    | zero =>
      intro j x11 x12 x13 x14 x15 x16 hj h11 h12 h13 h14 h15 h16  ls hl
      refine lv_iload hx hb dL_agree_21 (lv_at hl 17 rfl) ?_
      refine lv_iconst (v := 4) hx hb dL_agree_23 (by decide) ?_
      refine lv_icmp_ge (tgt := 384) hx hb dL_agree_24 (by decide) (fun c_1 => ?_) (fun c_1 => ?_)
      · skip
        replace c_1 := ge_n c_1
        refine lv_aload_n hx hb dL_agree_384 rfl (lv_at hl 0 rfl) ?_
        refine lv_iconst (v := 0) hx hb dL_agree_385 (by decide) ?_
        refine cs_p (runV (As := [.int 0]) (rest := []) ⟨hx, hb, hml, hown, hts⟩ (m_X5_count_p l D kA ad X 0 (by decide) (by decide)) q_544 q_545 q_546 q_1 q_547 hd_X5_count ⟨rfl, rfl⟩ ⟨Nat.le_of_ble_eq_true rfl, Nat.le_of_ble_eq_true rfl⟩ hK (ws := (cw kA ad X)) hP.r hD.rt _ (ci := 5) (C := RX5) (T := TX5) (N := 6) rfl cw_arm rfl hl.1 rfl (Nat.le_of_ble_eq_true rfl) dL_agree_386 ⟨Nat.zero_le _, Nat.zero_le _⟩) ?_
        refine lv_aload_n hx hb dL_agree_389 rfl (lv_at hl 1 rfl) ?_
        refine lv_iconst (v := 0) hx hb dL_agree_390 (by decide) ?_
        refine va_iald (f := lqN (X 0) (X 8 1)) hx hb hK hP 0 0 lwR_0 rfl (in_nI (j := 0) rfl (by omega) (by decide)) dL_agree_391 ?_
        refine W_top (v' := .int ((X 0) 6)) (rfl) ?_
        refine lv_icmp_ne (tgt := 484) hx hb dL_agree_392 (by decide) (fun c_2 => ?_) (fun c_2 => ?_)
        · exact absurd c_2 (fun h => h (cou_0))
        · skip
          refine lv_aload_n hx hb dL_agree_395 rfl (lv_at hl 0 rfl) ?_
          refine lv_iconst (v := 1) hx hb dL_agree_396 (by decide) ?_
          refine cs_p (runV (As := [.int 1]) (rest := []) ⟨hx, hb, hml, hown, hts⟩ (m_X5_count_p l D kA ad X 1 (by decide) (by decide)) q_544 q_545 q_546 q_1 q_547 hd_X5_count ⟨rfl, rfl⟩ ⟨Nat.le_of_ble_eq_true rfl, Nat.le_of_ble_eq_true rfl⟩ hK (ws := (cw kA ad X)) hP.r hD.rt _ (ci := 5) (C := RX5) (T := TX5) (N := 6) rfl cw_arm rfl hl.1 rfl (Nat.le_of_ble_eq_true rfl) dL_agree_397 ⟨Nat.zero_le _, Nat.zero_le _⟩) ?_
          refine lv_iload hx hb dL_agree_400 (lv_at hl 14 rfl) ?_
          refine lv_icmp_ne (tgt := 484) hx hb dL_agree_402 (by decide) (fun c_3 => ?_) (fun c_3 => ?_)
          · exact absurd c_3 (fun h => h (cou_1.trans h14.symm))
          · skip
            refine lv_aload_n hx hb dL_agree_405 rfl (lv_at hl 0 rfl) ?_
            refine lv_iconst (v := 2) hx hb dL_agree_406 (by decide) ?_
            refine cs_p (runV (As := [.int 2]) (rest := []) ⟨hx, hb, hml, hown, hts⟩ (m_X5_count_p l D kA ad X 2 (by decide) (by decide)) q_544 q_545 q_546 q_1 q_547 hd_X5_count ⟨rfl, rfl⟩ ⟨Nat.le_of_ble_eq_true rfl, Nat.le_of_ble_eq_true rfl⟩ hK (ws := (cw kA ad X)) hP.r hD.rt _ (ci := 5) (C := RX5) (T := TX5) (N := 6) rfl cw_arm rfl hl.1 rfl (Nat.le_of_ble_eq_true rfl) dL_agree_407 ⟨Nat.zero_le _, Nat.zero_le _⟩) ?_
            refine lv_iload hx hb dL_agree_410 (lv_at hl 15 rfl) ?_
            refine lv_icmp_ne (tgt := 484) hx hb dL_agree_412 (by decide) (fun c_4 => ?_) (fun c_4 => ?_)
            · exact absurd c_4 (fun h => h (cou_2.trans h15.symm))
            · skip
              refine lv_aload_n hx hb dL_agree_415 rfl (lv_at hl 0 rfl) ?_
              refine lv_iconst (v := 3) hx hb dL_agree_416 (by decide) ?_
              refine cs_p (runV (As := [.int 3]) (rest := []) ⟨hx, hb, hml, hown, hts⟩ (m_X5_count_p l D kA ad X 3 (by decide) (by decide)) q_544 q_545 q_546 q_1 q_547 hd_X5_count ⟨rfl, rfl⟩ ⟨Nat.le_of_ble_eq_true rfl, Nat.le_of_ble_eq_true rfl⟩ hK (ws := (cw kA ad X)) hP.r hD.rt _ (ci := 5) (C := RX5) (T := TX5) (N := 6) rfl cw_arm rfl hl.1 rfl (Nat.le_of_ble_eq_true rfl) dL_agree_417 ⟨Nat.zero_le _, Nat.zero_le _⟩) ?_
              refine lv_iload hx hb dL_agree_420 (lv_at hl 16 rfl) ?_
              refine lv_icmp_ne (tgt := 484) hx hb dL_agree_422 (by decide) (fun c_5 => ?_) (fun c_5 => ?_)
              · exact absurd c_5 (fun h => h (cou_3.trans h16.symm))
              · skip
                refine lv_aload_n hx hb dL_agree_425 rfl (lv_at hl 0 rfl) ?_
                refine lv_iconst (v := 4) hx hb dL_agree_426 (by decide) ?_
                refine cs_p (runV (As := [.int 4]) (rest := []) ⟨hx, hb, hml, hown, hts⟩ (m_X5_count_p l D kA ad X 4 (by decide) (by decide)) q_544 q_545 q_546 q_1 q_547 hd_X5_count ⟨rfl, rfl⟩ ⟨Nat.le_of_ble_eq_true rfl, Nat.le_of_ble_eq_true rfl⟩ hK (ws := (cw kA ad X)) hP.r hD.rt _ (ci := 5) (C := RX5) (T := TX5) (N := 6) rfl cw_arm rfl hl.1 rfl (Nat.le_of_ble_eq_true rfl) dL_agree_427 ⟨Nat.zero_le _, Nat.zero_le _⟩) ?_
                refine lv_aload_n hx hb dL_agree_430 rfl (lv_at hl 1 rfl) ?_
                refine lv_iconst (v := 1) hx hb dL_agree_431 (by decide) ?_
                refine va_iald (f := lqN (X 0) (X 8 1)) hx hb hK hP 0 0 lwR_0 rfl (in_nI (j := 1) rfl (by omega) (by decide)) dL_agree_432 ?_
                refine W_top (v' := .int ((X 0) 7)) (rfl) ?_
                refine lv_icmp_ne (tgt := 484) hx hb dL_agree_433 (by decide) (fun c_6 => ?_) (fun c_6 => ?_)
                · exact absurd c_6 (fun h => h (cou_4))
                · skip
                  refine lv_aload_n hx hb dL_agree_436 rfl (lv_at hl 0 rfl) ?_
                  refine lv_iconst (v := 5) hx hb dL_agree_437 (by decide) ?_
                  refine cs_p (runV (As := [.int 5]) (rest := []) ⟨hx, hb, hml, hown, hts⟩ (m_X5_count_p l D kA ad X 5 (by decide) (by decide)) q_544 q_545 q_546 q_1 q_547 hd_X5_count ⟨rfl, rfl⟩ ⟨Nat.le_of_ble_eq_true rfl, Nat.le_of_ble_eq_true rfl⟩ hK (ws := (cw kA ad X)) hP.r hD.rt _ (ci := 5) (C := RX5) (T := TX5) (N := 6) rfl cw_arm rfl hl.1 rfl (Nat.le_of_ble_eq_true rfl) dL_agree_438 ⟨Nat.zero_le _, Nat.zero_le _⟩) ?_
                  refine lv_iload hx hb dL_agree_441 (lv_at hl 11 rfl) ?_
                  refine lv_icmp_ne (tgt := 484) hx hb dL_agree_443 (by decide) (fun c_7 => ?_) (fun c_7 => ?_)
                  · exact absurd c_7 (fun h => h (cou_5.trans h11.symm))
                  · skip
                    refine lv_aload_n hx hb dL_agree_446 rfl (lv_at hl 0 rfl) ?_
                    refine lv_bipush (v := 6) hx hb dL_agree_447 (by decide) ?_
                    refine cs_p (runV (As := [.int 6]) (rest := []) ⟨hx, hb, hml, hown, hts⟩ (m_X5_count_p l D kA ad X 6 (by decide) (by decide)) q_544 q_545 q_546 q_1 q_547 hd_X5_count ⟨rfl, rfl⟩ ⟨Nat.le_of_ble_eq_true rfl, Nat.le_of_ble_eq_true rfl⟩ hK (ws := (cw kA ad X)) hP.r hD.rt _ (ci := 5) (C := RX5) (T := TX5) (N := 6) rfl cw_arm rfl hl.1 rfl (Nat.le_of_ble_eq_true rfl) dL_agree_449 ⟨Nat.zero_le _, Nat.zero_le _⟩) ?_
                    refine lv_iload hx hb dL_agree_452 (lv_at hl 12 rfl) ?_
                    refine lv_icmp_ne (tgt := 484) hx hb dL_agree_454 (by decide) (fun c_8 => ?_) (fun c_8 => ?_)
                    · exact absurd c_8 (fun h => h (cou_6.trans h12.symm))
                    · skip
                      refine lv_aload_n hx hb dL_agree_457 rfl (lv_at hl 0 rfl) ?_
                      refine lv_bipush (v := 7) hx hb dL_agree_458 (by decide) ?_
                      refine cs_p (runV (As := [.int 7]) (rest := []) ⟨hx, hb, hml, hown, hts⟩ (m_X5_count_p l D kA ad X 7 (by decide) (by decide)) q_544 q_545 q_546 q_1 q_547 hd_X5_count ⟨rfl, rfl⟩ ⟨Nat.le_of_ble_eq_true rfl, Nat.le_of_ble_eq_true rfl⟩ hK (ws := (cw kA ad X)) hP.r hD.rt _ (ci := 5) (C := RX5) (T := TX5) (N := 6) rfl cw_arm rfl hl.1 rfl (Nat.le_of_ble_eq_true rfl) dL_agree_460 ⟨Nat.zero_le _, Nat.zero_le _⟩) ?_
                      refine lv_iload hx hb dL_agree_463 (lv_at hl 13 rfl) ?_
                      refine lv_icmp_ne (tgt := 484) hx hb dL_agree_465 (by decide) (fun c_9 => ?_) (fun c_9 => ?_)
                      · exact absurd c_9 (fun h => h (cou_7.trans h13.symm))
                      · skip
                        refine lv_aload_n hx hb dL_agree_468 rfl (lv_at hl 0 rfl) ?_
                        refine lv_bipush (v := 8) hx hb dL_agree_469 (by decide) ?_
                        refine cs_p (runV (As := [.int 8]) (rest := []) ⟨hx, hb, hml, hown, hts⟩ (m_X5_count_p l D kA ad X 8 (by decide) (by decide)) q_544 q_545 q_546 q_1 q_547 hd_X5_count ⟨rfl, rfl⟩ ⟨Nat.le_of_ble_eq_true rfl, Nat.le_of_ble_eq_true rfl⟩ hK (ws := (cw kA ad X)) hP.r hD.rt _ (ci := 5) (C := RX5) (T := TX5) (N := 6) rfl cw_arm rfl hl.1 rfl (Nat.le_of_ble_eq_true rfl) dL_agree_471 ⟨Nat.zero_le _, Nat.zero_le _⟩) ?_
                        refine lv_aload_n hx hb dL_agree_474 rfl (lv_at hl 1 rfl) ?_
                        refine lv_iconst (v := 2) hx hb dL_agree_475 (by decide) ?_
                        refine va_iald (f := lqN (X 0) (X 8 1)) hx hb hK hP 0 0 lwR_0 rfl (in_nI (j := 2) rfl (by omega) (by decide)) dL_agree_476 ?_
                        refine W_top (v' := .int (X 8 1)) (rfl) ?_
                        refine lv_icmp_ne (tgt := 484) hx hb dL_agree_477 (by decide) (fun c_10 => ?_) (fun c_10 => ?_)
                        · exact absurd c_10 (fun h => h (cou_8))
                        · skip
                          refine lv_iconst (v := 1) hx hb dL_agree_480 (by decide) ?_
                          refine lv_goto (tgt := 485) hx hb dL_agree_481 (by decide) ?_
                          exact end_pz hx hb hrt hlk (by decide) (rfl) dL_agree_485
      · exact absurd c_1 (fun h => h (cnt_ge (N := 4) (j := j) rfl rfl (by omega) (by omega)))
    | succ n ih21 =>
      intro j x11 x12 x13 x14 x15 x16 hj h11 h12 h13 h14 h15 h16  ls hl
      refine lv_iload hx hb dL_agree_21 (lv_at hl 17 rfl) ?_
      refine lv_iconst (v := 4) hx hb dL_agree_23 (by decide) ?_
      refine lv_icmp_ge (tgt := 384) hx hb dL_agree_24 (by decide) (fun c_11 => ?_) (fun c_11 => ?_)
      · exact absurd c_11 (cnt_nge (N := 4) (j := j) rfl rfl (by decide) (by omega))
      · skip
        replace c_11 := nge_l c_11
        refine lv_aload_n hx hb dL_agree_27 rfl (lv_at hl 3 rfl) ?_
        refine lv_iload hx hb dL_agree_28 (lv_at hl 17 rfl) ?_
        refine va_iald (f := lqG (X 0) 1) hx hb hK hP 2 0 lwR_2 rfl (in_nI rfl (by omega) (by decide)) dL_agree_30 ?_
        refine W_top (v' := .int (sl (X 0) j 1)) (congrArg Value.int (vG (by omega))) ?_
        refine lv_aload_n hx hb dL_agree_31 rfl (lv_at hl 2 rfl) ?_
        refine lv_iload hx hb dL_agree_32 (lv_at hl 17 rfl) ?_
        refine va_iald (f := lqG (X 0) 0) hx hb hK hP 1 0 lwR_1 rfl (in_nI rfl (by omega) (by decide)) dL_agree_34 ?_
        refine W_top (v' := .int (sl (X 0) j 0)) (congrArg Value.int (vG (by omega))) ?_
        refine lv_isub hx hb dL_agree_35 ?_
        refine lv_bipush (v := 24) hx hb dL_agree_36 (by decide) ?_
        refine lv_iadd hx hb dL_agree_38 ?_
        refine lv_bipush (v := 24) hx hb dL_agree_39 (by decide) ?_
        refine lv_irem hx hb dL_agree_41 (by decide) ?_
        obtain ⟨far, e_far⟩ : ∃ y9 : Int32, y9 = (((sl (X 0) j 1) - (sl (X 0) j 0)) + 24) - (((sl (X 0) j 1) - (sl (X 0) j 0)) + 24) / 24 * 24 := ⟨_, rfl⟩
        rw [← e_far]
        refine lv_istore (lv' := [(18, .int far), (0, .ref (ad 0)), (1, .ref (al 0)), (2, .ref (al 1)), (3, .ref (al 2)), (4, .ref (al 3)), (5, .ref (al 4)), (6, .ref (al 5)), (7, .ref (al 6)), (8, .ref (al 7)), (9, .ref (al 8)), (10, .ref (al 9)), (11, .int x11), (12, .int x12), (13, .int x13), (14, .int x14), (15, .int x15), (16, .int x16), (17, .int (nI j))]) hx hb dL_agree_42 hl (by decide) rfl (fun ls hl => ?_)
        refine lv_aload_n hx hb dL_agree_44 rfl (lv_at hl 1 rfl) ?_
        refine lv_iload hx hb dL_agree_45 (lv_at hl 18 rfl) ?_
        refine lv_iconst (v := 0) hx hb dL_agree_47 (by decide) ?_
        refine cs_p (runV (As := [.int (nI j), .int 0]) (rest := []) ⟨hx, hb, hml, hown, hts⟩ (m_X5_axis_p l D kA ad X j (nI j) 0 (rfl) (by omega) (by decide) (by decide)) q_525 q_526 q_527 q_1 q_528 hd_X5_axis ⟨rfl, rfl⟩ ⟨Nat.le_of_ble_eq_true rfl, Nat.le_of_ble_eq_true rfl⟩ hK (ws := (cw kA ad X)) hP.r hD.rt _ (ci := 5) (C := RX5) (T := TX5) (N := 6) rfl cw_arm rfl hl.1 rfl (Nat.le_of_ble_eq_true rfl) dL_agree_48 ⟨Nat.zero_le _, Nat.zero_le _⟩) ?_
        refine lv_aload_n hx hb dL_agree_51 rfl (lv_at hl 3 rfl) ?_
        refine lv_iload hx hb dL_agree_52 (lv_at hl 18 rfl) ?_
        refine va_iald (f := lqG (X 0) 0) hx hb hK hP 1 0 lwR_1 rfl (in_nI rfl (by omega) (by decide)) dL_agree_54 ?_
        refine W_top (v' := .int (sl (X 0) j 0)) (congrArg Value.int (vG (by omega))) ?_
        refine lv_icmp_ne (tgt := 160) hx hb dL_agree_55 (by decide) (fun c_12 => ?_) (fun c_12 => ?_)
        · exact absurd c_12 (fun h => h pr_0)
        · skip
          refine lv_aload_n hx hb dL_agree_58 rfl (lv_at hl 1 rfl) ?_
          refine lv_iload hx hb dL_agree_59 (lv_at hl 18 rfl) ?_
          refine lv_iconst (v := 1) hx hb dL_agree_61 (by decide) ?_
          refine cs_p (runV (As := [.int (nI j), .int 1]) (rest := []) ⟨hx, hb, hml, hown, hts⟩ (m_X5_axis_p l D kA ad X j (nI j) 1 (rfl) (by omega) (by decide) (by decide)) q_525 q_526 q_527 q_1 q_528 hd_X5_axis ⟨rfl, rfl⟩ ⟨Nat.le_of_ble_eq_true rfl, Nat.le_of_ble_eq_true rfl⟩ hK (ws := (cw kA ad X)) hP.r hD.rt _ (ci := 5) (C := RX5) (T := TX5) (N := 6) rfl cw_arm rfl hl.1 rfl (Nat.le_of_ble_eq_true rfl) dL_agree_62 ⟨Nat.zero_le _, Nat.zero_le _⟩) ?_
          refine lv_aload_n hx hb dL_agree_65 rfl (lv_at hl 4 rfl) ?_
          refine lv_iload hx hb dL_agree_66 (lv_at hl 18 rfl) ?_
          refine va_iald (f := lqG (X 0) 1) hx hb hK hP 2 0 lwR_2 rfl (in_nI rfl (by omega) (by decide)) dL_agree_68 ?_
          refine W_top (v' := .int (sl (X 0) j 1)) (congrArg Value.int (vG (by omega))) ?_
          refine lv_icmp_ne (tgt := 160) hx hb dL_agree_69 (by decide) (fun c_13 => ?_) (fun c_13 => ?_)
          · exact absurd c_13 (fun h => h pr_1)
          · skip
            refine lv_aload_n hx hb dL_agree_72 rfl (lv_at hl 1 rfl) ?_
            refine lv_iload hx hb dL_agree_73 (lv_at hl 18 rfl) ?_
            refine lv_iconst (v := 2) hx hb dL_agree_75 (by decide) ?_
            refine cs_p (runV (As := [.int (nI j), .int 2]) (rest := []) ⟨hx, hb, hml, hown, hts⟩ (m_X5_axis_p l D kA ad X j (nI j) 2 (rfl) (by omega) (by decide) (by decide)) q_525 q_526 q_527 q_1 q_528 hd_X5_axis ⟨rfl, rfl⟩ ⟨Nat.le_of_ble_eq_true rfl, Nat.le_of_ble_eq_true rfl⟩ hK (ws := (cw kA ad X)) hP.r hD.rt _ (ci := 5) (C := RX5) (T := TX5) (N := 6) rfl cw_arm rfl hl.1 rfl (Nat.le_of_ble_eq_true rfl) dL_agree_76 ⟨Nat.zero_le _, Nat.zero_le _⟩) ?_
            refine lv_aload hx hb dL_agree_79 (lv_at hl 5 rfl) ?_
            refine lv_iload hx hb dL_agree_81 (lv_at hl 18 rfl) ?_
            refine va_iald (f := lqG (X 0) 2) hx hb hK hP 3 0 lwR_3 rfl (in_nI rfl (by omega) (by decide)) dL_agree_83 ?_
            refine W_top (v' := .int (sl (X 0) j 2)) (congrArg Value.int (vG (by omega))) ?_
            refine lv_icmp_ne (tgt := 160) hx hb dL_agree_84 (by decide) (fun c_14 => ?_) (fun c_14 => ?_)
            · exact absurd c_14 (fun h => h pr_2)
            · skip
              refine lv_aload_n hx hb dL_agree_87 rfl (lv_at hl 1 rfl) ?_
              refine lv_iload hx hb dL_agree_88 (lv_at hl 18 rfl) ?_
              refine lv_iconst (v := 3) hx hb dL_agree_90 (by decide) ?_
              refine cs_p (runV (As := [.int (nI j), .int 3]) (rest := []) ⟨hx, hb, hml, hown, hts⟩ (m_X5_axis_p l D kA ad X j (nI j) 3 (rfl) (by omega) (by decide) (by decide)) q_525 q_526 q_527 q_1 q_528 hd_X5_axis ⟨rfl, rfl⟩ ⟨Nat.le_of_ble_eq_true rfl, Nat.le_of_ble_eq_true rfl⟩ hK (ws := (cw kA ad X)) hP.r hD.rt _ (ci := 5) (C := RX5) (T := TX5) (N := 6) rfl cw_arm rfl hl.1 rfl (Nat.le_of_ble_eq_true rfl) dL_agree_91 ⟨Nat.zero_le _, Nat.zero_le _⟩) ?_
              refine lv_aload hx hb dL_agree_94 (lv_at hl 6 rfl) ?_
              refine lv_iload hx hb dL_agree_96 (lv_at hl 18 rfl) ?_
              refine va_iald (f := lqG (X 0) 3) hx hb hK hP 4 0 lwR_4 rfl (in_nI rfl (by omega) (by decide)) dL_agree_98 ?_
              refine W_top (v' := .int (sl (X 0) j 3)) (congrArg Value.int (vG (by omega))) ?_
              refine lv_icmp_ne (tgt := 160) hx hb dL_agree_99 (by decide) (fun c_15 => ?_) (fun c_15 => ?_)
              · exact absurd c_15 (fun h => h pr_3)
              · skip
                refine lv_aload_n hx hb dL_agree_102 rfl (lv_at hl 1 rfl) ?_
                refine lv_iload hx hb dL_agree_103 (lv_at hl 18 rfl) ?_
                refine lv_iconst (v := 4) hx hb dL_agree_105 (by decide) ?_
                refine cs_p (runV (As := [.int (nI j), .int 4]) (rest := []) ⟨hx, hb, hml, hown, hts⟩ (m_X5_axis_p l D kA ad X j (nI j) 4 (rfl) (by omega) (by decide) (by decide)) q_525 q_526 q_527 q_1 q_528 hd_X5_axis ⟨rfl, rfl⟩ ⟨Nat.le_of_ble_eq_true rfl, Nat.le_of_ble_eq_true rfl⟩ hK (ws := (cw kA ad X)) hP.r hD.rt _ (ci := 5) (C := RX5) (T := TX5) (N := 6) rfl cw_arm rfl hl.1 rfl (Nat.le_of_ble_eq_true rfl) dL_agree_106 ⟨Nat.zero_le _, Nat.zero_le _⟩) ?_
                refine lv_aload hx hb dL_agree_109 (lv_at hl 7 rfl) ?_
                refine lv_iload hx hb dL_agree_111 (lv_at hl 18 rfl) ?_
                refine va_iald (f := lqG (X 0) 4) hx hb hK hP 5 0 lwR_5 rfl (in_nI rfl (by omega) (by decide)) dL_agree_113 ?_
                refine W_top (v' := .int (sl (X 0) j 4)) (congrArg Value.int (vG (by omega))) ?_
                refine lv_icmp_ne (tgt := 160) hx hb dL_agree_114 (by decide) (fun c_16 => ?_) (fun c_16 => ?_)
                · exact absurd c_16 (fun h => h pr_4)
                · skip
                  refine lv_aload_n hx hb dL_agree_117 rfl (lv_at hl 1 rfl) ?_
                  refine lv_iload hx hb dL_agree_118 (lv_at hl 18 rfl) ?_
                  refine lv_iconst (v := 5) hx hb dL_agree_120 (by decide) ?_
                  refine cs_p (runV (As := [.int (nI j), .int 5]) (rest := []) ⟨hx, hb, hml, hown, hts⟩ (m_X5_axis_p l D kA ad X j (nI j) 5 (rfl) (by omega) (by decide) (by decide)) q_525 q_526 q_527 q_1 q_528 hd_X5_axis ⟨rfl, rfl⟩ ⟨Nat.le_of_ble_eq_true rfl, Nat.le_of_ble_eq_true rfl⟩ hK (ws := (cw kA ad X)) hP.r hD.rt _ (ci := 5) (C := RX5) (T := TX5) (N := 6) rfl cw_arm rfl hl.1 rfl (Nat.le_of_ble_eq_true rfl) dL_agree_121 ⟨Nat.zero_le _, Nat.zero_le _⟩) ?_
                  refine lv_aload hx hb dL_agree_124 (lv_at hl 8 rfl) ?_
                  refine lv_iload hx hb dL_agree_126 (lv_at hl 18 rfl) ?_
                  refine va_iald (f := lqG (X 0) 5) hx hb hK hP 6 0 lwR_6 rfl (in_nI rfl (by omega) (by decide)) dL_agree_128 ?_
                  refine W_top (v' := .int (sl (X 0) j 5)) (congrArg Value.int (vG (by omega))) ?_
                  refine lv_icmp_ne (tgt := 160) hx hb dL_agree_129 (by decide) (fun c_17 => ?_) (fun c_17 => ?_)
                  · exact absurd c_17 (fun h => h pr_5)
                  · skip
                    refine lv_aload_n hx hb dL_agree_132 rfl (lv_at hl 1 rfl) ?_
                    refine lv_iload hx hb dL_agree_133 (lv_at hl 18 rfl) ?_
                    refine lv_bipush (v := 9) hx hb dL_agree_135 (by decide) ?_
                    refine cs_p (runV (As := [.int (nI j), .int 9]) (rest := []) ⟨hx, hb, hml, hown, hts⟩ (m_X5_axis_p l D kA ad X j (nI j) 9 (rfl) (by omega) (by decide) (by decide)) q_525 q_526 q_527 q_1 q_528 hd_X5_axis ⟨rfl, rfl⟩ ⟨Nat.le_of_ble_eq_true rfl, Nat.le_of_ble_eq_true rfl⟩ hK (ws := (cw kA ad X)) hP.r hD.rt _ (ci := 5) (C := RX5) (T := TX5) (N := 6) rfl cw_arm rfl hl.1 rfl (Nat.le_of_ble_eq_true rfl) dL_agree_137 ⟨Nat.zero_le _, Nat.zero_le _⟩) ?_
                    refine lv_iload hx hb dL_agree_140 (lv_at hl 0 rfl) ?_
                    refine lv_bipush (v := 12) hx hb dL_agree_142 (by decide) ?_
                    have jn_144_17 : ∀ v : Int32, v = (if 12 < far then 24 - far else far) → W p l e ({ frames := 6, cells := 0, slots := 0, locals := 131 } : Room) s m [.ref (ad 0), .ref (al 0), .ref (al 1), .ref (al 2), .ref (al 3), .ref (al 4), .ref (al 5), .ref (al 6), .ref (al 7), .ref (al 8), .ref (al 9)].toArray below meth c s.heap [] 0 0 (MQ below (pQ (some (.int 1))) [.ref (ad 0), .ref (al 0), .ref (al 1), .ref (al 2), .ref (al 3), .ref (al 4), .ref (al 5), .ref (al 6), .ref (al 7), .ref (al 8), .ref (al 9)].toArray s 0 0 (fun _ => False)) (F0 m 157 ls (.int v :: [.int (propG (sl (X 0) j) 9)])) := by
                      intro v ev
                      subst ev
                      refine lv_icmp_eq (tgt := 162) hx hb dL_agree_157 (by decide) (fun c_19 => ?_) (fun c_19 => ?_)
                      · skip
                        refine lv_aload_n hx hb dL_agree_162 rfl (lv_at hl 1 rfl) ?_
                        refine lv_iload hx hb dL_agree_163 (lv_at hl 18 rfl) ?_
                        refine lv_bipush (v := 6) hx hb dL_agree_165 (by decide) ?_
                        refine cs_p (runV (As := [.int (nI j), .int 6]) (rest := []) ⟨hx, hb, hml, hown, hts⟩ (m_X5_axis_p l D kA ad X j (nI j) 6 (rfl) (by omega) (by decide) (by decide)) q_525 q_526 q_527 q_1 q_528 hd_X5_axis ⟨rfl, rfl⟩ ⟨Nat.le_of_ble_eq_true rfl, Nat.le_of_ble_eq_true rfl⟩ hK (ws := (cw kA ad X)) hP.r hD.rt _ (ci := 5) (C := RX5) (T := TX5) (N := 6) rfl cw_arm rfl hl.1 rfl (Nat.le_of_ble_eq_true rfl) dL_agree_167 ⟨Nat.zero_le _, Nat.zero_le _⟩) ?_
                        refine lv_aload hx hb dL_agree_170 (lv_at hl 9 rfl) ?_
                        refine lv_iconst (v := 5) hx hb dL_agree_172 (by decide) ?_
                        refine lv_iload hx hb dL_agree_173 (lv_at hl 18 rfl) ?_
                        refine lv_imul hx hb dL_agree_175 ?_
                        refine va_iald (f := lqU (X 0)) hx hb hK hP 7 0 lwR_7 rfl (in_nI (ux0) (by omega) (by decide)) dL_agree_176 ?_
                        refine W_top (v' := .int (sl (X 0) j 6)) (congrArg Value.int (vU (ux0) (by omega) (by omega))) ?_
                        refine lv_icmp_ne (tgt := 260) hx hb dL_agree_177 (by decide) (fun c_20 => ?_) (fun c_20 => ?_)
                        · exact absurd c_20 (fun h => h pr_6)
                        · skip
                          refine lv_aload_n hx hb dL_agree_180 rfl (lv_at hl 1 rfl) ?_
                          refine lv_iload hx hb dL_agree_181 (lv_at hl 18 rfl) ?_
                          refine lv_bipush (v := 7) hx hb dL_agree_183 (by decide) ?_
                          refine cs_p (runV (As := [.int (nI j), .int 7]) (rest := []) ⟨hx, hb, hml, hown, hts⟩ (m_X5_axis_p l D kA ad X j (nI j) 7 (rfl) (by omega) (by decide) (by decide)) q_525 q_526 q_527 q_1 q_528 hd_X5_axis ⟨rfl, rfl⟩ ⟨Nat.le_of_ble_eq_true rfl, Nat.le_of_ble_eq_true rfl⟩ hK (ws := (cw kA ad X)) hP.r hD.rt _ (ci := 5) (C := RX5) (T := TX5) (N := 6) rfl cw_arm rfl hl.1 rfl (Nat.le_of_ble_eq_true rfl) dL_agree_185 ⟨Nat.zero_le _, Nat.zero_le _⟩) ?_
                          refine lv_aload hx hb dL_agree_188 (lv_at hl 9 rfl) ?_
                          refine lv_iconst (v := 5) hx hb dL_agree_190 (by decide) ?_
                          refine lv_iload hx hb dL_agree_191 (lv_at hl 18 rfl) ?_
                          refine lv_imul hx hb dL_agree_193 ?_
                          refine lv_iconst (v := 1) hx hb dL_agree_194 (by decide) ?_
                          refine lv_iadd hx hb dL_agree_195 ?_
                          refine va_iald (f := lqU (X 0)) hx hb hK hP 7 0 lwR_7 rfl (in_nI (ux (x := 1) (r := 1) rfl) (by omega) (by decide)) dL_agree_196 ?_
                          refine W_top (v' := .int (sl (X 0) j 7)) (congrArg Value.int (vU (ux (x := 1) (r := 1) rfl) (by omega) (by omega))) ?_
                          refine lv_icmp_ne (tgt := 260) hx hb dL_agree_197 (by decide) (fun c_21 => ?_) (fun c_21 => ?_)
                          · exact absurd c_21 (fun h => h pr_7)
                          · skip
                            refine lv_aload_n hx hb dL_agree_200 rfl (lv_at hl 1 rfl) ?_
                            refine lv_iload hx hb dL_agree_201 (lv_at hl 18 rfl) ?_
                            refine lv_bipush (v := 8) hx hb dL_agree_203 (by decide) ?_
                            refine cs_p (runV (As := [.int (nI j), .int 8]) (rest := []) ⟨hx, hb, hml, hown, hts⟩ (m_X5_axis_p l D kA ad X j (nI j) 8 (rfl) (by omega) (by decide) (by decide)) q_525 q_526 q_527 q_1 q_528 hd_X5_axis ⟨rfl, rfl⟩ ⟨Nat.le_of_ble_eq_true rfl, Nat.le_of_ble_eq_true rfl⟩ hK (ws := (cw kA ad X)) hP.r hD.rt _ (ci := 5) (C := RX5) (T := TX5) (N := 6) rfl cw_arm rfl hl.1 rfl (Nat.le_of_ble_eq_true rfl) dL_agree_205 ⟨Nat.zero_le _, Nat.zero_le _⟩) ?_
                            refine lv_aload hx hb dL_agree_208 (lv_at hl 9 rfl) ?_
                            refine lv_iconst (v := 5) hx hb dL_agree_210 (by decide) ?_
                            refine lv_iload hx hb dL_agree_211 (lv_at hl 18 rfl) ?_
                            refine lv_imul hx hb dL_agree_213 ?_
                            refine lv_iconst (v := 2) hx hb dL_agree_214 (by decide) ?_
                            refine lv_iadd hx hb dL_agree_215 ?_
                            refine va_iald (f := lqU (X 0)) hx hb hK hP 7 0 lwR_7 rfl (in_nI (ux (x := 2) (r := 2) rfl) (by omega) (by decide)) dL_agree_216 ?_
                            refine W_top (v' := .int (sl (X 0) j 8)) (congrArg Value.int (vU (ux (x := 2) (r := 2) rfl) (by omega) (by omega))) ?_
                            refine lv_icmp_ne (tgt := 260) hx hb dL_agree_217 (by decide) (fun c_22 => ?_) (fun c_22 => ?_)
                            · exact absurd c_22 (fun h => h pr_8)
                            · skip
                              refine lv_aload_n hx hb dL_agree_220 rfl (lv_at hl 1 rfl) ?_
                              refine lv_iload hx hb dL_agree_221 (lv_at hl 18 rfl) ?_
                              refine lv_bipush (v := 10) hx hb dL_agree_223 (by decide) ?_
                              refine cs_p (runV (As := [.int (nI j), .int 10]) (rest := []) ⟨hx, hb, hml, hown, hts⟩ (m_X5_axis_p l D kA ad X j (nI j) 10 (rfl) (by omega) (by decide) (by decide)) q_525 q_526 q_527 q_1 q_528 hd_X5_axis ⟨rfl, rfl⟩ ⟨Nat.le_of_ble_eq_true rfl, Nat.le_of_ble_eq_true rfl⟩ hK (ws := (cw kA ad X)) hP.r hD.rt _ (ci := 5) (C := RX5) (T := TX5) (N := 6) rfl cw_arm rfl hl.1 rfl (Nat.le_of_ble_eq_true rfl) dL_agree_225 ⟨Nat.zero_le _, Nat.zero_le _⟩) ?_
                              refine lv_aload hx hb dL_agree_228 (lv_at hl 9 rfl) ?_
                              refine lv_iconst (v := 5) hx hb dL_agree_230 (by decide) ?_
                              refine lv_iload hx hb dL_agree_231 (lv_at hl 18 rfl) ?_
                              refine lv_imul hx hb dL_agree_233 ?_
                              refine lv_iconst (v := 3) hx hb dL_agree_234 (by decide) ?_
                              refine lv_iadd hx hb dL_agree_235 ?_
                              refine va_iald (f := lqU (X 0)) hx hb hK hP 7 0 lwR_7 rfl (in_nI (ux (x := 3) (r := 3) rfl) (by omega) (by decide)) dL_agree_236 ?_
                              refine W_top (v' := .int (sl (X 0) j 9)) (congrArg Value.int (vU (ux (x := 3) (r := 3) rfl) (by omega) (by omega))) ?_
                              refine lv_icmp_ne (tgt := 260) hx hb dL_agree_237 (by decide) (fun c_23 => ?_) (fun c_23 => ?_)
                              · exact absurd c_23 (fun h => h pr_10)
                              · skip
                                refine lv_aload_n hx hb dL_agree_240 rfl (lv_at hl 1 rfl) ?_
                                refine lv_iload hx hb dL_agree_241 (lv_at hl 18 rfl) ?_
                                refine lv_bipush (v := 11) hx hb dL_agree_243 (by decide) ?_
                                refine cs_p (runV (As := [.int (nI j), .int 11]) (rest := []) ⟨hx, hb, hml, hown, hts⟩ (m_X5_axis_p l D kA ad X j (nI j) 11 (rfl) (by omega) (by decide) (by decide)) q_525 q_526 q_527 q_1 q_528 hd_X5_axis ⟨rfl, rfl⟩ ⟨Nat.le_of_ble_eq_true rfl, Nat.le_of_ble_eq_true rfl⟩ hK (ws := (cw kA ad X)) hP.r hD.rt _ (ci := 5) (C := RX5) (T := TX5) (N := 6) rfl cw_arm rfl hl.1 rfl (Nat.le_of_ble_eq_true rfl) dL_agree_245 ⟨Nat.zero_le _, Nat.zero_le _⟩) ?_
                                refine lv_aload hx hb dL_agree_248 (lv_at hl 9 rfl) ?_
                                refine lv_iconst (v := 5) hx hb dL_agree_250 (by decide) ?_
                                refine lv_iload hx hb dL_agree_251 (lv_at hl 18 rfl) ?_
                                refine lv_imul hx hb dL_agree_253 ?_
                                refine lv_iconst (v := 4) hx hb dL_agree_254 (by decide) ?_
                                refine lv_iadd hx hb dL_agree_255 ?_
                                refine va_iald (f := lqU (X 0)) hx hb hK hP 7 0 lwR_7 rfl (in_nI (ux (x := 4) (r := 4) rfl) (by omega) (by decide)) dL_agree_256 ?_
                                refine W_top (v' := .int (sl (X 0) j 10)) (congrArg Value.int (vU (ux (x := 4) (r := 4) rfl) (by omega) (by omega))) ?_
                                refine lv_icmp_eq (tgt := 262) hx hb dL_agree_257 (by decide) (fun c_24 => ?_) (fun c_24 => ?_)
                                · skip
                                  refine lv_iconst (v := 0) hx hb dL_agree_262 (by decide) ?_
                                  refine lv_istore (lv' := [(19, .int 0), (18, .int far), (0, .ref (ad 0)), (1, .ref (al 0)), (2, .ref (al 1)), (3, .ref (al 2)), (4, .ref (al 3)), (5, .ref (al 4)), (6, .ref (al 5)), (7, .ref (al 6)), (8, .ref (al 7)), (9, .ref (al 8)), (10, .ref (al 9)), (11, .int x11), (12, .int x12), (13, .int x13), (14, .int x14), (15, .int x15), (16, .int x16), (17, .int (nI j))]) hx hb dL_agree_263 hl (by decide) rfl (fun ls hl => ?_)
                                  have loop_265 : ∀ (n2 : Nat) (t : Nat) (y11 : Int32) (y12 : Int32) (ht : t + n2 = 24) (hr11 : foldL (fun a s => foldL (fun t s => s + gwr (sl (X 0) a) (nI t)) 24 0 s) n (j + 1) (foldL (fun t s => s + gwr (sl (X 0) j) (nI t)) n2 t y11) = wearX (X 0)) (hr12 : foldL (fun a s => foldL (fun t s => if gwr (sl (X 0) a) (nI t) < X 0 2 then s else s + 1) 24 0 s) n (j + 1) (foldL (fun t s => if gwr (sl (X 0) j) (nI t) < X 0 2 then s else s + 1) n2 t y12) = wornX (X 0) (X 0 2)), ∀ ls : Array Slot, lv_has ls 21 [(0, .ref (ad 0)), (1, .ref (al 0)), (2, .ref (al 1)), (3, .ref (al 2)), (4, .ref (al 3)), (5, .ref (al 4)), (6, .ref (al 5)), (7, .ref (al 6)), (8, .ref (al 7)), (9, .ref (al 8)), (10, .ref (al 9)), (11, .int y11), (12, .int y12), (13, .int x13), (14, .int x14), (15, .int x15), (16, .int x16), (17, .int (nI j)), (18, .int far), (19, .int (nI t))] → W p l e ({ frames := 6, cells := 0, slots := 0, locals := 131 } : Room) s m [.ref (ad 0), .ref (al 0), .ref (al 1), .ref (al 2), .ref (al 3), .ref (al 4), .ref (al 5), .ref (al 6), .ref (al 7), .ref (al 8), .ref (al 9)].toArray below meth c s.heap [] 0 0 (MQ below (pQ (some (.int 1))) [.ref (ad 0), .ref (al 0), .ref (al 1), .ref (al 2), .ref (al 3), .ref (al 4), .ref (al 5), .ref (al 6), .ref (al 7), .ref (al 8), .ref (al 9)].toArray s 0 0 (fun _ => False)) (F0 m 265 ls []) := by
                                    clear hl
                                    intro n2
                                    induction n2 with
                                    | zero =>
                                      intro t y11 y12 ht hr11 hr12  ls hl
                                      refine lv_iload hx hb dL_agree_265 (lv_at hl 19 rfl) ?_
                                      refine lv_bipush (v := 24) hx hb dL_agree_267 (by decide) ?_
                                      refine lv_icmp_ge (tgt := 324) hx hb dL_agree_269 (by decide) (fun c_25 => ?_) (fun c_25 => ?_)
                                      · skip
                                        replace c_25 := ge_n c_25
                                        refine lv_aload_n hx hb dL_agree_324 rfl (lv_at hl 2 rfl) ?_
                                        refine lv_iload hx hb dL_agree_325 (lv_at hl 17 rfl) ?_
                                        refine va_iald (f := lqG (X 0) 0) hx hb hK hP 1 0 lwR_1 rfl (in_nI rfl (by omega) (by decide)) dL_agree_327 ?_
                                        refine W_top (v' := .int (sl (X 0) j 0)) (congrArg Value.int (vG (by omega))) ?_
                                        refine lv_aload_n hx hb dL_agree_328 rfl (lv_at hl 3 rfl) ?_
                                        refine lv_iload hx hb dL_agree_329 (lv_at hl 17 rfl) ?_
                                        refine va_iald (f := lqG (X 0) 1) hx hb hK hP 2 0 lwR_2 rfl (in_nI rfl (by omega) (by decide)) dL_agree_331 ?_
                                        refine W_top (v' := .int (sl (X 0) j 1)) (congrArg Value.int (vG (by omega))) ?_
                                        refine lv_icmp_ne (tgt := 338) hx hb dL_agree_332 (by decide) (fun c_26 => ?_) (fun c_26 => ?_)
                                        · skip
                                          refine lv_iload hx hb dL_agree_338 (lv_at hl 14 rfl) ?_
                                          refine lv_aload hx hb dL_agree_340 (lv_at hl 8 rfl) ?_
                                          refine lv_iconst (v := 5) hx hb dL_agree_342 (by decide) ?_
                                          refine lv_iload hx hb dL_agree_343 (lv_at hl 17 rfl) ?_
                                          refine lv_imul hx hb dL_agree_345 ?_
                                          refine va_iald (f := lqU (X 0)) hx hb hK hP 7 0 lwR_7 rfl (in_nI (ux0) (by omega) (by decide)) dL_agree_346 ?_
                                          refine W_top (v' := .int (sl (X 0) j 6)) (congrArg Value.int (vU (ux0) (by omega) (by omega))) ?_
                                          refine lv_iadd hx hb dL_agree_347 ?_
                                          refine lv_istore (lv' := [(14, .int (x14 + (sl (X 0) j 6))), (0, .ref (ad 0)), (1, .ref (al 0)), (2, .ref (al 1)), (3, .ref (al 2)), (4, .ref (al 3)), (5, .ref (al 4)), (6, .ref (al 5)), (7, .ref (al 6)), (8, .ref (al 7)), (9, .ref (al 8)), (10, .ref (al 9)), (11, .int y11), (12, .int y12), (13, .int x13), (15, .int x15), (16, .int x16), (17, .int (nI j)), (18, .int far), (19, .int (nI t))]) hx hb dL_agree_348 hl (by decide) rfl (fun ls hl => ?_)
                                          refine lv_iload hx hb dL_agree_350 (lv_at hl 16 rfl) ?_
                                          refine lv_aload hx hb dL_agree_352 (lv_at hl 9 rfl) ?_
                                          refine lv_iconst (v := 5) hx hb dL_agree_354 (by decide) ?_
                                          refine lv_iload hx hb dL_agree_355 (lv_at hl 17 rfl) ?_
                                          refine lv_imul hx hb dL_agree_357 ?_
                                          refine lv_iconst (v := 1) hx hb dL_agree_358 (by decide) ?_
                                          refine lv_iadd hx hb dL_agree_359 ?_
                                          refine va_iald (f := lqU (X 0)) hx hb hK hP 7 0 lwR_7 rfl (in_nI (ux (x := 1) (r := 1) rfl) (by omega) (by decide)) dL_agree_360 ?_
                                          refine W_top (v' := .int (sl (X 0) j 7)) (congrArg Value.int (vU (ux (x := 1) (r := 1) rfl) (by omega) (by omega))) ?_
                                          refine lv_iadd hx hb dL_agree_361 ?_
                                          refine lv_istore (lv' := [(16, .int (x16 + (sl (X 0) j 7))), (14, .int (x14 + (sl (X 0) j 6))), (0, .ref (ad 0)), (1, .ref (al 0)), (2, .ref (al 1)), (3, .ref (al 2)), (4, .ref (al 3)), (5, .ref (al 4)), (6, .ref (al 5)), (7, .ref (al 6)), (8, .ref (al 7)), (9, .ref (al 8)), (10, .ref (al 9)), (11, .int y11), (12, .int y12), (13, .int x13), (15, .int x15), (17, .int (nI j)), (18, .int far), (19, .int (nI t))]) hx hb dL_agree_362 hl (by decide) rfl (fun ls hl => ?_)
                                          refine lv_iload hx hb dL_agree_364 (lv_at hl 16 rfl) ?_
                                          refine lv_aload hx hb dL_agree_366 (lv_at hl 10 rfl) ?_
                                          refine lv_iconst (v := 5) hx hb dL_agree_368 (by decide) ?_
                                          refine lv_iload hx hb dL_agree_369 (lv_at hl 17 rfl) ?_
                                          refine lv_imul hx hb dL_agree_371 ?_
                                          refine lv_iconst (v := 2) hx hb dL_agree_372 (by decide) ?_
                                          refine lv_iadd hx hb dL_agree_373 ?_
                                          refine va_iald (f := lqU (X 0)) hx hb hK hP 7 0 lwR_7 rfl (in_nI (ux (x := 2) (r := 2) rfl) (by omega) (by decide)) dL_agree_374 ?_
                                          refine W_top (v' := .int (sl (X 0) j 8)) (congrArg Value.int (vU (ux (x := 2) (r := 2) rfl) (by omega) (by omega))) ?_
                                          refine lv_iadd hx hb dL_agree_375 ?_
                                          refine lv_istore (lv' := [(15, .int (x15 + (sl (X 0) j 8))), (16, .int (x16 + (sl (X 0) j 7))), (14, .int (x14 + (sl (X 0) j 6))), (0, .ref (ad 0)), (1, .ref (al 0)), (2, .ref (al 1)), (3, .ref (al 2)), (4, .ref (al 3)), (5, .ref (al 4)), (6, .ref (al 5)), (7, .ref (al 6)), (8, .ref (al 7)), (9, .ref (al 8)), (10, .ref (al 9)), (11, .int y11), (12, .int y12), (13, .int x13), (17, .int (nI j)), (18, .int far), (19, .int (nI t))]) hx hb dL_agree_376 hl (by decide) rfl (fun ls hl => ?_)
                                          refine lv_iinc (v := nI (j + 1)) (lv' := [(17, .int (nI (j + 1))), (15, .int (x15 + (sl (X 0) j 8))), (16, .int (x16 + (sl (X 0) j 7))), (14, .int (x14 + (sl (X 0) j 6))), (0, .ref (ad 0)), (1, .ref (al 0)), (2, .ref (al 1)), (3, .ref (al 2)), (4, .ref (al 3)), (5, .ref (al 4)), (6, .ref (al 5)), (7, .ref (al 6)), (8, .ref (al 7)), (9, .ref (al 8)), (10, .ref (al 9)), (11, .int y11), (12, .int y12), (13, .int x13), (18, .int far), (19, .int (nI t))]) hx hb dL_agree_378 hl (k := 17) rfl (nI_1 j) (by decide) rfl (fun ls hl => ?_)
                                          refine lv_goto (tgt := 21) hx hb dL_agree_381 (by decide) ?_
                                          exact ih21 (j + 1) y11 y12 x13 (x14 + (sl (X 0) j 6)) (x15 + (sl (X 0) j 8)) (x16 + (sl (X 0) j 7)) (by omega) (hr11) (hr12) (fold_1 (if_neg c_26) h13) (fold_1 (congrArg (x14 + ·) pr_6) h14) (fold_1 (congrArg (x15 + ·) pr_8) h15) (fold_1 (congrArg (x16 + ·) pr_7) h16) ls (lv_sub hl [4, 5, 6, 7, 8, 9, 10, 11, 12, 13, 14, 15, 16, 17, 3, 1, 2, 0] rfl)
                                        · skip
                                          refine lv_iinc (v := x13 + 1) (lv' := [(13, .int (x13 + 1)), (0, .ref (ad 0)), (1, .ref (al 0)), (2, .ref (al 1)), (3, .ref (al 2)), (4, .ref (al 3)), (5, .ref (al 4)), (6, .ref (al 5)), (7, .ref (al 6)), (8, .ref (al 7)), (9, .ref (al 8)), (10, .ref (al 9)), (11, .int y11), (12, .int y12), (14, .int x14), (15, .int x15), (16, .int x16), (17, .int (nI j)), (18, .int far), (19, .int (nI t))]) hx hb dL_agree_335 hl (k := 13) rfl (by first | rfl | exact congrArg (_ + ·) (by decide)) (by decide) rfl (fun ls hl => ?_)
                                          refine lv_iload hx hb dL_agree_338 (lv_at hl 14 rfl) ?_
                                          refine lv_aload hx hb dL_agree_340 (lv_at hl 9 rfl) ?_
                                          refine lv_iconst (v := 5) hx hb dL_agree_342 (by decide) ?_
                                          refine lv_iload hx hb dL_agree_343 (lv_at hl 17 rfl) ?_
                                          refine lv_imul hx hb dL_agree_345 ?_
                                          refine va_iald (f := lqU (X 0)) hx hb hK hP 7 0 lwR_7 rfl (in_nI (ux0) (by omega) (by decide)) dL_agree_346 ?_
                                          refine W_top (v' := .int (sl (X 0) j 6)) (congrArg Value.int (vU (ux0) (by omega) (by omega))) ?_
                                          refine lv_iadd hx hb dL_agree_347 ?_
                                          refine lv_istore (lv' := [(14, .int (x14 + (sl (X 0) j 6))), (13, .int (x13 + 1)), (0, .ref (ad 0)), (1, .ref (al 0)), (2, .ref (al 1)), (3, .ref (al 2)), (4, .ref (al 3)), (5, .ref (al 4)), (6, .ref (al 5)), (7, .ref (al 6)), (8, .ref (al 7)), (9, .ref (al 8)), (10, .ref (al 9)), (11, .int y11), (12, .int y12), (15, .int x15), (16, .int x16), (17, .int (nI j)), (18, .int far), (19, .int (nI t))]) hx hb dL_agree_348 hl (by decide) rfl (fun ls hl => ?_)
                                          refine lv_iload hx hb dL_agree_350 (lv_at hl 16 rfl) ?_
                                          refine lv_aload hx hb dL_agree_352 (lv_at hl 10 rfl) ?_
                                          refine lv_iconst (v := 5) hx hb dL_agree_354 (by decide) ?_
                                          refine lv_iload hx hb dL_agree_355 (lv_at hl 17 rfl) ?_
                                          refine lv_imul hx hb dL_agree_357 ?_
                                          refine lv_iconst (v := 1) hx hb dL_agree_358 (by decide) ?_
                                          refine lv_iadd hx hb dL_agree_359 ?_
                                          refine va_iald (f := lqU (X 0)) hx hb hK hP 7 0 lwR_7 rfl (in_nI (ux (x := 1) (r := 1) rfl) (by omega) (by decide)) dL_agree_360 ?_
                                          refine W_top (v' := .int (sl (X 0) j 7)) (congrArg Value.int (vU (ux (x := 1) (r := 1) rfl) (by omega) (by omega))) ?_
                                          refine lv_iadd hx hb dL_agree_361 ?_
                                          refine lv_istore (lv' := [(16, .int (x16 + (sl (X 0) j 7))), (14, .int (x14 + (sl (X 0) j 6))), (13, .int (x13 + 1)), (0, .ref (ad 0)), (1, .ref (al 0)), (2, .ref (al 1)), (3, .ref (al 2)), (4, .ref (al 3)), (5, .ref (al 4)), (6, .ref (al 5)), (7, .ref (al 6)), (8, .ref (al 7)), (9, .ref (al 8)), (10, .ref (al 9)), (11, .int y11), (12, .int y12), (15, .int x15), (17, .int (nI j)), (18, .int far), (19, .int (nI t))]) hx hb dL_agree_362 hl (by decide) rfl (fun ls hl => ?_)
                                          refine lv_iload hx hb dL_agree_364 (lv_at hl 16 rfl) ?_
                                          refine lv_aload hx hb dL_agree_366 (lv_at hl 11 rfl) ?_
                                          refine lv_iconst (v := 5) hx hb dL_agree_368 (by decide) ?_
                                          refine lv_iload hx hb dL_agree_369 (lv_at hl 17 rfl) ?_
                                          refine lv_imul hx hb dL_agree_371 ?_
                                          refine lv_iconst (v := 2) hx hb dL_agree_372 (by decide) ?_
                                          refine lv_iadd hx hb dL_agree_373 ?_
                                          refine va_iald (f := lqU (X 0)) hx hb hK hP 7 0 lwR_7 rfl (in_nI (ux (x := 2) (r := 2) rfl) (by omega) (by decide)) dL_agree_374 ?_
                                          refine W_top (v' := .int (sl (X 0) j 8)) (congrArg Value.int (vU (ux (x := 2) (r := 2) rfl) (by omega) (by omega))) ?_
                                          refine lv_iadd hx hb dL_agree_375 ?_
                                          refine lv_istore (lv' := [(15, .int (x15 + (sl (X 0) j 8))), (16, .int (x16 + (sl (X 0) j 7))), (14, .int (x14 + (sl (X 0) j 6))), (13, .int (x13 + 1)), (0, .ref (ad 0)), (1, .ref (al 0)), (2, .ref (al 1)), (3, .ref (al 2)), (4, .ref (al 3)), (5, .ref (al 4)), (6, .ref (al 5)), (7, .ref (al 6)), (8, .ref (al 7)), (9, .ref (al 8)), (10, .ref (al 9)), (11, .int y11), (12, .int y12), (17, .int (nI j)), (18, .int far), (19, .int (nI t))]) hx hb dL_agree_376 hl (by decide) rfl (fun ls hl => ?_)
                                          refine lv_iinc (v := nI (j + 1)) (lv' := [(17, .int (nI (j + 1))), (15, .int (x15 + (sl (X 0) j 8))), (16, .int (x16 + (sl (X 0) j 7))), (14, .int (x14 + (sl (X 0) j 6))), (13, .int (x13 + 1)), (0, .ref (ad 0)), (1, .ref (al 0)), (2, .ref (al 1)), (3, .ref (al 2)), (4, .ref (al 3)), (5, .ref (al 4)), (6, .ref (al 5)), (7, .ref (al 6)), (8, .ref (al 7)), (9, .ref (al 8)), (10, .ref (al 9)), (11, .int y11), (12, .int y12), (18, .int far), (19, .int (nI t))]) hx hb dL_agree_378 hl (k := 17) rfl (nI_1 j) (by decide) rfl (fun ls hl => ?_)
                                          refine lv_goto (tgt := 21) hx hb dL_agree_381 (by decide) ?_
                                          exact ih21 (j + 1) y11 y12 (x13 + 1) (x14 + (sl (X 0) j 6)) (x15 + (sl (X 0) j 8)) (x16 + (sl (X 0) j 7)) (by omega) (hr11) (hr12) (fold_1 (if_pos c_26) h13) (fold_1 (congrArg (x14 + ·) pr_6) h14) (fold_1 (congrArg (x15 + ·) pr_8) h15) (fold_1 (congrArg (x16 + ·) pr_7) h16) ls (lv_sub hl [5, 6, 7, 8, 9, 10, 11, 12, 13, 14, 15, 16, 17, 4, 3, 1, 2, 0] rfl)
                                      · exact absurd c_25 (fun h => h (cnt_ge (N := 24) (j := t) rfl rfl (by omega) (by omega)))
                                    | succ n2 ih265 =>
                                      intro t y11 y12 ht hr11 hr12  ls hl
                                      refine lv_iload hx hb dL_agree_265 (lv_at hl 19 rfl) ?_
                                      refine lv_bipush (v := 24) hx hb dL_agree_267 (by decide) ?_
                                      refine lv_icmp_ge (tgt := 324) hx hb dL_agree_269 (by decide) (fun c_27 => ?_) (fun c_27 => ?_)
                                      · exact absurd c_27 (cnt_nge (N := 24) (j := t) rfl rfl (by decide) (by omega))
                                      · skip
                                        replace c_27 := nge_l c_27
                                        refine lv_aload hx hb dL_agree_272 (lv_at hl 9 rfl) ?_
                                        refine lv_aload hx hb dL_agree_274 (lv_at hl 10 rfl) ?_
                                        refine lv_iload hx hb dL_agree_276 (lv_at hl 17 rfl) ?_
                                        refine lv_iload hx hb dL_agree_278 (lv_at hl 19 rfl) ?_
                                        refine cs_p (runS (As := [.ref (al 8), .ref (al 9), .int (nI j), .int (nI t)]) (rest := []) ⟨hx, hb, hml, hown, hts⟩ (m_L_wear l D kA al (X 0) (X 8 1) j t (by omega) (by omega)) q_202 q_203 q_0 q_204 hd_L_wear ⟨rfl, rfl⟩ ⟨Nat.le_of_ble_eq_true rfl, Nat.le_of_ble_eq_true rfl⟩ hK (ws := (lqW kA al (X 0) (X 8 1))) hP.l hD.lf rfl hl.1 rfl (Nat.le_of_ble_eq_true rfl) dL_agree_280 ⟨Nat.zero_le _, Nat.zero_le _⟩) ?_
                                        refine lv_istore (lv' := [(20, .int (gwr (sl (X 0) j) (nI t))), (0, .ref (ad 0)), (1, .ref (al 0)), (2, .ref (al 1)), (3, .ref (al 2)), (4, .ref (al 3)), (5, .ref (al 4)), (6, .ref (al 5)), (7, .ref (al 6)), (8, .ref (al 7)), (9, .ref (al 8)), (10, .ref (al 9)), (11, .int y11), (12, .int y12), (13, .int x13), (14, .int x14), (15, .int x15), (16, .int x16), (17, .int (nI j)), (18, .int far), (19, .int (nI t))]) hx hb dL_agree_283 hl (by decide) rfl (fun ls hl => ?_)
                                        refine lv_aload_n hx hb dL_agree_285 rfl (lv_at hl 1 rfl) ?_
                                        refine lv_iload hx hb dL_agree_286 (lv_at hl 18 rfl) ?_
                                        refine lv_iload hx hb dL_agree_288 (lv_at hl 20 rfl) ?_
                                        refine cs_p (runV (As := [.int (nI j), .int (nI t)]) (rest := []) ⟨hx, hb, hml, hown, hts⟩ (m_X5_wear_p l D kA ad X j (nI j) (nI t) (rfl) (by omega) (nI_pos (by omega)) ((nI_ltI (b := 24) (by omega) (by omega)).mpr (by omega))) q_540 q_541 q_542 q_1 q_543 hd_X5_wear ⟨rfl, rfl⟩ ⟨Nat.le_of_ble_eq_true rfl, Nat.le_of_ble_eq_true rfl⟩ hK (ws := (cw kA ad X)) hP.r hD.rt _ (ci := 5) (C := RX5) (T := TX5) (N := 6) rfl cw_arm rfl hl.1 rfl (Nat.le_of_ble_eq_true rfl) dL_agree_290 ⟨Nat.zero_le _, Nat.zero_le _⟩) ?_
                                        refine lv_iload hx hb dL_agree_293 (lv_at hl 0 rfl) ?_
                                        refine lv_icmp_eq (tgt := 300) hx hb dL_agree_295 (by decide) (fun c_28 => ?_) (fun c_28 => ?_)
                                        · skip
                                          refine lv_iload hx hb dL_agree_300 (lv_at hl 12 rfl) ?_
                                          refine lv_iload hx hb dL_agree_302 (lv_at hl 0 rfl) ?_
                                          refine lv_iadd hx hb dL_agree_304 ?_
                                          refine lv_istore (lv' := [(11, .int (y11 + (gwr (sl (X 0) j) (nI t)))), (20, .int (gwr (sl (X 0) j) (nI t))), (0, .ref (ad 0)), (1, .ref (al 0)), (2, .ref (al 1)), (3, .ref (al 2)), (4, .ref (al 3)), (5, .ref (al 4)), (6, .ref (al 5)), (7, .ref (al 6)), (8, .ref (al 7)), (9, .ref (al 8)), (10, .ref (al 9)), (12, .int y12), (13, .int x13), (14, .int x14), (15, .int x15), (16, .int x16), (17, .int (nI j)), (18, .int far), (19, .int (nI t))]) hx hb dL_agree_305 hl (by decide) rfl (fun ls hl => ?_)
                                          refine lv_iload hx hb dL_agree_307 (lv_at hl 1 rfl) ?_
                                          refine lv_aload_n hx hb dL_agree_309 rfl (lv_at hl 3 rfl) ?_
                                          refine lv_iconst (v := 5) hx hb dL_agree_310 (by decide) ?_
                                          refine va_iald (f := lqN (X 0) (X 8 1)) hx hb hK hP 0 0 lwR_0 rfl (in_nI (j := 5) rfl (by omega) (by decide)) dL_agree_311 ?_
                                          refine W_top (v' := .int ((X 0) 2)) (rfl) ?_
                                          refine lv_icmp_lt (tgt := 318) hx hb dL_agree_312 (by decide) (fun c_29 => ?_) (fun c_29 => ?_)
                                          · skip
                                            refine lv_iinc (v := nI (t + 1)) (lv' := [(19, .int (nI (t + 1))), (11, .int (y11 + (gwr (sl (X 0) j) (nI t)))), (20, .int (gwr (sl (X 0) j) (nI t))), (0, .ref (ad 0)), (1, .ref (al 0)), (2, .ref (al 1)), (3, .ref (al 2)), (4, .ref (al 3)), (5, .ref (al 4)), (6, .ref (al 5)), (7, .ref (al 6)), (8, .ref (al 7)), (9, .ref (al 8)), (10, .ref (al 9)), (12, .int y12), (13, .int x13), (14, .int x14), (15, .int x15), (16, .int x16), (17, .int (nI j)), (18, .int far)]) hx hb dL_agree_318 hl (k := 20) rfl (nI_1 t) (by decide) rfl (fun ls hl => ?_)
                                            refine lv_goto (tgt := 265) hx hb dL_agree_321 (by decide) ?_
                                            exact ih265 (t + 1) (y11 + (gwr (sl (X 0) j) (nI t))) y12 (by omega) (fold_2 (k := fun t s => s + gwr (sl (X 0) j) (nI t)) rfl hr11) (fold_2 (k := fun t s => if gwr (sl (X 0) j) (nI t) < X 0 2 then s else s + 1) (if_pos c_29) hr12) ls (lv_sub hl [3, 4, 5, 6, 7, 8, 9, 10, 11, 12, 13, 1, 14, 15, 16, 17, 18, 19, 20, 0] rfl)
                                          · skip
                                            refine lv_iinc (v := y12 + 1) (lv' := [(12, .int (y12 + 1)), (11, .int (y11 + (gwr (sl (X 0) j) (nI t)))), (20, .int (gwr (sl (X 0) j) (nI t))), (0, .ref (ad 0)), (1, .ref (al 0)), (2, .ref (al 1)), (3, .ref (al 2)), (4, .ref (al 3)), (5, .ref (al 4)), (6, .ref (al 5)), (7, .ref (al 6)), (8, .ref (al 7)), (9, .ref (al 8)), (10, .ref (al 9)), (13, .int x13), (14, .int x14), (15, .int x15), (16, .int x16), (17, .int (nI j)), (18, .int far), (19, .int (nI t))]) hx hb dL_agree_315 hl (k := 13) rfl (by first | rfl | exact congrArg (_ + ·) (by decide)) (by decide) rfl (fun ls hl => ?_)
                                            refine lv_iinc (v := nI (t + 1)) (lv' := [(19, .int (nI (t + 1))), (12, .int (y12 + 1)), (11, .int (y11 + (gwr (sl (X 0) j) (nI t)))), (20, .int (gwr (sl (X 0) j) (nI t))), (0, .ref (ad 0)), (1, .ref (al 0)), (2, .ref (al 1)), (3, .ref (al 2)), (4, .ref (al 3)), (5, .ref (al 4)), (6, .ref (al 5)), (7, .ref (al 6)), (8, .ref (al 7)), (9, .ref (al 8)), (10, .ref (al 9)), (13, .int x13), (14, .int x14), (15, .int x15), (16, .int x16), (17, .int (nI j)), (18, .int far)]) hx hb dL_agree_318 hl (k := 20) rfl (nI_1 t) (by decide) rfl (fun ls hl => ?_)
                                            refine lv_goto (tgt := 265) hx hb dL_agree_321 (by decide) ?_
                                            exact ih265 (t + 1) (y11 + (gwr (sl (X 0) j) (nI t))) (y12 + 1) (by omega) (fold_2 (k := fun t s => s + gwr (sl (X 0) j) (nI t)) rfl hr11) (fold_2 (k := fun t s => if gwr (sl (X 0) j) (nI t) < X 0 2 then s else s + 1) (if_neg c_29) hr12) ls (lv_sub hl [4, 5, 6, 7, 8, 9, 10, 11, 12, 13, 14, 2, 1, 15, 16, 17, 18, 19, 20, 0] rfl)
                                        · exact absurd c_28 (fun h => h rfl)
                                  exact loop_265 24 0 x11 x12 (by omega) (h11) (h12) ls (lv_sub hl [2, 3, 4, 5, 6, 7, 8, 9, 10, 11, 12, 13, 14, 15, 16, 17, 18, 19, 1, 0] rfl)
                                · exact absurd c_24 (fun h => h pr_11)
                      · exact absurd c_19 (fun h => h (by rw [e_far]; exact far_d (hI.2 j (by omega))))
                    refine lv_icmp_le (tgt := 155) hx hb dL_agree_144 (by decide) (fun c_30 => ?_) (fun c_30 => ?_)
                    · skip
                      replace c_30 := ge_n c_30
                      refine lv_iload hx hb dL_agree_155 (lv_at hl 0 rfl) ?_
                      exact jn_144_17 _ (by rw [if_neg c_30])
                    · skip
                      replace c_30 := nge_l c_30
                      refine lv_bipush (v := 24) hx hb dL_agree_147 (by decide) ?_
                      refine lv_iload hx hb dL_agree_149 (lv_at hl 0 rfl) ?_
                      refine lv_isub hx hb dL_agree_151 ?_
                      refine lv_goto (tgt := 157) hx hb dL_agree_152 (by decide) ?_
                      exact jn_144_17 _ (by rw [if_pos c_30])
  exact loop_21 4 0 0 0 0 0 0 0 (by omega) (rfl) (rfl) (rfl) (rfl) (rfl) (rfl) ls (lv_sub hl [7, 8, 9, 10, 11, 12, 13, 14, 15, 16, 17, 6, 5, 4, 3, 2, 1, 0] rfl)
