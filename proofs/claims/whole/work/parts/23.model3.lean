
def dN (c tg : Nat) (up : Bool) : Nat := if up = true then (tg + 24 - c) % 24 else (c + 24 - tg) % 24
def cN (c : Nat) (up : Bool) : Nat := if up = true then (c + 1) % 24 else (c + 23) % 24
theorem nI_ne24 {c tg : Nat} (hc : c < 24) (ht : tg < 24) (h : nI c = nI tg) : c = tg := by
  have e := congrArg Int32.toNatClampNeg h
  rwa [nI_clamp (by omega), nI_clamp (by omega)] at e
theorem dN_z {x p : Int32} {c tg : Nat} {up : Bool} (e : x = nI c) (hp : p = nI tg) (hc : c < 24) (ht : tg < 24) (hd : dN c tg up = 0) : x = p := by
  have : c = tg := by unfold dN at hd; cases up <;> simp only [if_true, Bool.false_eq_true, if_false] at hd <;> omega
  rw [e, hp, this]
theorem dN_ne {x p : Int32} {c tg n : Nat} {up : Bool} (e : x = nI c) (hp : p = nI tg) (hc : c < 24) (ht : tg < 24) (hd : dN c tg up = n + 1) : ¬ x = p := fun h => by
  have hct : c = tg := nI_ne24 hc ht (by rw [← e, ← hp]; exact h)
  subst hct
  unfold dN at hd
  cases up <;> simp only [if_true, Bool.false_eq_true, if_false] at hd <;> omega
theorem dN_lt {c tg : Nat} {up : Bool} : dN c tg up < 24 := by unfold dN; split <;> omega
theorem dN_s {c tg n : Nat} {up : Bool} (hc : c < 24) (ht : tg < 24) (hd : dN c tg up = n + 1) : dN (cN c up) tg up = n := by
  unfold dN at hd; unfold dN cN
  cases up <;> simp only [if_true, Bool.false_eq_true, if_false] at hd ⊢ <;> omega
theorem cN_lt {c : Nat} {up : Bool} : cN c up < 24 := by unfold cN; split <;> omega
theorem nW_c {x : Int32} {c : Nat} (e : x = nI c) (hc : c < 24) (up : Bool) : nW x (wI up) = nI (cN c up) := by
  subst e
  revert c
  cases up <;> decide +kernel
theorem tW_c {x : Int32} {c : Nat} (e : x = nI c) (hc : c < 24) (up : Bool) : tW x (wI up) = nI (tW x (wI up)).toNatClampNeg ∧ (tW x (wI up)).toNatClampNeg < 24 := by
  obtain ⟨k, h3, h4⟩ := tW_in e hc up
  rw [clamp_j h4 (by omega)]; exact ⟨h4, h3⟩
theorem sub0 (x : Int32) : x - 0 = x := Int32.sub_zero x
theorem sub_m1 (x y : Int32) : x - y + -1 = x - (y + 1) := by
  rw [Int32.sub_eq_add_neg x y, Int32.sub_eq_add_neg x (y + 1), Int32.neg_add, Int32.sub_eq_add_neg (-y) 1, Int32.add_assoc]
theorem co_s {G R : Nat → Int32} {tg w wo q md sm r : Int32} {kf : Nat} (hk : 0 < kf) (hne : ¬ q = tg) (h : coL G R tg w wo kf q md sm = r) : coL G R tg w wo (kf - 1) (nW q w) (md + 1) (sm + tlF (G 2) (if tW q w = wo then 0 else gwr G (tW q w)) (G 5 - md) (R 1)) = r := by
  cases kf with
  | zero => exact absurd hk (by omega)
  | succ k => rw [coL, if_neg hne] at h; exact h
theorem co_e {G R : Nat → Int32} {tg w wo q md sm : Int32} {kf : Nat} (hk : 0 < kf) (he : q = tg) : coL G R tg w wo kf q md sm = sm := by
  cases kf with
  | zero => exact absurd hk (by omega)
  | succ k => rw [coL, if_pos he]
def guF (z : Nat → Int32) (a : Nat) (q wo : Int32) : Bool := if costG (sl z a) z q (wI false) wo < costG (sl z a) z q (wI true) wo then false else true
theorem wG {z : Nat → Int32} {a : Nat} {q wo : Int32} (h : wo = -1) : chF z a q = wI (guF z a q wo) := by
  subst h
  unfold chF guF
  rw [wI_f, wI_t]
  split <;> rfl
theorem hd_X6_costNow : yX6_costNow.cls ≠ "java/lang/invoke/MethodHandle" ∧ yX6_costNow.cls ≠ "java/lang/invoke/VarHandle" ∧ (parseMethodDescriptor yX6_costNow.desc).map (fun d => d.parameters.length) = some 3 := by decide +kernel
set_option maxRecDepth 100000 in
set_option maxHeartbeats 4000000 in
theorem m_X6_costNow (l : Launch) (D : va_G) (kA : Nat → Nat) (m0 : Nat) (m1 : Nat) (m2 : Nat) (m3 : Nat) (m4 : Nat) (m5 : Nat) (z : Nat → Int32) (h : Nat → Int32) (tx : Nat → Int32) (pt : Nat → Int32) (kp : Nat → Int32) (st : Int32) (len : Int32) (th : Int32) (wo : Int32) (rd : Int32) (nu : Int32) (du : Int32) (hs : Int64) (a : Nat) (up : Bool) (p1 : Int32) (tg : Nat) (hI : Inv z) (ha : a < 4) (hp : p1 = nI tg) (htg : tg < 24) : Met l yX6_costNow (Cond.code yX6_costNow cX6_costNow 8 (some .int) :: AW) ({ frames := 2, cells := 0, slots := 0, locals := 46 } : Room) (Pz [.ref m0, .int (nI a), .int p1, .int (bI up)] D (TY kA) [(m0, .inr (6, [.ref m1, .int st, .ref m2, .int len, .ref m3, .int th, .int wo, .ref m4, .int rd, .int nu, .int du, .ref m5, .long hs])), (m1, .inl (kA 0, 148, .inl z)), (m2, .inl (kA 0, 888, .inl h)), (m3, .inl (kA 0, 60, .inl tx)), (m4, .inl (kA 0, 72, .inl pt)), (m5, .inl (kA 0, 148, .inl kp))]) (pQ (some (.int (costG (sl z a) z p1 (wI up) wo)))) 0 0 (fun _ => False) := by
  refine MetZ (by decide +kernel) (Nat.le_of_ble_eq_true rfl) ?_
  intro p e s m below meth c ls hx hb hrt hts hown hml hlk hnm hP hK hD hS hl
  have hl : lv_has ls 8 [(0, .ref m0), (1, .int (nI a)), (2, .int p1), (3, .int (bI up))] := hl
  refine lv_aload_n hx hb dX6_costNow_0 rfl (lv_at hl 0 rfl) ?_
  refine lv_iload_n hx hb dX6_costNow_1 rfl (lv_at hl 1 rfl) ?_
  refine lv_iconst (v := 1) hx hb dX6_costNow_2 (by decide) ?_
  refine cs_p (runV (As := [.int (nI a), .int 1]) (rest := []) ⟨hx, hb, hml, hown, hts⟩ (m_X6_of l D kA m0 m1 m2 m3 m4 m5 z h tx pt kp st len th wo rd nu du hs a 1 1 (rfl) (by omega) (ha)) q_833 q_835 qp_23 q_7 q_836 hd_X6_of ⟨rfl, rfl⟩ ⟨Nat.le_of_ble_eq_true rfl, Nat.le_of_ble_eq_true rfl⟩ hK (ws := [(m0, .inr (6, [.ref m1, .int st, .ref m2, .int len, .ref m3, .int th, .int wo, .ref m4, .int rd, .int nu, .int du, .ref m5, .long hs])), (m1, .inl (kA 0, 148, .inl z)), (m2, .inl (kA 0, 888, .inl h)), (m3, .inl (kA 0, 60, .inl tx)), (m4, .inl (kA 0, 72, .inl pt)), (m5, .inl (kA 0, 148, .inl kp))]) (hP.sub [0, 1, 2, 3, 4, 5] rfl) (hD.sub [0, 1, 2, 3, 4, 5] (by decide) rfl) 0 (ci := 6) (C := RX6) (T := TX6) (N := 13) rfl rfl rfl hl.1 rfl (Nat.le_of_ble_eq_true rfl) dX6_costNow_3 ⟨Nat.zero_le _, Nat.zero_le _⟩) ?_
  refine lv_istore (lv' := [(4, .int (sl z a 1)), (0, .ref m0), (1, .int (nI a)), (2, .int p1), (3, .int (bI up))]) hx hb dX6_costNow_6 hl (by decide) rfl (fun ls hl => ?_)
  refine lv_aload_n hx hb dX6_costNow_8 rfl (lv_at hl 1 rfl) ?_
  refine lv_iload_n hx hb dX6_costNow_9 rfl (lv_at hl 2 rfl) ?_
  refine lv_iconst (v := 5) hx hb dX6_costNow_10 (by decide) ?_
  refine cs_p (runV (As := [.int (nI a), .int 5]) (rest := []) ⟨hx, hb, hml, hown, hts⟩ (m_X6_of l D kA m0 m1 m2 m3 m4 m5 z h tx pt kp st len th wo rd nu du hs a 5 5 (rfl) (by omega) (ha)) q_833 q_835 qp_23 q_7 q_836 hd_X6_of ⟨rfl, rfl⟩ ⟨Nat.le_of_ble_eq_true rfl, Nat.le_of_ble_eq_true rfl⟩ hK (ws := [(m0, .inr (6, [.ref m1, .int st, .ref m2, .int len, .ref m3, .int th, .int wo, .ref m4, .int rd, .int nu, .int du, .ref m5, .long hs])), (m1, .inl (kA 0, 148, .inl z)), (m2, .inl (kA 0, 888, .inl h)), (m3, .inl (kA 0, 60, .inl tx)), (m4, .inl (kA 0, 72, .inl pt)), (m5, .inl (kA 0, 148, .inl kp))]) (hP.sub [0, 1, 2, 3, 4, 5] rfl) (hD.sub [0, 1, 2, 3, 4, 5] (by decide) rfl) 0 (ci := 6) (C := RX6) (T := TX6) (N := 13) rfl rfl rfl hl.1 rfl (Nat.le_of_ble_eq_true rfl) dX6_costNow_11 ⟨Nat.zero_le _, Nat.zero_le _⟩) ?_
  refine lv_istore (lv' := [(5, .int (sl z a 5)), (4, .int (sl z a 1)), (0, .ref m0), (1, .int (nI a)), (2, .int p1), (3, .int (bI up))]) hx hb dX6_costNow_14 hl (by decide) rfl (fun ls hl => ?_)
  refine lv_iconst (v := 0) hx hb dX6_costNow_16 (by decide) ?_
  refine lv_istore (lv' := [(6, .int 0), (5, .int (sl z a 5)), (4, .int (sl z a 1)), (0, .ref m0), (1, .int (nI a)), (2, .int p1), (3, .int (bI up))]) hx hb dX6_costNow_17 hl (by decide) rfl (fun ls hl => ?_)
  have loop_19 : ∀ (n : Nat) (cq : Nat) (kf : Nat) (md : Int32) (x4 : Int32) (x5 : Int32) (x6 : Int32) (e4 : x4 = nI cq) (hc : cq < 24) (e5 : x5 = sl z a 5 - md) (hd : dN cq tg up = n) (hk : n < kf) (hres : coL (sl z a) z p1 (wI up) wo kf x4 md x6 = costG (sl z a) z p1 (wI up) wo), ∀ ls : Array Slot, lv_has ls 8 [(0, .ref m0), (1, .int (nI a)), (2, .int p1), (3, .int (bI up)), (4, .int x4), (5, .int x5), (6, .int x6)] → W p l e ({ frames := 2, cells := 0, slots := 0, locals := 46 } : Room) s m [.ref m0, .int (nI a), .int p1, .int (bI up)].toArray below meth c s.heap [] 0 0 (MQ below (pQ (some (.int (costG (sl z a) z p1 (wI up) wo)))) [.ref m0, .int (nI a), .int p1, .int (bI up)].toArray s 0 0 (fun _ => False)) (F0 m 19 ls []) := by
    clear hl
    intro n
    induction n with
    | zero =>
      intro cq kf md x4 x5 x6 e4 hc e5 hd hk hres  ls hl
      refine lv_iload hx hb dX6_costNow_19 (lv_at hl 4 rfl) ?_
      refine lv_iload_n hx hb dX6_costNow_21 rfl (lv_at hl 2 rfl) ?_
      refine lv_icmp_eq (tgt := 82) hx hb dX6_costNow_22 (by decide) (fun c_1 => ?_) (fun c_1 => ?_)
      · skip
        refine lv_iload hx hb dX6_costNow_82 (lv_at hl 6 rfl) ?_
        exact end_pi hx hb hrt hlk (by rw [← hres]; exact (co_e (by omega) c_1).symm) dX6_costNow_84
      · exact absurd c_1 (fun hh => hh (dN_z e4 hp hc htg hd))
    | succ n ih19 =>
      intro cq kf md x4 x5 x6 e4 hc e5 hd hk hres  ls hl
      refine lv_iload hx hb dX6_costNow_19 (lv_at hl 4 rfl) ?_
      refine lv_iload_n hx hb dX6_costNow_21 rfl (lv_at hl 2 rfl) ?_
      refine lv_icmp_eq (tgt := 82) hx hb dX6_costNow_22 (by decide) (fun c_2 => ?_) (fun c_2 => ?_)
      · exact absurd c_2 (dN_ne e4 hp hc htg hd)
      · skip
        refine lv_iload hx hb dX6_costNow_25 (lv_at hl 4 rfl) ?_
        refine lv_iload_n hx hb dX6_costNow_27 rfl (lv_at hl 3 rfl) ?_
        refine cs_p (runS (As := [.int x4, .int (bI up)]) (rest := []) ⟨hx, hb, hml, hown, hts⟩ (m_X6_toothFrom l D kA x4 cq up (e4) (hc)) q_867 q_868 q_7 q_869 hd_X6_toothFrom ⟨rfl, rfl⟩ ⟨Nat.le_of_ble_eq_true rfl, Nat.le_of_ble_eq_true rfl⟩ hK (ws := []) (hP.sub [] rfl) (hD.sub [] (by decide) rfl) rfl hl.1 rfl (Nat.le_of_ble_eq_true rfl) dX6_costNow_28 ⟨Nat.zero_le _, Nat.zero_le _⟩) ?_
        refine lv_istore (lv' := [(7, .int (tW x4 (wI up))), (0, .ref m0), (1, .int (nI a)), (2, .int p1), (3, .int (bI up)), (4, .int x4), (5, .int x5), (6, .int x6)]) hx hb dX6_costNow_31 hl (by decide) rfl (fun ls hl => ?_)
        refine lv_iload hx hb dX6_costNow_33 (lv_at hl 7 rfl) ?_
        refine lv_aload_n hx hb dX6_costNow_35 rfl (lv_at hl 1 rfl) ?_
        refine lv_iload_n hx hb dX6_costNow_36 rfl (lv_at hl 2 rfl) ?_
        refine lv_iload hx hb dX6_costNow_37 (lv_at hl 0 rfl) ?_
        refine lv_aload_n hx hb dX6_costNow_39 rfl (lv_at hl 1 rfl) ?_
        refine va_get (ci := 6) (v := .int wo) (C := RX6) (T := TX6) (N := 13) hx hb hts inX6 hown hK hP 0 rfl rfl 6 (by decide) (hts _ q_776) (fun _ h9 => h9) rfl dX6_costNow_40 ?_
        have jn_43_2 : ∀ v : Int32, v = (if (tW x4 (wI up)) = wo then 0 else gwr (sl z a) (tW x4 (wI up))) → W p l e ({ frames := 2, cells := 0, slots := 0, locals := 46 } : Room) s m [.ref m0, .int (nI a), .int p1, .int (bI up)].toArray below meth c s.heap [] 0 0 (MQ below (pQ (some (.int (costG (sl z a) z p1 (wI up) wo)))) [.ref m0, .int (nI a), .int p1, .int (bI up)].toArray s 0 0 (fun _ => False)) (F0 m 60 ls (.int v :: [.int (nI a), .ref m0, .int x6])) := by
          intro v ev
          subst ev
          refine lv_iload hx hb dX6_costNow_60 (lv_at hl 6 rfl) ?_
          refine cs_p (runV (As := [.int (nI a), .int (if (tW x4 (wI up)) = wo then 0 else gwr (sl z a) (tW x4 (wI up))), .int x5]) (rest := [.int x6]) ⟨hx, hb, hml, hown, hts⟩ (m_X6_tollBy l D kA m0 m1 m2 m3 m4 m5 z h tx pt kp st len th wo rd nu du hs a (if (tW x4 (wI up)) = wo then 0 else gwr (sl z a) (tW x4 (wI up))) x5 (hI) (ha)) q_870 q_872 qp_28 q_7 q_873 hd_X6_tollBy ⟨rfl, rfl⟩ ⟨Nat.le_of_ble_eq_true rfl, Nat.le_of_ble_eq_true rfl⟩ hK (ws := [(m0, .inr (6, [.ref m1, .int st, .ref m2, .int len, .ref m3, .int th, .int wo, .ref m4, .int rd, .int nu, .int du, .ref m5, .long hs])), (m1, .inl (kA 0, 148, .inl z)), (m2, .inl (kA 0, 888, .inl h)), (m3, .inl (kA 0, 60, .inl tx)), (m4, .inl (kA 0, 72, .inl pt)), (m5, .inl (kA 0, 148, .inl kp))]) (hP.sub [0, 1, 2, 3, 4, 5] rfl) (hD.sub [0, 1, 2, 3, 4, 5] (by decide) rfl) 0 (ci := 6) (C := RX6) (T := TX6) (N := 13) rfl rfl rfl hl.1 rfl (Nat.le_of_ble_eq_true rfl) dX6_costNow_62 ⟨Nat.zero_le _, Nat.zero_le _⟩) ?_
          refine lv_iadd hx hb dX6_costNow_65 ?_
          refine lv_istore (lv' := [(6, .int (x6 + (tlF (sl z a 2) (if (tW x4 (wI up)) = wo then 0 else gwr (sl z a) (tW x4 (wI up))) x5 (z 1)))), (7, .int (tW x4 (wI up))), (0, .ref m0), (1, .int (nI a)), (2, .int p1), (3, .int (bI up)), (4, .int x4), (5, .int x5)]) hx hb dX6_costNow_66 hl (by decide) rfl (fun ls hl => ?_)
          refine lv_iinc (v := x5 + (-1)) (lv' := [(5, .int (x5 + (-1))), (6, .int (x6 + (tlF (sl z a 2) (if (tW x4 (wI up)) = wo then 0 else gwr (sl z a) (tW x4 (wI up))) x5 (z 1)))), (7, .int (tW x4 (wI up))), (0, .ref m0), (1, .int (nI a)), (2, .int p1), (3, .int (bI up)), (4, .int x4)]) hx hb dX6_costNow_68 hl (k := 7) rfl (by first | rfl | exact congrArg (_ + ·) (by decide)) (by decide) rfl (fun ls hl => ?_)
          refine lv_iload hx hb dX6_costNow_71 (lv_at hl 7 rfl) ?_
          refine lv_iload_n hx hb dX6_costNow_73 rfl (lv_at hl 6 rfl) ?_
          refine cs_p (runS (As := [.int x4, .int (bI up)]) (rest := []) ⟨hx, hb, hml, hown, hts⟩ (m_X6_next l D kA x4 cq up (e4) (hc)) q_890 q_891 q_7 q_892 hd_X6_next ⟨rfl, rfl⟩ ⟨Nat.le_of_ble_eq_true rfl, Nat.le_of_ble_eq_true rfl⟩ hK (ws := []) (hP.sub [] rfl) (hD.sub [] (by decide) rfl) rfl hl.1 rfl (Nat.le_of_ble_eq_true rfl) dX6_costNow_74 ⟨Nat.zero_le _, Nat.zero_le _⟩) ?_
          refine lv_istore (lv' := [(4, .int (nW x4 (wI up))), (5, .int (x5 + (-1))), (6, .int (x6 + (tlF (sl z a 2) (if (tW x4 (wI up)) = wo then 0 else gwr (sl z a) (tW x4 (wI up))) x5 (z 1)))), (7, .int (tW x4 (wI up))), (0, .ref m0), (1, .int (nI a)), (2, .int p1), (3, .int (bI up))]) hx hb dX6_costNow_77 hl (by decide) rfl (fun ls hl => ?_)
          refine lv_goto (tgt := 19) hx hb dX6_costNow_79 (by decide) ?_
          exact ih19 (cN cq up) (kf - 1) (md + 1) (nW x4 (wI up)) (x5 + (-1)) (x6 + (tlF (sl z a 2) (if (tW x4 (wI up)) = wo then 0 else gwr (sl z a) (tW x4 (wI up))) x5 (z 1))) (nW_c e4 hc up) (cN_lt) (by rw [e5]; exact sub_m1 _ _) (dN_s hc htg hd) (by omega) (by rw [e5]; exact co_s (by omega) (dN_ne e4 hp hc htg hd) hres) ls (lv_sub hl [4, 5, 6, 7, 0, 1, 2] rfl)
        refine lv_icmp_ne (tgt := 50) hx hb dX6_costNow_43 (by decide) (fun c_4 => ?_) (fun c_4 => ?_)
        · skip
          refine lv_aload_n hx hb dX6_costNow_50 rfl (lv_at hl 1 rfl) ?_
          refine lv_iload_n hx hb dX6_costNow_51 rfl (lv_at hl 2 rfl) ?_
          refine lv_bipush (v := 11) hx hb dX6_costNow_52 (by decide) ?_
          refine lv_iload hx hb dX6_costNow_54 (lv_at hl 0 rfl) ?_
          refine lv_iadd hx hb dX6_costNow_56 ?_
          refine cs_p (runV (As := [.int (nI a), .int (11 + (tW x4 (wI up)))]) (rest := [.int (nI a), .ref m0, .int x6]) ⟨hx, hb, hml, hown, hts⟩ (m_X6_of_w l D kA m0 m1 m2 m3 m4 m5 z h tx pt kp st len th wo rd nu du hs a (tW x4 (wI up)) ((tW x4 (wI up)).toNatClampNeg) ((tW_c e4 hc up).1) ((tW_c e4 hc up).2) (ha)) q_833 q_835 qp_23 q_7 q_836 hd_X6_of ⟨rfl, rfl⟩ ⟨Nat.le_of_ble_eq_true rfl, Nat.le_of_ble_eq_true rfl⟩ hK (ws := [(m0, .inr (6, [.ref m1, .int st, .ref m2, .int len, .ref m3, .int th, .int wo, .ref m4, .int rd, .int nu, .int du, .ref m5, .long hs])), (m1, .inl (kA 0, 148, .inl z)), (m2, .inl (kA 0, 888, .inl h)), (m3, .inl (kA 0, 60, .inl tx)), (m4, .inl (kA 0, 72, .inl pt)), (m5, .inl (kA 0, 148, .inl kp))]) (hP.sub [0, 1, 2, 3, 4, 5] rfl) (hD.sub [0, 1, 2, 3, 4, 5] (by decide) rfl) 0 (ci := 6) (C := RX6) (T := TX6) (N := 13) rfl rfl rfl hl.1 rfl (Nat.le_of_ble_eq_true rfl) dX6_costNow_57 ⟨Nat.zero_le _, Nat.zero_le _⟩) ?_
          exact jn_43_2 _ (by rw [if_neg c_4])
        · skip
          refine lv_iconst (v := 0) hx hb dX6_costNow_46 (by decide) ?_
          refine lv_goto (tgt := 60) hx hb dX6_costNow_47 (by decide) ?_
          exact jn_43_2 _ (by rw [if_pos c_4])
  exact loop_19 (dN (sl z a 1).toNatClampNeg tg up) ((sl z a 1).toNatClampNeg) 24 0 (sl z a 1) (sl z a 5) 0 ((hI.p1 ha).1) ((hI.p1 ha).2) ((sub0 _).symm) (rfl) (dN_lt) (rfl) ls (lv_sub hl [3, 4, 5, 6, 2, 1, 0] rfl)

theorem hd_X6_goesUp : yX6_goesUp.cls ≠ "java/lang/invoke/MethodHandle" ∧ yX6_goesUp.cls ≠ "java/lang/invoke/VarHandle" ∧ (parseMethodDescriptor yX6_goesUp.desc).map (fun d => d.parameters.length) = some 2 := by decide +kernel
set_option maxRecDepth 100000 in
set_option maxHeartbeats 4000000 in
theorem m_X6_goesUp (l : Launch) (D : va_G) (kA : Nat → Nat) (m0 : Nat) (m1 : Nat) (m2 : Nat) (m3 : Nat) (m4 : Nat) (m5 : Nat) (z : Nat → Int32) (h : Nat → Int32) (tx : Nat → Int32) (pt : Nat → Int32) (kp : Nat → Int32) (st : Int32) (len : Int32) (th : Int32) (wo : Int32) (rd : Int32) (nu : Int32) (du : Int32) (hs : Int64) (a : Nat) (p1 : Int32) (tg : Nat) (hI : Inv z) (ha : a < 4) (hp : p1 = nI tg) (htg : tg < 24) : Met l yX6_goesUp (Cond.code yX6_goesUp cX6_goesUp 3 (some .boolean) :: AW) ({ frames := 3, cells := 0, slots := 0, locals := 73 } : Room) (Pz [.ref m0, .int (nI a), .int p1] D (TY kA) [(m0, .inr (6, [.ref m1, .int st, .ref m2, .int len, .ref m3, .int th, .int wo, .ref m4, .int rd, .int nu, .int du, .ref m5, .long hs])), (m1, .inl (kA 0, 148, .inl z)), (m2, .inl (kA 0, 888, .inl h)), (m3, .inl (kA 0, 60, .inl tx)), (m4, .inl (kA 0, 72, .inl pt)), (m5, .inl (kA 0, 148, .inl kp))]) (pQ (some (.int (bI (guF z a p1 wo))))) 0 0 (fun _ => False) := by
  refine MetZ (by decide +kernel) (Nat.le_of_ble_eq_true rfl) ?_
  intro p e s m below meth c ls hx hb hrt hts hown hml hlk hnm hP hK hD hS hl
  have hl : lv_has ls 3 [(0, .ref m0), (1, .int (nI a)), (2, .int p1)] := hl
  refine lv_aload_n hx hb dX6_goesUp_0 rfl (lv_at hl 0 rfl) ?_
  refine lv_iload_n hx hb dX6_goesUp_1 rfl (lv_at hl 1 rfl) ?_
  refine lv_iload_n hx hb dX6_goesUp_2 rfl (lv_at hl 2 rfl) ?_
  refine lv_iconst (v := 1) hx hb dX6_goesUp_3 (by decide) ?_
  refine cs_p (runV (As := [.int (nI a), .int p1, .int (bI true)]) (rest := []) ⟨hx, hb, hml, hown, hts⟩ (m_X6_costNow l D kA m0 m1 m2 m3 m4 m5 z h tx pt kp st len th wo rd nu du hs a true p1 tg (hI) (ha) (hp) (htg)) q_908 q_910 qp_35 q_7 q_911 hd_X6_costNow ⟨rfl, rfl⟩ ⟨Nat.le_of_ble_eq_true rfl, Nat.le_of_ble_eq_true rfl⟩ hK (ws := [(m0, .inr (6, [.ref m1, .int st, .ref m2, .int len, .ref m3, .int th, .int wo, .ref m4, .int rd, .int nu, .int du, .ref m5, .long hs])), (m1, .inl (kA 0, 148, .inl z)), (m2, .inl (kA 0, 888, .inl h)), (m3, .inl (kA 0, 60, .inl tx)), (m4, .inl (kA 0, 72, .inl pt)), (m5, .inl (kA 0, 148, .inl kp))]) (hP.sub [0, 1, 2, 3, 4, 5] rfl) (hD.sub [0, 1, 2, 3, 4, 5] (by decide) rfl) 0 (ci := 6) (C := RX6) (T := TX6) (N := 13) rfl rfl rfl hl.1 rfl (Nat.le_of_ble_eq_true rfl) dX6_goesUp_4 ⟨Nat.zero_le _, Nat.zero_le _⟩) ?_
  refine lv_aload_n hx hb dX6_goesUp_7 rfl (lv_at hl 0 rfl) ?_
  refine lv_iload_n hx hb dX6_goesUp_8 rfl (lv_at hl 1 rfl) ?_
  refine lv_iload_n hx hb dX6_goesUp_9 rfl (lv_at hl 2 rfl) ?_
  refine lv_iconst (v := 0) hx hb dX6_goesUp_10 (by decide) ?_
  refine cs_p (runV (As := [.int (nI a), .int p1, .int (bI false)]) (rest := [.int (costG (sl z a) z p1 (wI true) wo)]) ⟨hx, hb, hml, hown, hts⟩ (m_X6_costNow l D kA m0 m1 m2 m3 m4 m5 z h tx pt kp st len th wo rd nu du hs a false p1 tg (hI) (ha) (hp) (htg)) q_908 q_910 qp_35 q_7 q_911 hd_X6_costNow ⟨rfl, rfl⟩ ⟨Nat.le_of_ble_eq_true rfl, Nat.le_of_ble_eq_true rfl⟩ hK (ws := [(m0, .inr (6, [.ref m1, .int st, .ref m2, .int len, .ref m3, .int th, .int wo, .ref m4, .int rd, .int nu, .int du, .ref m5, .long hs])), (m1, .inl (kA 0, 148, .inl z)), (m2, .inl (kA 0, 888, .inl h)), (m3, .inl (kA 0, 60, .inl tx)), (m4, .inl (kA 0, 72, .inl pt)), (m5, .inl (kA 0, 148, .inl kp))]) (hP.sub [0, 1, 2, 3, 4, 5] rfl) (hD.sub [0, 1, 2, 3, 4, 5] (by decide) rfl) 0 (ci := 6) (C := RX6) (T := TX6) (N := 13) rfl rfl rfl hl.1 rfl (Nat.le_of_ble_eq_true rfl) dX6_goesUp_11 ⟨Nat.zero_le _, Nat.zero_le _⟩) ?_
  refine lv_icmp_gt (tgt := 21) hx hb dX6_goesUp_14 (by decide) (fun c_1 => ?_) (fun c_1 => ?_)
  · skip
    refine lv_iconst (v := 0) hx hb dX6_goesUp_21 (by decide) ?_
    exact end_pz hx hb hrt hlk (by decide) (by rw [guF, if_pos c_1]; rfl) dX6_goesUp_22
  · skip
    refine lv_iconst (v := 1) hx hb dX6_goesUp_17 (by decide) ?_
    refine lv_goto (tgt := 22) hx hb dX6_goesUp_18 (by decide) ?_
    exact end_pz hx hb hrt hlk (by decide) (by rw [guF, if_neg c_1]; rfl) dX6_goesUp_22

theorem hd_X6_canGo : yX6_canGo.cls ≠ "java/lang/invoke/MethodHandle" ∧ yX6_canGo.cls ≠ "java/lang/invoke/VarHandle" ∧ (parseMethodDescriptor yX6_canGo.desc).map (fun d => d.parameters.length) = some 2 := by decide +kernel
set_option maxRecDepth 100000 in
set_option maxHeartbeats 4000000 in
theorem m_X6_canGo (l : Launch) (D : va_G) (kA : Nat → Nat) (m0 : Nat) (m1 : Nat) (m2 : Nat) (m3 : Nat) (m4 : Nat) (m5 : Nat) (z : Nat → Int32) (h : Nat → Int32) (tx : Nat → Int32) (pt : Nat → Int32) (kp : Nat → Int32) (st : Int32) (len : Int32) (th : Int32) (wo : Int32) (rd : Int32) (nu : Int32) (du : Int32) (hs : Int64) (a : Nat) (p1 : Int32) (tg : Nat) (hI : Inv z) (ha : a < 4) (hp : p1 = nI tg) (htg : tg < 24) (hwo : wo = -1) : Met l yX6_canGo (Cond.code yX6_canGo cX6_canGo 3 (some .boolean) :: AW) ({ frames := 4, cells := 0, slots := 0, locals := 95 } : Room) (Pz [.ref m0, .int (nI a), .int p1] D (TY kA) [(m0, .inr (6, [.ref m1, .int st, .ref m2, .int len, .ref m3, .int th, .int wo, .ref m4, .int rd, .int nu, .int du, .ref m5, .long hs])), (m1, .inl (kA 0, 148, .inl z)), (m2, .inl (kA 0, 888, .inl h)), (m3, .inl (kA 0, 60, .inl tx)), (m4, .inl (kA 0, 72, .inl pt)), (m5, .inl (kA 0, 148, .inl kp))]) (pQ (some (.int (bI (cgF z a p1))))) 0 0 (fun _ => False) := by
  refine MetZ (by decide +kernel) (Nat.le_of_ble_eq_true rfl) ?_
  intro p e s m below meth c ls hx hb hrt hts hown hml hlk hnm hP hK hD hS hl
  have hl : lv_has ls 3 [(0, .ref m0), (1, .int (nI a)), (2, .int p1)] := hl
  refine lv_aload_n hx hb dX6_canGo_0 rfl (lv_at hl 0 rfl) ?_
  refine lv_iload_n hx hb dX6_canGo_1 rfl (lv_at hl 1 rfl) ?_
  refine lv_iconst (v := 1) hx hb dX6_canGo_2 (by decide) ?_
  refine cs_p (runV (As := [.int (nI a), .int 1]) (rest := []) ⟨hx, hb, hml, hown, hts⟩ (m_X6_of l D kA m0 m1 m2 m3 m4 m5 z h tx pt kp st len th wo rd nu du hs a 1 1 (rfl) (by omega) (ha)) q_833 q_835 qp_23 q_7 q_836 hd_X6_of ⟨rfl, rfl⟩ ⟨Nat.le_of_ble_eq_true rfl, Nat.le_of_ble_eq_true rfl⟩ hK (ws := [(m0, .inr (6, [.ref m1, .int st, .ref m2, .int len, .ref m3, .int th, .int wo, .ref m4, .int rd, .int nu, .int du, .ref m5, .long hs])), (m1, .inl (kA 0, 148, .inl z)), (m2, .inl (kA 0, 888, .inl h)), (m3, .inl (kA 0, 60, .inl tx)), (m4, .inl (kA 0, 72, .inl pt)), (m5, .inl (kA 0, 148, .inl kp))]) (hP.sub [0, 1, 2, 3, 4, 5] rfl) (hD.sub [0, 1, 2, 3, 4, 5] (by decide) rfl) 0 (ci := 6) (C := RX6) (T := TX6) (N := 13) rfl rfl rfl hl.1 rfl (Nat.le_of_ble_eq_true rfl) dX6_canGo_3 ⟨Nat.zero_le _, Nat.zero_le _⟩) ?_
  refine lv_iload_n hx hb dX6_canGo_6 rfl (lv_at hl 2 rfl) ?_
  refine lv_icmp_eq (tgt := 24) hx hb dX6_canGo_7 (by decide) (fun c_1 => ?_) (fun c_1 => ?_)
  · skip
    refine lv_iconst (v := 1) hx hb dX6_canGo_24 (by decide) ?_
    refine lv_goto (tgt := 29) hx hb dX6_canGo_25 (by decide) ?_
    exact end_pz hx hb hrt hlk (by decide) (by rw [cgF, if_pos c_1]; rfl) dX6_canGo_29
  · skip
    refine lv_aload_n hx hb dX6_canGo_10 rfl (lv_at hl 0 rfl) ?_
    refine lv_iload_n hx hb dX6_canGo_11 rfl (lv_at hl 1 rfl) ?_
    refine lv_aload_n hx hb dX6_canGo_12 rfl (lv_at hl 0 rfl) ?_
    refine lv_iload_n hx hb dX6_canGo_13 rfl (lv_at hl 1 rfl) ?_
    refine lv_iload_n hx hb dX6_canGo_14 rfl (lv_at hl 2 rfl) ?_
    refine cs_p (runV (As := [.int (nI a), .int p1]) (rest := [.int (nI a), .ref m0]) ⟨hx, hb, hml, hown, hts⟩ (m_X6_goesUp l D kA m0 m1 m2 m3 m4 m5 z h tx pt kp st len th wo rd nu du hs a p1 tg (hI) (ha) (hp) (htg)) q_904 q_906 qp_34 q_7 q_907 hd_X6_goesUp ⟨rfl, rfl⟩ ⟨Nat.le_of_ble_eq_true rfl, Nat.le_of_ble_eq_true rfl⟩ hK (ws := [(m0, .inr (6, [.ref m1, .int st, .ref m2, .int len, .ref m3, .int th, .int wo, .ref m4, .int rd, .int nu, .int du, .ref m5, .long hs])), (m1, .inl (kA 0, 148, .inl z)), (m2, .inl (kA 0, 888, .inl h)), (m3, .inl (kA 0, 60, .inl tx)), (m4, .inl (kA 0, 72, .inl pt)), (m5, .inl (kA 0, 148, .inl kp))]) (hP.sub [0, 1, 2, 3, 4, 5] rfl) (hD.sub [0, 1, 2, 3, 4, 5] (by decide) rfl) 0 (ci := 6) (C := RX6) (T := TX6) (N := 13) rfl rfl rfl hl.1 rfl (Nat.le_of_ble_eq_true rfl) dX6_canGo_15 ⟨Nat.zero_le _, Nat.zero_le _⟩) ?_
    refine cs_p (runV (As := [.int (nI a), .int (bI (guF z a p1 wo))]) (rest := []) ⟨hx, hb, hml, hown, hts⟩ (m_X6_canStep l D kA m0 m1 m2 m3 m4 m5 z h tx pt kp st len th wo rd nu du hs a (guF z a p1 wo) (hI) (ha)) q_855 q_857 qp_25 q_7 q_858 hd_X6_canStep ⟨rfl, rfl⟩ ⟨Nat.le_of_ble_eq_true rfl, Nat.le_of_ble_eq_true rfl⟩ hK (ws := [(m0, .inr (6, [.ref m1, .int st, .ref m2, .int len, .ref m3, .int th, .int wo, .ref m4, .int rd, .int nu, .int du, .ref m5, .long hs])), (m1, .inl (kA 0, 148, .inl z)), (m2, .inl (kA 0, 888, .inl h)), (m3, .inl (kA 0, 60, .inl tx)), (m4, .inl (kA 0, 72, .inl pt)), (m5, .inl (kA 0, 148, .inl kp))]) (hP.sub [0, 1, 2, 3, 4, 5] rfl) (hD.sub [0, 1, 2, 3, 4, 5] (by decide) rfl) 0 (ci := 6) (C := RX6) (T := TX6) (N := 13) rfl rfl rfl hl.1 rfl (Nat.le_of_ble_eq_true rfl) dX6_canGo_18 ⟨Nat.zero_le _, Nat.zero_le _⟩) ?_
    refine lv_if_eq (tgt := 28) hx hb dX6_canGo_21 (by decide) (fun c_2 => ?_) (fun c_2 => ?_)
    · skip
      replace c_2 := bI_0.mp c_2
      refine lv_iconst (v := 0) hx hb dX6_canGo_28 (by decide) ?_
      exact end_pz hx hb hrt hlk (by decide) (by rw [cgF, wG hwo, if_neg c_1, if_neg (by rw [c_2]; decide)]; rfl) dX6_canGo_29
    · skip
      replace c_2 := bI_n0 c_2
      refine lv_iconst (v := 1) hx hb dX6_canGo_24 (by decide) ?_
      refine lv_goto (tgt := 29) hx hb dX6_canGo_25 (by decide) ?_
      exact end_pz hx hb hrt hlk (by decide) (by rw [cgF, wG hwo, if_neg c_1, if_pos c_2]; rfl) dX6_canGo_29
