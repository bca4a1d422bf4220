
theorem nn_div {x y : Int32} (h : ¬ y = 0) : FP.Core.dIsNaN (FP.ddiv (FP.i2d x) (FP.i2d y)) = false := FP.Core.ddiv_out ((FP.Core.notNaN_iff _).mpr (FP.Core.i2d_fin x).ne_nan) (FP.Core.i2d_fin y) (fun q => FP.Core.i2d_ne_zero h ((FP.Core.zero_bits2 _).mp q))
theorem vf_of {r : UInt64} (h : FP.Core.dIsNaN r = false) : vf_n64 r := by
  unfold vf_n64
  rw [UInt64.le_iff_toNat_le, FP.Core.mask_toNat]
  exact (FP.Core.ne_nan r).mp ((FP.Core.notNaN_iff r).mp h)
def mnF (z : Nat → Int32) : UInt64 := if sumX z 6 = 0 then FP.dconst0 else FP.ddiv (FP.i2d (sumX z 8)) (FP.i2d (sumX z 6))
theorem mn_nan {z : Nat → Int32} : FP.Core.dIsNaN (mnF z) = false := by
  unfold mnF
  split
  · decide +kernel
  · rename_i h; exact nn_div h
theorem dc_self {d : UInt64} (h : FP.Core.dIsNaN d = false) : Op.cmpValue (FP.dcmp d d) .l = 0 := by
  rw [show FP.dcmp d d = some .eq from FP.Core.dcmp_refl h]; rfl
section EFD
variable {p : Program} {l : Launch} {e : Env} {R : Room} {s : State} {m : MethodId} {args : Array Value} {below : List Frame} {meth : Method} {c : Code} {cc : ByteArray} {H : Heap} {locs : List Loc} {cells slots pc : Nat} {ls : Array Slot} {D : va_G}
theorem end_fd {v w : UInt64} {ws ws' ws1 : va_W} (hx : p.tables.exec = Jvm.exec) (hb : c.code = cc) (hr : meth.sig.returnType = some .double) (hlocks : meth.locks = false) (hP : va_P D vwCl ws1 H) (hS : va_S (Aw ws) s.heap H locs) (hv : v = w) (hw : va_P D vwCl ws1 H → va_P D vwCl ws' H) (hdg : decode cc pc = .ok (.dreturn, 1)) : W p l e R s m args below meth c H locs cells slots (MQ below (fQ (some (.double w)) D ws ws') args s cells slots (Aw ws)) (F0 m pc ls [.double v]) := by
  subst hv
  exact W.dret hx hb hr (fun t ht _ => ⟨rfl, by rw [ht]; exact hw hP, hS.F ht⟩) hS.2.2 hdg
end EFD
def ma2 (z : Nat → Int32) (a : Nat) (h : Int64) : Int64 := foldJ (fun j s => mx s (htF z a (nI j)).toInt64) 3 0 h
def maF (z : Nat → Int32) (a : Nat) (h : Int64) : Int64 := mx (mx (mx (mx (ma2 z a (fc1 z a h)) (msL a (wI true) 100 z 0).1.toInt64) (msL a (wI false) 100 z 0).1.toInt64) (possG (sl z a)).toInt64) (woF z a 12).toInt64
theorem q_1117 : Cond.native ⟨"java/lang/Double", "doubleToRawLongBits", "(D)J"⟩ ∈ AW := aw5 157 (by decide +kernel) (by decide +kernel)
theorem q_1116 : Cond.static ⟨"java/lang/Double", "doubleToRawLongBits", "(D)J"⟩ ∈ AW := aw5 156 (by decide +kernel) (by decide +kernel)
theorem hd_Jxe99ae_isNaN_b9ae7 : yJxe99ae_isNaN_b9ae7.cls ≠ "java/lang/invoke/MethodHandle" ∧ yJxe99ae_isNaN_b9ae7.cls ≠ "java/lang/invoke/VarHandle" ∧ (parseMethodDescriptor yJxe99ae_isNaN_b9ae7.desc).map (fun d => d.parameters.length) = some 1 := by decide +kernel
set_option maxRecDepth 100000 in
set_option maxHeartbeats 4000000 in
theorem m_Jxe99ae_isNaN_b9ae7 (l : Launch) (D : va_G) (kA : Nat → Nat) (d : UInt64) (hd : FP.Core.dIsNaN d = false) : Met l yJxe99ae_isNaN_b9ae7 (Cond.code yJxe99ae_isNaN_b9ae7 cJxe99ae_isNaN_b9ae7 2 (some .boolean) :: AW) ({ frames := 0, cells := 0, slots := 0, locals := 0 } : Room) (Pz [.double d] D (TY kA) []) (pQ (some (.int 0))) 0 0 (fun _ => False) := by
  refine MetZ (by decide +kernel) (Nat.le_of_ble_eq_true rfl) ?_
  intro p e s m below meth c ls hx hb hrt hts hown hml hlk hnm hP hK hD hS hl
  have hl : lv_has ls 2 [(0, .double d)] := hl
  refine lv_dload_n hx hb dJxe99ae_isNaN_b9ae7_0 rfl (lv_at hl 0 rfl) ?_
  refine lv_dload_n hx hb dJxe99ae_isNaN_b9ae7_1 rfl (lv_at hl 0 rfl) ?_
  refine lv_dcmp hx hb dJxe99ae_isNaN_b9ae7_2 ?_
  refine lv_if_eq (tgt := 10) hx hb dJxe99ae_isNaN_b9ae7_3 (by decide) (fun c_1 => ?_) (fun c_1 => ?_)
  · skip
    refine lv_iconst (v := 0) hx hb dJxe99ae_isNaN_b9ae7_10 (by decide) ?_
    exact end_pz hx hb hrt hlk (by decide) (rfl) dJxe99ae_isNaN_b9ae7_11
  · exact absurd c_1 (fun q => q (dc_self hd))

theorem hd_Jxe99ae_doubleToLongBits_ccdee : yJxe99ae_doubleToLongBits_ccdee.cls ≠ "java/lang/invoke/MethodHandle" ∧ yJxe99ae_doubleToLongBits_ccdee.cls ≠ "java/lang/invoke/VarHandle" ∧ (parseMethodDescriptor yJxe99ae_doubleToLongBits_ccdee.desc).map (fun d => d.parameters.length) = some 1 := by decide +kernel
set_option maxRecDepth 100000 in
set_option maxHeartbeats 4000000 in
theorem m_Jxe99ae_doubleToLongBits_ccdee (l : Launch) (D : va_G) (kA : Nat → Nat) (d : UInt64) (hd : FP.Core.dIsNaN d = false) : Met l yJxe99ae_doubleToLongBits_ccdee (Cond.code yJxe99ae_doubleToLongBits_ccdee cJxe99ae_doubleToLongBits_ccdee 2 (some .long) :: AW) ({ frames := 1, cells := 0, slots := 0, locals := 25 } : Room) (Pz [.double d] D (TY kA) []) (pQ (some (.long d.toInt64))) 0 0 (fun _ => False) := by
  refine MetZ (by decide +kernel) (Nat.le_of_ble_eq_true rfl) ?_
  intro p e s m below meth c ls hx hb hrt hts hown hml hlk hnm hP hK hD hS hl
  have hl : lv_has ls 2 [(0, .double d)] := hl
  refine lv_dload_n hx hb dJxe99ae_doubleToLongBits_ccdee_0 rfl (lv_at hl 0 rfl) ?_
  refine cs_p (runS (As := [.double d]) (rest := []) ⟨hx, hb, hml, hown, hts⟩ (m_Jxe99ae_isNaN_b9ae7 l D kA d (hd)) q_1112 q_1113 q_16 q_1114 hd_Jxe99ae_isNaN_b9ae7 ⟨rfl, rfl⟩ ⟨Nat.le_of_ble_eq_true rfl, Nat.le_of_ble_eq_true rfl⟩ hK (ws := []) (hP.sub [] rfl) (hD.sub [] (by decide) rfl) rfl hl.1 rfl (Nat.le_of_ble_eq_true rfl) dJxe99ae_doubleToLongBits_ccdee_1 ⟨Nat.zero_le _, Nat.zero_le _⟩) ?_
  refine lv_if_ne (tgt := 12) hx hb dJxe99ae_doubleToLongBits_ccdee_4 (by decide) (fun c_1 => ?_) (fun c_1 => ?_)
  · exact absurd c_1 (by decide)
  · skip
    refine lv_dload_n hx hb dJxe99ae_doubleToLongBits_ccdee_7 rfl (lv_at hl 0 rfl) ?_
    refine vn_d2l hx hb (hml.trans hl.1.symm) hown (hts _ q_1115) (hts _ q_1117) (hts _ q_1116) (hts _ q_16) (Nat.le_of_ble_eq_true rfl) (Nat.le_of_ble_eq_true rfl) dJxe99ae_doubleToLongBits_ccdee_8 ?_
    exact end_pl hx hb hrt hlk (rfl) dJxe99ae_doubleToLongBits_ccdee_11

theorem hd_X6_mean : yX6_mean.cls ≠ "java/lang/invoke/MethodHandle" ∧ yX6_mean.cls ≠ "java/lang/invoke/VarHandle" ∧ (parseMethodDescriptor yX6_mean.desc).map (fun d => d.parameters.length) = some 0 := by decide +kernel
set_option maxRecDepth 100000 in
set_option maxHeartbeats 4000000 in
theorem m_X6_mean (l : Launch) (D : va_G) (kA : Nat → Nat) (m0 : Nat) (m1 : Nat) (m2 : Nat) (m3 : Nat) (m4 : Nat) (m5 : Nat) (z : Nat → Int32) (h : Nat → Int32) (tx : Nat → Int32) (pt : Nat → Int32) (kp : Nat → Int32) (st : Int32) (len : Int32) (th : Int32) (wo : Int32) (rd : Int32) (nu : Int32) (du : Int32) (hs : Int64) : Met l yX6_mean (Cond.code yX6_mean cX6_mean 2 (some .double) :: AW) ({ frames := 2, cells := 0, slots := 0, locals := 45 } : Room) (Pz [.ref m0] D (TY kA) [(m0, .inr (6, [.ref m1, .int st, .ref m2, .int len, .ref m3, .int th, .int wo, .ref m4, .int rd, .int nu, .int du, .ref m5, .long hs])), (m1, .inl (kA 0, 148, .inl z)), (m2, .inl (kA 0, 888, .inl h)), (m3, .inl (kA 0, 60, .inl tx)), (m4, .inl (kA 0, 72, .inl pt)), (m5, .inl (kA 0, 148, .inl kp))]) (pQ (some (.double (mnF z)))) 0 0 (fun _ => False) := by
  refine MetZ (by decide +kernel) (Nat.le_of_ble_eq_true rfl) ?_
  intro p e s m below meth c ls hx hb hrt hts hown hml hlk hnm hP hK hD hS hl
  have hl : lv_has ls 2 [(0, .ref m0)] := hl
  refine lv_aload_n hx hb dX6_mean_0 rfl (lv_at hl 0 rfl) ?_
  refine lv_bipush (v := 6) hx hb dX6_mean_1 (by decide) ?_
  refine cs_p (runV (As := [.int 6]) (rest := []) ⟨hx, hb, hml, hown, hts⟩ (m_X6_sumOf l D kA m0 m1 m2 m3 m4 m5 z h tx pt kp st len th wo rd nu du hs 6 6 (rfl) (by omega)) q_1015 q_1017 qp_50 q_7 q_1018 hd_X6_sumOf ⟨rfl, rfl⟩ ⟨Nat.le_of_ble_eq_true rfl, Nat.le_of_ble_eq_true rfl⟩ hK (ws := [(m0, .inr (6, [.ref m1, .int st, .ref m2, .int len, .ref m3, .int th, .int wo, .ref m4, .int rd, .int nu, .int du, .ref m5, .long hs])), (m1, .inl (kA 0, 148, .inl z)), (m2, .inl (kA 0, 888, .inl h)), (m3, .inl (kA 0, 60, .inl tx)), (m4, .inl (kA 0, 72, .inl pt)), (m5, .inl (kA 0, 148, .inl kp))]) (hP.sub [0, 1, 2, 3, 4, 5] rfl) (hD.sub [0, 1, 2, 3, 4, 5] (by decide) rfl) 0 (ci := 6) (C := RX6) (T := TX6) (N := 13) rfl rfl rfl hl.1 rfl (Nat.le_of_ble_eq_true rfl) dX6_mean_3 ⟨Nat.zero_le _, Nat.zero_le _⟩) ?_
  refine lv_istore_n (lv' := [(1, .int (sumX z 6)), (0, .ref m0)]) hx hb dX6_mean_6 rfl hl (by decide) rfl (fun ls hl => ?_)
  refine lv_iload_n hx hb dX6_mean_7 rfl (lv_at hl 0 rfl) ?_
  refine lv_if_ne (tgt := 15) hx hb dX6_mean_8 (by decide) (fun c_1 => ?_) (fun c_1 => ?_)
  · skip
    refine lv_aload_n hx hb dX6_mean_15 rfl (lv_at hl 1 rfl) ?_
    refine lv_bipush (v := 8) hx hb dX6_mean_16 (by decide) ?_
    refine cs_p (runV (As := [.int 8]) (rest := []) ⟨hx, hb, hml, hown, hts⟩ (m_X6_sumOf l D kA m0 m1 m2 m3 m4 m5 z h tx pt kp st len th wo rd nu du hs 8 8 (rfl) (by omega)) q_1015 q_1017 qp_50 q_7 q_1018 hd_X6_sumOf ⟨rfl, rfl⟩ ⟨Nat.le_of_ble_eq_true rfl, Nat.le_of_ble_eq_true rfl⟩ hK (ws := [(m0, .inr (6, [.ref m1, .int st, .ref m2, .int len, .ref m3, .int th, .int wo, .ref m4, .int rd, .int nu, .int du, .ref m5, .long hs])), (m1, .inl (kA 0, 148, .inl z)), (m2, .inl (kA 0, 888, .inl h)), (m3, .inl (kA 0, 60, .inl tx)), (m4, .inl (kA 0, 72, .inl pt)), (m5, .inl (kA 0, 148, .inl kp))]) (hP.sub [0, 1, 2, 3, 4, 5] rfl) (hD.sub [0, 1, 2, 3, 4, 5] (by decide) rfl) 0 (ci := 6) (C := RX6) (T := TX6) (N := 13) rfl rfl rfl hl.1 rfl (Nat.le_of_ble_eq_true rfl) dX6_mean_18 ⟨Nat.zero_le _, Nat.zero_le _⟩) ?_
    refine lv_i2d hx hb dX6_mean_21 ?_
    refine lv_iload_n hx hb dX6_mean_22 rfl (lv_at hl 0 rfl) ?_
    refine lv_i2d hx hb dX6_mean_23 ?_
    refine lv_ddiv hx hb dX6_mean_24 (vf_of (nn_div c_1)) ?_
    exact end_pd hx hb hrt hlk (by rw [mnF, if_neg c_1]) dX6_mean_25
  · skip
    refine lv_dconst0 hx hb dX6_mean_11 ?_
    refine lv_goto (tgt := 25) hx hb dX6_mean_12 (by decide) ?_
    exact end_pd hx hb hrt hlk (by rw [mnF, if_pos c_1]) dX6_mean_25

theorem hd_X6_meanToll : yX6_meanToll.cls ≠ "java/lang/invoke/MethodHandle" ∧ yX6_meanToll.cls ≠ "java/lang/invoke/VarHandle" ∧ (parseMethodDescriptor yX6_meanToll.desc).map (fun d => d.parameters.length) = some 0 := by decide +kernel
set_option maxRecDepth 100000 in
set_option maxHeartbeats 4000000 in
theorem m_X6_meanToll (l : Launch) (D : va_G) (kA : Nat → Nat) (m0 : Nat) (m1 : Nat) (m2 : Nat) (m3 : Nat) (m4 : Nat) (m5 : Nat) (z : Nat → Int32) (h : Nat → Int32) (tx : Nat → Int32) (pt : Nat → Int32) (kp : Nat → Int32) (st : Int32) (len : Int32) (th : Int32) (wo : Int32) (rd : Int32) (nu : Int32) (du : Int32) (hs : Int64) : Met l yX6_meanToll (Cond.code yX6_meanToll cX6_meanToll 1 (some .double) :: AW) ({ frames := 3, cells := 0, slots := 0, locals := 66 } : Room) (Pz [.ref m0] D (TY kA) [(m0, .inr (6, [.ref m1, .int st, .ref m2, .int len, .ref m3, .int th, .int wo, .ref m4, .int rd, .int nu, .int du, .ref m5, .long hs])), (m1, .inl (kA 0, 148, .inl z)), (m2, .inl (kA 0, 888, .inl h)), (m3, .inl (kA 0, 60, .inl tx)), (m4, .inl (kA 0, 72, .inl pt)), (m5, .inl (kA 0, 148, .inl kp))]) (fQ (some (.double (mnF z))) D [(m0, .inr (6, [.ref m1, .int st, .ref m2, .int len, .ref m3, .int th, .int wo, .ref m4, .int rd, .int nu, .int du, .ref m5, .long hs])), (m1, .inl (kA 0, 148, .inl z)), (m2, .inl (kA 0, 888, .inl h)), (m3, .inl (kA 0, 60, .inl tx)), (m4, .inl (kA 0, 72, .inl pt)), (m5, .inl (kA 0, 148, .inl kp))] [(m0, .inr (6, [.ref m1, .int st, .ref m2, .int len, .ref m3, .int 0, .int wo, .ref m4, .int rd, .int nu, .int du, .ref m5, .long hs])), (m1, .inl (kA 0, 148, .inl z)), (m2, .inl (kA 0, 888, .inl h)), (m3, .inl (kA 0, 60, .inl tx)), (m4, .inl (kA 0, 72, .inl pt)), (m5, .inl (kA 0, 148, .inl kp))]) 0 0 (Aw [(m0, .inr (6, [.ref m1, .int st, .ref m2, .int len, .ref m3, .int th, .int wo, .ref m4, .int rd, .int nu, .int du, .ref m5, .long hs])), (m1, .inl (kA 0, 148, .inl z)), (m2, .inl (kA 0, 888, .inl h)), (m3, .inl (kA 0, 60, .inl tx)), (m4, .inl (kA 0, 72, .inl pt)), (m5, .inl (kA 0, 148, .inl kp))]) := by
  refine MetZ (by decide +kernel) (Nat.le_of_ble_eq_true rfl) ?_
  intro p e s m below meth c ls hx hb hrt hts hown hml hlk hnm hP hK hD hS hl
  have hl : lv_has ls 1 [(0, .ref m0)] := hl
  refine lv_aload_n hx hb dX6_meanToll_0 rfl (lv_at hl 0 rfl) ?_
  refine lv_iconst (v := 0) hx hb dX6_meanToll_1 (by decide) ?_
  refine va_put (ci := 6) (v := .int 0) (ty := tyX6 5) (C := RX6) (T := TX6) (N := 13) hx hb hts inX6 tyX6 tyX6_ok nmX6 hown hK hP hD hS 0 rfl rfl 5 (by decide) (hts _ q_775) (fun _ h9 => h9) rfl (tyX6_ok 5 (by decide)) rfl rfl (Nat.le_of_ble_eq_true rfl) dX6_meanToll_2 (fun H locs hP hD hS => ?_)
  have hP : va_P D vwCl [(m0, .inr (6, [.ref m1, .int st, .ref m2, .int len, .ref m3, .int 0, .int wo, .ref m4, .int rd, .int nu, .int du, .ref m5, .long hs])), (m1, .inl (kA 0, 148, .inl z)), (m2, .inl (kA 0, 888, .inl h)), (m3, .inl (kA 0, 60, .inl tx)), (m4, .inl (kA 0, 72, .inl pt)), (m5, .inl (kA 0, 148, .inl kp))] H := hP
  have hD : va_D (Aw [(m0, .inr (6, [.ref m1, .int st, .ref m2, .int len, .ref m3, .int th, .int wo, .ref m4, .int rd, .int nu, .int du, .ref m5, .long hs])), (m1, .inl (kA 0, 148, .inl z)), (m2, .inl (kA 0, 888, .inl h)), (m3, .inl (kA 0, 60, .inl tx)), (m4, .inl (kA 0, 72, .inl pt)), (m5, .inl (kA 0, 148, .inl kp))]) [(m0, .inr (6, [.ref m1, .int st, .ref m2, .int len, .ref m3, .int 0, .int wo, .ref m4, .int rd, .int nu, .int du, .ref m5, .long hs])), (m1, .inl (kA 0, 148, .inl z)), (m2, .inl (kA 0, 888, .inl h)), (m3, .inl (kA 0, 60, .inl tx)), (m4, .inl (kA 0, 72, .inl pt)), (m5, .inl (kA 0, 148, .inl kp))] := hD
  refine lv_aload_n hx hb dX6_meanToll_5 rfl (lv_at hl 0 rfl) ?_
  refine cs_p (runV (As := []) (rest := []) ⟨hx, hb, hml, hown, hts⟩ (m_X6_mean l D kA m0 m1 m2 m3 m4 m5 z h tx pt kp st len 0 wo rd nu du hs ) q_1091 q_1093 qp_60 q_7 q_1094 hd_X6_mean ⟨rfl, rfl⟩ ⟨Nat.le_of_ble_eq_true rfl, Nat.le_of_ble_eq_true rfl⟩ hK (ws := [(m0, .inr (6, [.ref m1, .int st, .ref m2, .int len, .ref m3, .int 0, .int wo, .ref m4, .int rd, .int nu, .int du, .ref m5, .long hs])), (m1, .inl (kA 0, 148, .inl z)), (m2, .inl (kA 0, 888, .inl h)), (m3, .inl (kA 0, 60, .inl tx)), (m4, .inl (kA 0, 72, .inl pt)), (m5, .inl (kA 0, 148, .inl kp))]) (hP.sub [0, 1, 2, 3, 4, 5] rfl) (hD.sub [0, 1, 2, 3, 4, 5] (by decide) rfl) 0 (ci := 6) (C := RX6) (T := TX6) (N := 13) rfl rfl rfl hl.1 rfl (Nat.le_of_ble_eq_true rfl) dX6_meanToll_6 ⟨Nat.zero_le _, Nat.zero_le _⟩) ?_
  have hP : va_P D vwCl [(m0, .inr (6, [.ref m1, .int st, .ref m2, .int len, .ref m3, .int 0, .int wo, .ref m4, .int rd, .int nu, .int du, .ref m5, .long hs])), (m1, .inl (kA 0, 148, .inl z)), (m2, .inl (kA 0, 888, .inl h)), (m3, .inl (kA 0, 60, .inl tx)), (m4, .inl (kA 0, 72, .inl pt)), (m5, .inl (kA 0, 148, .inl kp))] _ := hP.sub [0, 1, 2, 3, 4, 5] rfl
  exact end_fd hx hb hrt hlk hP hS rfl (fun h => h) dX6_meanToll_9

theorem hd_X6_mix : yX6_mix.cls ≠ "java/lang/invoke/MethodHandle" ∧ yX6_mix.cls ≠ "java/lang/invoke/VarHandle" ∧ (parseMethodDescriptor yX6_mix.desc).map (fun d => d.parameters.length) = some 1 := by decide +kernel
set_option maxRecDepth 100000 in
set_option maxHeartbeats 4000000 in
theorem m_X6_mix (l : Launch) (D : va_G) (kA : Nat → Nat) (m0 : Nat) (m1 : Nat) (m2 : Nat) (m3 : Nat) (m4 : Nat) (m5 : Nat) (z : Nat → Int32) (h : Nat → Int32) (tx : Nat → Int32) (pt : Nat → Int32) (kp : Nat → Int32) (st : Int32) (len : Int32) (th : Int32) (wo : Int32) (rd : Int32) (nu : Int32) (du : Int32) (hs : Int64) (p0 : Int64) : Met l yX6_mix (Cond.code yX6_mix cX6_mix 3 none :: AW) ({ frames := 0, cells := 0, slots := 0, locals := 0 } : Room) (Pz [.ref m0, .long p0] D (TY kA) [(m0, .inr (6, [.ref m1, .int st, .ref m2, .int len, .ref m3, .int th, .int wo, .ref m4, .int rd, .int nu, .int du, .ref m5, .long hs])), (m1, .inl (kA 0, 148, .inl z)), (m2, .inl (kA 0, 888, .inl h)), (m3, .inl (kA 0, 60, .inl tx)), (m4, .inl (kA 0, 72, .inl pt)), (m5, .inl (kA 0, 148, .inl kp))]) (fQ none D [(m0, .inr (6, [.ref m1, .int st, .ref m2, .int len, .ref m3, .int th, .int wo, .ref m4, .int rd, .int nu, .int du, .ref m5, .long hs])), (m1, .inl (kA 0, 148, .inl z)), (m2, .inl (kA 0, 888, .inl h)), (m3, .inl (kA 0, 60, .inl tx)), (m4, .inl (kA 0, 72, .inl pt)), (m5, .inl (kA 0, 148, .inl kp))] [(m0, .inr (6, [.ref m1, .int st, .ref m2, .int len, .ref m3, .int th, .int wo, .ref m4, .int rd, .int nu, .int du, .ref m5, .long (mx hs p0)])), (m1, .inl (kA 0, 148, .inl z)), (m2, .inl (kA 0, 888, .inl h)), (m3, .inl (kA 0, 60, .inl tx)), (m4, .inl (kA 0, 72, .inl pt)), (m5, .inl (kA 0, 148, .inl kp))]) 0 0 (Aw [(m0, .inr (6, [.ref m1, .int st, .ref m2, .int len, .ref m3, .int th, .int wo, .ref m4, .int rd, .int nu, .int du, .ref m5, .long hs])), (m1, .inl (kA 0, 148, .inl z)), (m2, .inl (kA 0, 888, .inl h)), (m3, .inl (kA 0, 60, .inl tx)), (m4, .inl (kA 0, 72, .inl pt)), (m5, .inl (kA 0, 148, .inl kp))]) := by
  refine MetZ (by decide +kernel) (Nat.le_of_ble_eq_true rfl) ?_
  intro p e s m below meth c ls hx hb hrt hts hown hml hlk hnm hP hK hD hS hl
  have hl : lv_has ls 3 [(0, .ref m0), (1, .long p0)] := hl
  refine lv_aload_n hx hb dX6_mix_0 rfl (lv_at hl 0 rfl) ?_
  refine lv_ldc2 (v := 31) hx hb hown (hts _ q_1104) dX6_mix_1 ?_
  refine lv_aload_n hx hb dX6_mix_4 rfl (lv_at hl 0 rfl) ?_
  refine va_get (ci := 6) (v := .long hs) (C := RX6) (T := TX6) (N := 13) hx hb hts inX6 hown hK hP 0 rfl rfl 12 (by decide) (hts _ q_782) (fun _ h9 => h9) rfl dX6_mix_5 ?_
  refine lv_lmul hx hb dX6_mix_8 ?_
  refine lv_lload_n hx hb dX6_mix_9 rfl (lv_at hl 1 rfl) ?_
  refine lv_ladd hx hb dX6_mix_10 ?_
  refine va_put (ci := 6) (v := .long ((31 * hs) + p0)) (ty := tyX6 12) (C := RX6) (T := TX6) (N := 13) hx hb hts inX6 tyX6 tyX6_ok nmX6 hown hK hP hD hS 0 rfl rfl 12 (by decide) (hts _ q_782) (fun _ h9 => h9) rfl (tyX6_ok 12 (by decide)) rfl rfl (Nat.le_of_ble_eq_true rfl) dX6_mix_11 (fun H locs hP hD hS => ?_)
  have hP : va_P D vwCl [(m0, .inr (6, [.ref m1, .int st, .ref m2, .int len, .ref m3, .int th, .int wo, .ref m4, .int rd, .int nu, .int du, .ref m5, .long ((31 * hs) + p0)])), (m1, .inl (kA 0, 148, .inl z)), (m2, .inl (kA 0, 888, .inl h)), (m3, .inl (kA 0, 60, .inl tx)), (m4, .inl (kA 0, 72, .inl pt)), (m5, .inl (kA 0, 148, .inl kp))] H := hP
  have hD : va_D (Aw [(m0, .inr (6, [.ref m1, .int st, .ref m2, .int len, .ref m3, .int th, .int wo, .ref m4, .int rd, .int nu, .int du, .ref m5, .long hs])), (m1, .inl (kA 0, 148, .inl z)), (m2, .inl (kA 0, 888, .inl h)), (m3, .inl (kA 0, 60, .inl tx)), (m4, .inl (kA 0, 72, .inl pt)), (m5, .inl (kA 0, 148, .inl kp))]) [(m0, .inr (6, [.ref m1, .int st, .ref m2, .int len, .ref m3, .int th, .int wo, .ref m4, .int rd, .int nu, .int du, .ref m5, .long ((31 * hs) + p0)])), (m1, .inl (kA 0, 148, .inl z)), (m2, .inl (kA 0, 888, .inl h)), (m3, .inl (kA 0, 60, .inl tx)), (m4, .inl (kA 0, 72, .inl pt)), (m5, .inl (kA 0, 148, .inl kp))] := hD
  have hP : va_P D vwCl [(m0, .inr (6, [.ref m1, .int st, .ref m2, .int len, .ref m3, .int th, .int wo, .ref m4, .int rd, .int nu, .int du, .ref m5, .long ((31 * hs) + p0)])), (m1, .inl (kA 0, 148, .inl z)), (m2, .inl (kA 0, 888, .inl h)), (m3, .inl (kA 0, 60, .inl tx)), (m4, .inl (kA 0, 72, .inl pt)), (m5, .inl (kA 0, 148, .inl kp))] _ := hP.sub [0, 1, 2, 3, 4, 5] rfl
  exact end_fv hx hb hrt hlk hP hS (fun h => h) dX6_mix_14
