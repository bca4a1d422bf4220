/-! the class's mean toll, its bits, its digest -/
def mtF (z : Nat → Int32) : UInt64 := if 0 < sumX z 6 then FP.ddiv (FP.i2d (sumX z 8)) (FP.i2d (sumX z 6)) else FP.dconst0
def okB (d : UInt64) : Prop := d = FP.dconst0 ∨ ∃ (m k : Nat), k < 40 ∧ 4503599627370496 ≤ m ∧ m < 9007199254740992 ∧ FP.Core.val64 d = .fin false m ((k : Int) - 52)
def dh1 (X : Nat → Nat → Int32) : Int64 := foldJ (fun j s => mx s (coF X (nI j)).toInt64) 9 0 2417
def dh2 (X : Nat → Nat → Int32) : Int64 := foldJ (fun j s => mx s (rvF (X 0) (nI j)).toInt64) 6 0 (dh1 X)
def dhL (z : Nat → Int32) : Nat → Nat → (Nat → Int32) → Int64 → Int64 × (Nat → Int32)
  | 0, _, T, h => (h, T)
  | n + 1, j, T, h => dhL z n (j + 1) (fc4 T z j (mfF (sl z j) h)).2 (fcF T z j (mfF (sl z j) h))
def dh3 (X : Nat → Nat → Int32) : Int64 × (Nat → Int32) := dhL (X 0) 4 0 (X 7) (dh2 X)
def dh4 (X : Nat → Nat → Int32) : Int64 := mx (mx (dh3 X).1 (mtF (X 0)).toInt64) (X 8 2).toInt64
def dh5 (X : Nat → Nat → Int32) (L : Nat) : Int64 := foldJ (fun j s => mx s (cdF (X 9) (nI j)).toInt64) L 0 (dh4 X)
theorem fp_nn {x : UInt64} {s : Bool} {c : Nat} {q : Int} (h : FP.Core.val64 x = .fin s c q) : FP.Core.dIsNaN x = false := by
  show decide (FP.Core.val64 x = .nan) = false
  rw [h]; rfl
theorem coF_7 {X : Nat → Nat → Int32} {T : Nat → Int32} {k : Int32} : coF (up2 X 7 T) k = coF X k := rfl
theorem nz0 {x : Int32} (h : 0 < x) : ¬ x = 0 := fun q => by rw [q] at h; exact absurd h (by decide)
theorem lgE {k : Nat} {y : Int64} (hy : y = Int64.ofNat k) (hk : k < 60) : lg_cmp y 1023 < 0 := by
  rw [lg_cmp_lt, hy, Int64.lt_iff_toInt_lt, Int64.toInt_ofNat_of_lt (by omega)]
  show (k : Int) < 1023
  omega
theorem nle0 {x : Int32} (h : x < 0) : ¬ 0 ≤ x := fun q => ge_n q h
theorem y64_1 {k : Nat} {y : Int64} (hy : y = Int64.ofNat k) : y + 1 = Int64.ofNat (k + 1) := by rw [hy]; exact (Int64.ofNat_add k 1).symm
theorem bits_eq {y w : Int64} {d : UInt64} {k m : Nat} (hy : y = Int64.ofNat k) (hk : k < 60) (hm : m < 4503599627370496) (hw : w = Int64.ofInt (m : Int)) (hd : d.toNat = (k + 1023) * 4503599627370496 + m) : (y + 1023) <<< ((52 : Int32).toInt64 &&& 63) ||| w = d.toInt64 := by
  subst hy hw
  have e0 : ((52 : Int32).toInt64 &&& 63) = 52 := by decide
  have e1 : Int64.ofNat k + 1023 = Int64.ofNat (k + 1023) := (Int64.ofNat_add k 1023).symm
  rw [e0, e1]
  apply Int64.toBitVec_inj.mp
  apply BitVec.eq_of_toNat_eq
  have h1 : (Int64.ofNat (k + 1023) <<< (52 : Int64)).toBitVec = BitVec.ofNat 64 (k + 1023) <<< 52 := rfl
  have h2 : (Int64.ofInt (m : Int)).toBitVec = BitVec.ofNat 64 m := rfl
  rw [Int64.toBitVec_or, h1, h2, BitVec.toNat_or, BitVec.toNat_shiftLeft, BitVec.toNat_ofNat, BitVec.toNat_ofNat]
  show _ = d.toNat
  rw [hd, Nat.mod_eq_of_lt (show k + 1023 < 2 ^ 64 by omega), Nat.mod_eq_of_lt (show m < 2 ^ 64 by omega), Nat.shiftLeft_eq, Nat.mod_eq_of_lt (show (k + 1023) * 2 ^ 52 < 2 ^ 64 by omega), ← Nat.shiftLeft_eq, ← Nat.shiftLeft_add_eq_or_of_lt (show m < 2 ^ 52 from hm), Nat.shiftLeft_eq]
theorem hd_X5_meanToll : yX5_meanToll.cls ≠ "java/lang/invoke/MethodHandle" ∧ yX5_meanToll.cls ≠ "java/lang/invoke/VarHandle" ∧ (parseMethodDescriptor yX5_meanToll.desc).map (fun d => d.parameters.length) = some 0 := by decide +kernel
set_option maxRecDepth 100000 in
set_option maxHeartbeats 4000000 in
theorem m_X5_meanToll (l : Launch) (D : va_G) (kA : Nat → Nat) (ad : Nat → Nat) (X : Nat → Nat → Int32) : Met l yX5_meanToll (Cond.code yX5_meanToll cX5_meanToll 2 (some .double) :: AW) ({ frames := 4, cells := 0, slots := 0, locals := 89 } : Room) (Pz [.ref (ad 0)] D (TY kA) (cw kA ad X)) (pQ (some (.double (mtF (X 0))))) 0 0 (fun _ => False) := by
  refine MetZ (by decide +kernel) (Nat.le_of_ble_eq_true rfl) ?_
  intro p e s m below meth c ls hx hb hrt hts hown hml hlk hnm hP hK hD hS hl
  have hl : lv_has ls 2 [(0, .ref (ad 0))] := hl
  refine lv_aload_n hx hb dX5_meanToll_0 rfl (lv_at hl 0 rfl) ?_
  refine va_get (ci := 5) (v := .ref (sA ad 0)) (C := RX5) (T := TX5) (N := 6) hx hb hts inX5 hown hK hP _ (cw_arm (kA := kA) (ad := ad) (X := X)) rfl 0 (by decide) (hts _ q_176) (fun _ h9 => h9) rfl dX5_meanToll_1 ?_
  refine lv_bipush (v := 6) hx hb dX5_meanToll_4 (by decide) ?_
  refine cs_p (runV (As := [.int 6]) (rest := []) ⟨hx, hb, hml, hown, hts⟩ (m_X4_sumOf l D kA ad X 0 6 (by omega)) q_243 q_244 q_245 q_2 q_246 hd_X4_sumOf ⟨rfl, rfl⟩ ⟨Nat.le_of_ble_eq_true rfl, Nat.le_of_ble_eq_true rfl⟩ hK (ws := (cw kA ad X)) hP hD _ (ci := 4) (C := RX4) (T := TX4) (N := 4) rfl (cw_state (kA := kA) (ad := ad) (X := X) (r := 0) (by omega)) rfl hl.1 rfl (Nat.le_of_ble_eq_true rfl) dX5_meanToll_6 ⟨Nat.zero_le _, Nat.zero_le _⟩) ?_
  refine lv_istore_n (lv' := [(1, .int (sumX (X 0) 6)), (0, .ref (ad 0))]) hx hb dX5_meanToll_9 rfl hl (by decide) rfl (fun ls hl => ?_)
  refine lv_iload_n hx hb dX5_meanToll_10 rfl (lv_at hl 0 rfl) ?_
  refine lv_if_gt (tgt := 16) hx hb dX5_meanToll_11 (by decide) (fun c_1 => ?_) (fun c_1 => ?_)
  · skip
    refine lv_aload_n hx hb dX5_meanToll_16 rfl (lv_at hl 1 rfl) ?_
    refine va_get (ci := 5) (v := .ref (sA ad 0)) (C := RX5) (T := TX5) (N := 6) hx hb hts inX5 hown hK hP _ (cw_arm (kA := kA) (ad := ad) (X := X)) rfl 0 (by decide) (hts _ q_176) (fun _ h9 => h9) rfl dX5_meanToll_17 ?_
    refine lv_bipush (v := 8) hx hb dX5_meanToll_20 (by decide) ?_
    refine cs_p (runV (As := [.int 8]) (rest := []) ⟨hx, hb, hml, hown, hts⟩ (m_X4_sumOf l D kA ad X 0 8 (by omega)) q_243 q_244 q_245 q_2 q_246 hd_X4_sumOf ⟨rfl, rfl⟩ ⟨Nat.le_of_ble_eq_true rfl, Nat.le_of_ble_eq_true rfl⟩ hK (ws := (cw kA ad X)) hP hD _ (ci := 4) (C := RX4) (T := TX4) (N := 4) rfl (cw_state (kA := kA) (ad := ad) (X := X) (r := 0) (by omega)) rfl hl.1 rfl (Nat.le_of_ble_eq_true rfl) dX5_meanToll_22 ⟨Nat.zero_le _, Nat.zero_le _⟩) ?_
    refine lv_i2d hx hb dX5_meanToll_25 ?_
    refine lv_iload_n hx hb dX5_meanToll_26 rfl (lv_at hl 0 rfl) ?_
    refine lv_i2d hx hb dX5_meanToll_27 ?_
    refine lv_ddiv hx hb dX5_meanToll_28 (vf_of (nn_div (nz0 c_1))) ?_
    exact end_pd hx hb hrt hlk (by rw [mtF, if_pos c_1]) dX5_meanToll_29
  · skip
    refine lv_dconst0 hx hb dX5_meanToll_14 ?_
    exact end_pd hx hb hrt hlk (by rw [mtF, if_neg c_1]) dX5_meanToll_15

theorem hd_X5_bitsOf : yX5_bitsOf.cls ≠ "java/lang/invoke/MethodHandle" ∧ yX5_bitsOf.cls ≠ "java/lang/invoke/VarHandle" ∧ (parseMethodDescriptor yX5_bitsOf.desc).map (fun d => d.parameters.length) = some 1 := by decide +kernel
set_option maxRecDepth 100000 in
set_option maxHeartbeats 4000000 in
theorem m_X5_bitsOf_z (l : Launch) (D : va_G) (kA : Nat → Nat) (ad : Nat → Nat) (X : Nat → Nat → Int32) : Met l yX5_bitsOf (Cond.code yX5_bitsOf cX5_bitsOf 8 (some .long) :: AW) ({ frames := 0, cells := 0, slots := 0, locals := 0 } : Room) (Pz [.double FP.dconst0] D (TY kA) (cw kA ad X)) (pQ (some (.long FP.dconst0.toInt64))) 0 0 (fun _ => False) := by
  refine MetZ (by decide +kernel) (Nat.le_of_ble_eq_true rfl) ?_
  intro p e s m below meth c ls hx hb hrt hts hown hml hlk hnm hP hK hD hS hl
  have hl : lv_has ls 8 [(0, .double FP.dconst0)] := hl
  refine lv_dload_n hx hb dX5_bitsOf_0 rfl (lv_at hl 0 rfl) ?_
  refine lv_dconst1 hx hb dX5_bitsOf_1 ?_
  refine lv_dcmp hx hb dX5_bitsOf_2 ?_
  refine lv_if_ge (tgt := 8) hx hb dX5_bitsOf_3 (by decide) (fun c_1 => ?_) (fun c_1 => ?_)
  · exact absurd c_1 (by decide +kernel)
  · skip
    replace c_1 := nge_l c_1
    refine lv_lconst (v := 0) hx hb dX5_bitsOf_6 (by decide) ?_
    exact end_pl hx hb hrt hlk (by decide +kernel) dX5_bitsOf_7

set_option maxRecDepth 100000 in
set_option maxHeartbeats 4000000 in
theorem m_X5_bitsOf_g (l : Launch) (D : va_G) (kA : Nat → Nat) (ad : Nat → Nat) (X : Nat → Nat → Int32) (d : UInt64) (mM : Nat) (k : Nat) (hk : k < 40) (hm1 : 4503599627370496 ≤ mM) (hm2 : mM < 9007199254740992) (hv : FP.Core.val64 d = .fin false mM ((k : Int) - 52)) : Met l yX5_bitsOf (Cond.code yX5_bitsOf cX5_bitsOf 8 (some .long) :: AW) ({ frames := 0, cells := 0, slots := 0, locals := 0 } : Room) (Pz [.double d] D (TY kA) (cw kA ad X)) (pQ (some (.long d.toInt64))) 0 0 (fun _ => False) := by
  refine MetZ (by decide +kernel) (Nat.le_of_ble_eq_true rfl) ?_
  intro p e s m below meth c ls hx hb hrt hts hown hml hlk hnm hP hK hD hS hl
  have hl : lv_has ls 8 [(0, .double d)] := hl
  refine lv_dload_n hx hb dX5_bitsOf_0 rfl (lv_at hl 0 rfl) ?_
  refine lv_dconst1 hx hb dX5_bitsOf_1 ?_
  refine lv_dcmp hx hb dX5_bitsOf_2 ?_
  refine lv_if_ge (tgt := 8) hx hb dX5_bitsOf_3 (by decide) (fun c_1 => ?_) (fun c_1 => ?_)
  · skip
    replace c_1 := ge_n c_1
    refine lv_dload_n hx hb dX5_bitsOf_8 rfl (lv_at hl 0 rfl) ?_
    refine lv_dstore_n (lv' := [(2, .double d), (0, .double d)]) hx hb dX5_bitsOf_9 rfl hl (by decide) rfl (fun ls hl => ?_)
    refine lv_lconst (v := 0) hx hb dX5_bitsOf_10 (by decide) ?_
    refine lv_lstore (lv' := [(4, .long 0), (2, .double d), (0, .double d)]) hx hb dX5_bitsOf_11 hl (by decide) rfl (fun ls hl => ?_)
    have loop_13 : ∀ (n : Nat) (j : Nat) (x2 : UInt64) (y4 : Int64) (hj : j + n = k) (hx2 : FP.Core.val64 x2 = .fin false mM ((n : Int) - 52)) (hy4 : y4 = Int64.ofNat j), ∀ ls : Array Slot, lv_has ls 8 [(0, .double d), (2, .double x2), (4, .long y4)] → W p l e ({ frames := 0, cells := 0, slots := 0, locals := 0 } : Room) s m [.double d].toArray below meth c s.heap [] 0 0 (MQ below (pQ (some (.long d.toInt64))) [.double d].toArray s 0 0 (fun _ => False)) (F0 m 13 ls []) := by
      clear hl
      intro n
      induction n with
      | zero =>
        intro j x2 y4 hj hx2 hy4  ls hl
        refine lv_dload_n hx hb dX5_bitsOf_13 rfl (lv_at hl 1 rfl) ?_
        refine lv_ldc2d (v := 4611686018427387904) hx hb hown (hts _ q_384) dX5_bitsOf_14 ?_
        refine lv_dcmp hx hb dX5_bitsOf_17 ?_
        refine lv_if_lt (tgt := 45) hx hb dX5_bitsOf_18 (by decide) (fun c_2 => ?_) (fun c_2 => ?_)
        · skip
          refine lv_dload_n hx hb dX5_bitsOf_45 rfl (lv_at hl 1 rfl) ?_
          refine lv_dconst1 hx hb dX5_bitsOf_46 ?_
          refine lv_dsub hx hb dX5_bitsOf_47 (vf_of (fp_tail hx2 hm1 hm2).2.1) ?_
          refine lv_ldc2d (v := 4841369599423283200) hx hb hown (hts _ q_386) dX5_bitsOf_48 ?_
          refine lv_dmul hx hb dX5_bitsOf_51 (vf_of (fp_tail hx2 hm1 hm2).2.2) ?_
          refine lv_d2l hx hb dX5_bitsOf_52 ?_
          refine lv_lstore (lv' := [(6, .long (FP.d2l (FP.dmul (FP.dsub x2 FP.dconst1) 4841369599423283200))), (0, .double d), (2, .double x2), (4, .long y4)]) hx hb dX5_bitsOf_53 hl (by decide) rfl (fun ls hl => ?_)
          refine lv_lload hx hb dX5_bitsOf_55 (lv_at hl 3 rfl) ?_
          refine lv_ldc2 (v := 1023) hx hb hown (hts _ q_385) dX5_bitsOf_57 ?_
          refine lv_ladd hx hb dX5_bitsOf_60 ?_
          refine lv_bipush (v := 52) hx hb dX5_bitsOf_61 (by decide) ?_
          refine lv_lshl (v := (y4 + 1023) <<< ((52 : Int32).toInt64 &&& 63)) hx hb dX5_bitsOf_63 rfl ?_
          refine lv_lload hx hb dX5_bitsOf_64 (lv_at hl 0 rfl) ?_
          refine lv_lor hx hb dX5_bitsOf_66 ?_
          exact end_pl hx hb hrt hlk (by (have hjk : j = k := by omega); subst hjk; exact bits_eq hy4 (by omega) (m := mM - 4503599627370496) (by omega) (fp_tail hx2 hm1 hm2).1 (fp_bits hv hm1 hm2 (by omega))) dX5_bitsOf_67
        · exact absurd c_2 (fun q => q (fp_lt2 hx2 hm2))
      | succ n ih13 =>
        intro j x2 y4 hj hx2 hy4  ls hl
        refine lv_dload_n hx hb dX5_bitsOf_13 rfl (lv_at hl 1 rfl) ?_
        refine lv_ldc2d (v := 4611686018427387904) hx hb hown (hts _ q_384) dX5_bitsOf_14 ?_
        refine lv_dcmp hx hb dX5_bitsOf_17 ?_
        refine lv_if_lt (tgt := 45) hx hb dX5_bitsOf_18 (by decide) (fun c_3 => ?_) (fun c_3 => ?_)
        · exact absurd c_3 (fp_ge2 hx2 hm1 (by omega))
        · skip
          refine lv_lload hx hb dX5_bitsOf_21 (lv_at hl 2 rfl) ?_
          refine lv_ldc2 (v := 1023) hx hb hown (hts _ q_385) dX5_bitsOf_23 ?_
          refine W.lcmp hx hb dX5_bitsOf_26 ?_
          refine lv_if_ge (tgt := 45) hx hb dX5_bitsOf_27 (by decide) (fun c_4 => ?_) (fun c_4 => ?_)
          · exact absurd c_4 (nle0 (lgE hy4 (by omega)))
          · skip
            replace c_4 := nge_l c_4
            refine lv_dload_n hx hb dX5_bitsOf_30 rfl (lv_at hl 1 rfl) ?_
            refine lv_ldc2d (v := 4611686018427387904) hx hb hown (hts _ q_384) dX5_bitsOf_31 ?_
            refine lv_ddiv hx hb dX5_bitsOf_34 (vf_of (fp_nn (fp_half hx2 hm1 hm2 (by omega) (by omega)))) ?_
            refine lv_dstore_n (lv' := [(2, .double (FP.ddiv x2 4611686018427387904)), (0, .double d), (4, .long y4)]) hx hb dX5_bitsOf_35 rfl hl (by decide) rfl (fun ls hl => ?_)
            refine lv_lload hx hb dX5_bitsOf_36 (lv_at hl 2 rfl) ?_
            refine lv_lconst (v := 1) hx hb dX5_bitsOf_38 (by decide) ?_
            refine lv_ladd hx hb dX5_bitsOf_39 ?_
            refine lv_lstore (lv' := [(4, .long (y4 + 1)), (2, .double (FP.ddiv x2 4611686018427387904)), (0, .double d)]) hx hb dX5_bitsOf_40 hl (by decide) rfl (fun ls hl => ?_)
            refine lv_goto (tgt := 13) hx hb dX5_bitsOf_42 (by decide) ?_
            exact ih13 (j + 1) (FP.ddiv x2 4611686018427387904) (y4 + 1) (by omega) (by rw [fp_half hx2 hm1 hm2 (by omega) (by omega)]; congr 1; omega) (y64_1 hy4) ls (lv_sub hl [2, 1, 0] rfl)
    exact loop_13 k 0 d 0 (by omega) (hv) (rfl) ls (lv_sub hl [2, 1, 0] rfl)
  · exact absurd c_1 (fun q => q (le_of_nlt (fp_ge1 hv hm1 (by omega))))

theorem m_X5_bitsOf (l : Launch) (D : va_G) (kA : Nat → Nat) (ad : Nat → Nat) (X : Nat → Nat → Int32) (d : UInt64) (hd : okB d) : Met l yX5_bitsOf (Cond.code yX5_bitsOf cX5_bitsOf 8 (some .long) :: AW) ({ frames := 0, cells := 0, slots := 0, locals := 0 } : Room) (Pz [.double d] D (TY kA) (cw kA ad X)) (pQ (some (.long d.toInt64))) 0 0 (fun _ => False) := by
  rcases hd with rfl | ⟨m, k, h1, h2, h3, h4⟩
  · exact m_X5_bitsOf_z l D kA ad X
  · exact m_X5_bitsOf_g l D kA ad X d m k h1 h2 h3 h4

theorem hd_X5_digest : yX5_digest.cls ≠ "java/lang/invoke/MethodHandle" ∧ yX5_digest.cls ≠ "java/lang/invoke/VarHandle" ∧ (parseMethodDescriptor yX5_digest.desc).map (fun d => d.parameters.length) = some 0 := by decide +kernel
set_option maxRecDepth 100000 in
set_option maxHeartbeats 4000000 in
theorem m_X5_digest (l : Launch) (D : va_G) (kA : Nat → Nat) (ad : Nat → Nat) (X : Nat → Nat → Int32) (L : Nat) (hlen : X 8 2 = nI L) (hL : L ≤ 60) (hok : okB (mtF (X 0))) : Met l yX5_digest (Cond.code yX5_digest cX5_digest 5 (some .long) :: AW) ({ frames := 5, cells := 0, slots := 0, locals := 130 } : Room) (Pz [.ref (ad 0)] D (TY kA) (cw kA ad X)) (fQ (some (.long (dh5 X L))) D (cw kA ad X) (cw kA ad (up2 X 7 (dh3 X).2))) 0 0 (Aw (cw kA ad X)) := by
  refine MetZ (by decide +kernel) (Nat.le_of_ble_eq_true rfl) ?_
  intro p e s m below meth c ls hx hb hrt hts hown hml hlk hnm hP hK hD hS hl
  have hl : lv_has ls 5 [(0, .ref (ad 0))] := hl
  rw [← up2_self (X := X) (r := 7)] at hP hD
  refine lv_ldc2 (v := 2417) hx hb hown (hts _ q_268) dX5_digest_0 ?_
  refine lv_lstore_n (lv' := [(1, .long 2417), (0, .ref (ad 0))]) hx hb dX5_digest_3 rfl hl (by decide) rfl (fun ls hl => ?_)
  refine lv_iconst (v := 0) hx hb dX5_digest_4 (by decide) ?_
  refine lv_istore_n (lv' := [(3, .int 0), (1, .long 2417), (0, .ref (ad 0))]) hx hb dX5_digest_5 rfl hl (by decide) rfl (fun ls hl => ?_)
  have loop_6 : ∀ (nA : Nat) (jA : Nat) (qA : Int64) (xA : Int32) (hjA : jA + nA = 9) (eA : xA = nI jA) (hresA : foldJ (fun j s => mx s (coF X (nI j)).toInt64) nA jA qA = dh1 X), ∀ (H : Heap) (locs : List Loc), va_P D vwCl (cw kA ad (up2 X 7 (X 7))) H → va_D (Aw (cw kA ad X)) (cw kA ad (up2 X 7 (X 7))) → va_S (Aw (cw kA ad X)) s.heap H locs → ∀ ls : Array Slot, lv_has ls 5 [(0, .ref (ad 0)), (1, .long qA), (3, .int xA)] → W p l e ({ frames := 5, cells := 0, slots := 0, locals := 130 } : Room) s m [.ref (ad 0)].toArray below meth c H locs 0 0 (MQ below (fQ (some (.long (dh5 X L))) D (cw kA ad X) (cw kA ad (up2 X 7 (dh3 X).2))) [.ref (ad 0)].toArray s 0 0 (Aw (cw kA ad X))) (F0 m 6 ls []) := by
    clear hl
    clear hP hD hS
    intro nA
    induction nA with
    | zero =>
      intro jA qA xA hjA eA hresA H locs hP hD hS ls hl
      refine lv_iload_n hx hb dX5_digest_6 rfl (lv_at hl 2 rfl) ?_
      refine lv_bipush (v := 9) hx hb dX5_digest_7 (by decide) ?_
      refine lv_icmp_ge (tgt := 29) hx hb dX5_digest_9 (by decide) (fun c_1 => ?_) (fun c_1 => ?_)
      · skip
        replace c_1 := ge_n c_1
        refine lv_iconst (v := 0) hx hb dX5_digest_29 (by decide) ?_
        refine lv_istore_n (lv' := [(3, .int 0), (0, .ref (ad 0)), (1, .long qA)]) hx hb dX5_digest_30 rfl hl (by decide) rfl (fun ls hl => ?_)
        have loop_31 : ∀ (nB : Nat) (jB : Nat) (qB : Int64) (xB : Int32) (hjB : jB + nB = 6) (eB : xB = nI jB) (hresB : foldJ (fun j s => mx s (rvF (X 0) (nI j)).toInt64) nB jB qB = dh2 X), ∀ (H : Heap) (locs : List Loc), va_P D vwCl (cw kA ad (up2 X 7 (X 7))) H → va_D (Aw (cw kA ad X)) (cw kA ad (up2 X 7 (X 7))) → va_S (Aw (cw kA ad X)) s.heap H locs → ∀ ls : Array Slot, lv_has ls 5 [(0, .ref (ad 0)), (1, .long qB), (3, .int xB)] → W p l e ({ frames := 5, cells := 0, slots := 0, locals := 130 } : Room) s m [.ref (ad 0)].toArray below meth c H locs 0 0 (MQ below (fQ (some (.long (dh5 X L))) D (cw kA ad X) (cw kA ad (up2 X 7 (dh3 X).2))) [.ref (ad 0)].toArray s 0 0 (Aw (cw kA ad X))) (F0 m 31 ls []) := by
          clear hl
          clear hP hD hS
          intro nB
          induction nB with
          | zero =>
            intro jB qB xB hjB eB hresB H locs hP hD hS ls hl
            refine lv_iload_n hx hb dX5_digest_31 rfl (lv_at hl 2 rfl) ?_
            refine lv_bipush (v := 6) hx hb dX5_digest_32 (by decide) ?_
            refine lv_icmp_ge (tgt := 60) hx hb dX5_digest_34 (by decide) (fun c_2 => ?_) (fun c_2 => ?_)
            · skip
              replace c_2 := ge_n c_2
              refine lv_iconst (v := 0) hx hb dX5_digest_60 (by decide) ?_
              refine lv_istore_n (lv' := [(3, .int 0), (0, .ref (ad 0)), (1, .long qB)]) hx hb dX5_digest_61 rfl hl (by decide) rfl (fun ls hl => ?_)
              have loop_62 : ∀ (nC : Nat) (jC : Nat) (T : Nat → Int32) (qC : Int64) (xC : Int32) (hjC : jC + nC = 4) (eC : xC = nI jC) (hresC : dhL (X 0) nC jC T qC = dh3 X), ∀ (H : Heap) (locs : List Loc), va_P D vwCl (cw kA ad (up2 X 7 T)) H → va_D (Aw (cw kA ad X)) (cw kA ad (up2 X 7 T)) → va_S (Aw (cw kA ad X)) s.heap H locs → ∀ ls : Array Slot, lv_has ls 5 [(0, .ref (ad 0)), (1, .long qC), (3, .int xC)] → W p l e ({ frames := 5, cells := 0, slots := 0, locals := 130 } : Room) s m [.ref (ad 0)].toArray below meth c H locs 0 0 (MQ below (fQ (some (.long (dh5 X L))) D (cw kA ad X) (cw kA ad (up2 X 7 (dh3 X).2))) [.ref (ad 0)].toArray s 0 0 (Aw (cw kA ad X))) (F0 m 62 ls []) := by
                clear hl
                clear hP hD hS
                intro nC
                induction nC with
                | zero =>
                  intro jC T qC xC hjC eC hresC H locs hP hD hS ls hl
                  refine lv_iload_n hx hb dX5_digest_62 rfl (lv_at hl 2 rfl) ?_
                  refine lv_iconst (v := 4) hx hb dX5_digest_63 (by decide) ?_
                  refine lv_icmp_ge (tgt := 101) hx hb dX5_digest_64 (by decide) (fun c_3 => ?_) (fun c_3 => ?_)
                  · skip
                    replace c_3 := ge_n c_3
                    refine lv_lload_n hx hb dX5_digest_101 rfl (lv_at hl 1 rfl) ?_
                    refine lv_aload_n hx hb dX5_digest_102 rfl (lv_at hl 0 rfl) ?_
                    refine cs_p (runV (As := []) (rest := [.long qC]) ⟨hx, hb, hml, hown, hts⟩ (m_X5_meanToll l D kA ad (up2 X 7 T) ) q_380 q_240 q_241 q_1 q_242 hd_X5_meanToll ⟨rfl, rfl⟩ ⟨Nat.le_of_ble_eq_true rfl, Nat.le_of_ble_eq_true rfl⟩ hK (ws := (cw kA ad (up2 X 7 T))) hP hD _ (ci := 5) (C := RX5) (T := TX5) (N := 6) rfl (cw_arm (kA := kA) (ad := ad) (X := up2 X 7 T)) rfl hl.1 rfl (Nat.le_of_ble_eq_true rfl) dX5_digest_103 ⟨Nat.zero_le _, Nat.zero_le _⟩) ?_
                    refine W_top (v' := .double (mtF ((X 0)))) rfl ?_
                    refine cs_p (runS (As := [.double (mtF (X 0))]) (rest := [.long qC]) ⟨hx, hb, hml, hown, hts⟩ (m_X5_bitsOf l D kA ad (up2 X 7 T) (mtF (X 0)) (hok)) q_381 q_382 q_1 q_383 hd_X5_bitsOf ⟨rfl, rfl⟩ ⟨Nat.le_of_ble_eq_true rfl, Nat.le_of_ble_eq_true rfl⟩ hK (ws := (cw kA ad (up2 X 7 T))) hP hD rfl hl.1 rfl (Nat.le_of_ble_eq_true rfl) dX5_digest_106 ⟨Nat.zero_le _, Nat.zero_le _⟩) ?_
                    refine cs_p (runS (As := [.long qC, .long ((mtF (X 0)).toInt64)]) (rest := []) ⟨hx, hb, hml, hown, hts⟩ (m_X5_mixed l D kA ad (up2 X 7 T) qC ((mtF (X 0)).toInt64) ) q_289 q_290 q_1 q_291 hd_X5_mixed ⟨rfl, rfl⟩ ⟨Nat.le_of_ble_eq_true rfl, Nat.le_of_ble_eq_true rfl⟩ hK (ws := (cw kA ad (up2 X 7 T))) hP hD rfl hl.1 rfl (Nat.le_of_ble_eq_true rfl) dX5_digest_109 ⟨Nat.zero_le _, Nat.zero_le _⟩) ?_
                    refine lv_lstore_n (lv' := [(1, .long (mx qC ((mtF (X 0)).toInt64))), (0, .ref (ad 0)), (3, .int xC)]) hx hb dX5_digest_112 rfl hl (by decide) rfl (fun ls hl => ?_)
                    refine lv_lload_n hx hb dX5_digest_113 rfl (lv_at hl 0 rfl) ?_
                    refine lv_aload_n hx hb dX5_digest_114 rfl (lv_at hl 1 rfl) ?_
                    refine va_get (ci := 5) (v := .int ((X 8) 2)) (C := RX5) (T := TX5) (N := 6) hx hb hts inX5 hown hK hP _ (cw_arm (kA := kA) (ad := ad) (X := up2 X 7 T)) rfl 5 (by decide) (hts _ q_181) (fun _ h9 => h9) rfl dX5_digest_115 ?_
                    refine lv_i2l (v := ((X 8) 2).toInt64) hx hb dX5_digest_118 rfl ?_
                    refine cs_p (runS (As := [.long (mx qC ((mtF (X 0)).toInt64)), .long (((X 8) 2).toInt64)]) (rest := []) ⟨hx, hb, hml, hown, hts⟩ (m_X5_mixed l D kA ad (up2 X 7 T) (mx qC ((mtF (X 0)).toInt64)) (((X 8) 2).toInt64) ) q_289 q_290 q_1 q_291 hd_X5_mixed ⟨rfl, rfl⟩ ⟨Nat.le_of_ble_eq_true rfl, Nat.le_of_ble_eq_true rfl⟩ hK (ws := (cw kA ad (up2 X 7 T))) hP hD rfl hl.1 rfl (Nat.le_of_ble_eq_true rfl) dX5_digest_119 ⟨Nat.zero_le _, Nat.zero_le _⟩) ?_
                    refine lv_lstore_n (lv' := [(1, .long (mx (mx qC ((mtF (X 0)).toInt64)) (((X 8) 2).toInt64))), (0, .ref (ad 0)), (3, .int xC)]) hx hb dX5_digest_122 rfl hl (by decide) rfl (fun ls hl => ?_)
                    refine lv_iconst (v := 0) hx hb dX5_digest_123 (by decide) ?_
                    refine lv_istore_n (lv' := [(3, .int 0), (1, .long (mx (mx qC ((mtF (X 0)).toInt64)) (((X 8) 2).toInt64))), (0, .ref (ad 0))]) hx hb dX5_digest_124 rfl hl (by decide) rfl (fun ls hl => ?_)
                    have loop_125 : ∀ (nD : Nat) (jD : Nat) (qD : Int64) (xD : Int32) (hjD : jD + nD = L) (eD : xD = nI jD) (hresD : foldJ (fun j s => mx s (cdF (X 9) (nI j)).toInt64) nD jD qD = dh5 X L), ∀ (H : Heap) (locs : List Loc), va_P D vwCl (cw kA ad (up2 X 7 T)) H → va_D (Aw (cw kA ad X)) (cw kA ad (up2 X 7 T)) → va_S (Aw (cw kA ad X)) s.heap H locs → ∀ ls : Array Slot, lv_has ls 5 [(0, .ref (ad 0)), (1, .long qD), (3, .int xD)] → W p l e ({ frames := 5, cells := 0, slots := 0, locals := 130 } : Room) s m [.ref (ad 0)].toArray below meth c H locs 0 0 (MQ below (fQ (some (.long (dh5 X L))) D (cw kA ad X) (cw kA ad (up2 X 7 (dh3 X).2))) [.ref (ad 0)].toArray s 0 0 (Aw (cw kA ad X))) (F0 m 125 ls []) := by
                      clear hl
                      clear hP hD hS
                      intro nD
                      induction nD with
                      | zero =>
                        intro jD qD xD hjD eD hresD H locs hP hD hS ls hl
                        refine lv_iload_n hx hb dX5_digest_125 rfl (lv_at hl 2 rfl) ?_
                        refine lv_aload_n hx hb dX5_digest_126 rfl (lv_at hl 0 rfl) ?_
                        refine va_get (ci := 5) (v := .int ((X 8) 2)) (C := RX5) (T := TX5) (N := 6) hx hb hts inX5 hown hK hP _ (cw_arm (kA := kA) (ad := ad) (X := up2 X 7 T)) rfl 5 (by decide) (hts _ q_181) (fun _ h9 => h9) rfl dX5_digest_127 ?_
                        refine lv_icmp_ge (tgt := 150) hx hb dX5_digest_130 (by decide) (fun c_4 => ?_) (fun c_4 => ?_)
                        · skip
                          replace c_4 := ge_n c_4
                          refine lv_lload_n hx hb dX5_digest_150 rfl (lv_at hl 1 rfl) ?_
                          exact end_fl hx hb hrt hlk hP hS (hresD) (fun h => by rw [← hresC]; exact h) dX5_digest_151
                        · exact absurd c_4 (fun q => q (cnt_ge (N := L) eD hlen.symm (by omega) (by omega)))
                      | succ nD ih125 =>
                        intro jD qD xD hjD eD hresD H locs hP hD hS ls hl
                        refine lv_iload_n hx hb dX5_digest_125 rfl (lv_at hl 2 rfl) ?_
                        refine lv_aload_n hx hb dX5_digest_126 rfl (lv_at hl 0 rfl) ?_
                        refine va_get (ci := 5) (v := .int ((X 8) 2)) (C := RX5) (T := TX5) (N := 6) hx hb hts inX5 hown hK hP _ (cw_arm (kA := kA) (ad := ad) (X := up2 X 7 T)) rfl 5 (by decide) (hts _ q_181) (fun _ h9 => h9) rfl dX5_digest_127 ?_
                        refine lv_icmp_ge (tgt := 150) hx hb dX5_digest_130 (by decide) (fun c_5 => ?_) (fun c_5 => ?_)
                        · exact absurd c_5 (cnt_nge (N := L) eD hlen.symm (by omega) (by omega))
                        · skip
                          replace c_5 := nge_l c_5
                          refine lv_lload_n hx hb dX5_digest_133 rfl (lv_at hl 1 rfl) ?_
                          refine lv_aload_n hx hb dX5_digest_134 rfl (lv_at hl 0 rfl) ?_
                          refine lv_iload_n hx hb dX5_digest_135 rfl (lv_at hl 2 rfl) ?_
                          refine cs_p (runV (As := [.int xD]) (rest := [.long qD]) ⟨hx, hb, hml, hown, hts⟩ (m_X5_codeAt l D kA ad (up2 X 7 T) xD ) q_211 q_213 qp_1 q_1 q_214 hd_X5_codeAt ⟨rfl, rfl⟩ ⟨Nat.le_of_ble_eq_true rfl, Nat.le_of_ble_eq_true rfl⟩ hK (ws := (cw kA ad (up2 X 7 T))) hP hD _ (ci := 5) (C := RX5) (T := TX5) (N := 6) rfl (cw_arm (kA := kA) (ad := ad) (X := up2 X 7 T)) rfl hl.1 rfl (Nat.le_of_ble_eq_true rfl) dX5_digest_136 ⟨Nat.zero_le _, Nat.zero_le _⟩) ?_
                          refine W_top (v' := .int (cdF ((X 9)) xD)) rfl ?_
                          refine lv_i2l (v := (cdF ((X 9)) xD).toInt64) hx hb dX5_digest_139 rfl ?_
                          refine cs_p (runS (As := [.long qD, .long ((cdF ((X 9)) xD).toInt64)]) (rest := []) ⟨hx, hb, hml, hown, hts⟩ (m_X5_mixed l D kA ad (up2 X 7 T) qD ((cdF ((X 9)) xD).toInt64) ) q_289 q_290 q_1 q_291 hd_X5_mixed ⟨rfl, rfl⟩ ⟨Nat.le_of_ble_eq_true rfl, Nat.le_of_ble_eq_true rfl⟩ hK (ws := (cw kA ad (up2 X 7 T))) hP hD rfl hl.1 rfl (Nat.le_of_ble_eq_true rfl) dX5_digest_140 ⟨Nat.zero_le _, Nat.zero_le _⟩) ?_
                          refine lv_lstore_n (lv' := [(1, .long (mx qD ((cdF ((X 9)) xD).toInt64))), (0, .ref (ad 0)), (3, .int xD)]) hx hb dX5_digest_143 rfl hl (by decide) rfl (fun ls hl => ?_)
                          refine lv_iinc (v := xD + 1) (lv' := [(3, .int (xD + 1)), (1, .long (mx qD ((cdF ((X 9)) xD).toInt64))), (0, .ref (ad 0))]) hx hb dX5_digest_144 hl (k := 2) rfl (by first | rfl | exact congrArg (_ + ·) (by decide)) (by decide) rfl (fun ls hl => ?_)
                          refine lv_goto (tgt := 125) hx hb dX5_digest_147 (by decide) ?_
                          exact ih125 (jD + 1) (mx qD ((cdF ((X 9)) xD).toInt64)) (xD + 1) (by omega) (by rw [eD]; exact nI_1 jD) (foldJ_1 (by rw [eD] <;> rfl) hresD) _ _ hP hD hS ls (lv_sub hl [2, 1, 0] rfl)
                    exact loop_125 L 0 (mx (mx qC ((mtF (X 0)).toInt64)) (((X 8) 2).toInt64)) 0 (by omega) (nI_0.symm) (by rw [dh5, dh4, ← hresC]; rfl) _ _ hP hD hS ls (lv_sub hl [2, 1, 0] rfl)
                  · exact absurd c_3 (fun h => h (cnt_ge (N := 4) eC rfl (by omega) (by omega)))
                | succ nC ih62 =>
                  intro jC T qC xC hjC eC hresC H locs hP hD hS ls hl
                  refine lv_iload_n hx hb dX5_digest_62 rfl (lv_at hl 2 rfl) ?_
                  refine lv_iconst (v := 4) hx hb dX5_digest_63 (by decide) ?_
                  refine lv_icmp_ge (tgt := 101) hx hb dX5_digest_64 (by decide) (fun c_6 => ?_) (fun c_6 => ?_)
                  · exact absurd c_6 (cnt_nge (N := 4) eC rfl (by decide) (by omega))
                  · skip
                    replace c_6 := nge_l c_6
                    refine lv_aload_n hx hb dX5_digest_67 rfl (lv_at hl 0 rfl) ?_
                    refine va_get (ci := 5) (v := .ref (sA ad 0)) (C := RX5) (T := TX5) (N := 6) hx hb hts inX5 hown hK hP _ (cw_arm (kA := kA) (ad := ad) (X := up2 X 7 T)) rfl 0 (by decide) (hts _ q_176) (fun _ h9 => h9) rfl dX5_digest_68 ?_
                    refine lv_iload_n hx hb dX5_digest_71 rfl (lv_at hl 2 rfl) ?_
                    refine cs_p (runV (As := [.int xC]) (rest := []) ⟨hx, hb, hml, hown, hts⟩ (m_X4_gearAt l D kA ad (up2 X 7 T) 0 jC xC (by omega) (eC) (by omega)) q_297 q_248 q_249 q_2 q_250 hd_X4_gearAt ⟨rfl, rfl⟩ ⟨Nat.le_of_ble_eq_true rfl, Nat.le_of_ble_eq_true rfl⟩ hK (ws := (cw kA ad (up2 X 7 T))) hP hD _ (ci := 4) (C := RX4) (T := TX4) (N := 4) rfl (cw_state (kA := kA) (ad := ad) (X := up2 X 7 T) (r := 0) (by omega)) rfl hl.1 rfl (Nat.le_of_ble_eq_true rfl) dX5_digest_72 ⟨Nat.zero_le _, Nat.zero_le _⟩) ?_
                    refine lv_astore (lv' := [(4, .ref (gA ad 0 jC)), (0, .ref (ad 0)), (1, .long qC), (3, .int xC)]) hx hb dX5_digest_75 hl (by decide) rfl (fun ls hl => ?_)
                    refine lv_aload hx hb dX5_digest_77 (lv_at hl 0 rfl) ?_
                    refine lv_ifnull hx hb dX5_digest_79 ?_
                    refine lv_aload_n hx hb dX5_digest_82 rfl (lv_at hl 1 rfl) ?_
                    refine lv_lload_n hx hb dX5_digest_83 rfl (lv_at hl 2 rfl) ?_
                    refine lv_aload hx hb dX5_digest_84 (lv_at hl 0 rfl) ?_
                    refine cs_p (runS (As := [.long qC, .ref (gA ad 0 jC)]) (rest := [.ref (ad 0)]) ⟨hx, hb, hml, hown, hts⟩ (m_X5_mixedWithFacts l D kA ad (up2 X 7 T) qC jC (by omega)) q_298 q_299 q_1 q_300 hd_X5_mixedWithFacts ⟨rfl, rfl⟩ ⟨Nat.le_of_ble_eq_true rfl, Nat.le_of_ble_eq_true rfl⟩ hK (ws := (cw kA ad (up2 X 7 T))) hP hD rfl hl.1 rfl (Nat.le_of_ble_eq_true rfl) dX5_digest_86 ⟨Nat.zero_le _, Nat.zero_le _⟩) ?_
                    refine W_top (v' := .long (mfF (sl ((X 0)) jC) qC)) rfl ?_
                    refine lv_aload hx hb dX5_digest_89 (lv_at hl 0 rfl) ?_
                    refine cs_fs (runV (As := [.long (mfF (sl ((X 0)) jC) qC), .ref (gA ad 0 jC)]) (rest := []) ⟨hx, hb, hml, hown, hts⟩ (m_X5_mixedWithForecasts l D kA ad (up2 X 7 T) (mfF (sl ((X 0)) jC) qC) jC (by omega)) q_303 q_305 qp_3 q_1 q_306 hd_X5_mixedWithForecasts ⟨rfl, rfl⟩ ⟨Nat.le_of_ble_eq_true rfl, Nat.le_of_ble_eq_true rfl⟩ hK (ws := (cw kA ad (up2 X 7 T))) hP hD _ (ci := 5) (C := RX5) (T := TX5) (N := 6) rfl (cw_arm (kA := kA) (ad := ad) (X := up2 X 7 T)) rfl hl.1 rfl (Nat.le_of_ble_eq_true rfl) dX5_digest_91 ⟨Nat.zero_le _, Nat.zero_le _⟩) hS (fun _ h => cw_Aw h) (fun H locs hP _ hS => ?_)
                    have hD := cw_D (X' := up2 (up2 X 7 T) 7 (fc4 (T) ((X 0)) jC (mfF (sl ((X 0)) jC) qC)).2) hD
                    have hP : va_P D vwCl (cw kA ad (up2 (up2 X 7 T) 7 (fc4 (T) ((X 0)) jC (mfF (sl ((X 0)) jC) qC)).2)) H := hP
                    rw [nf_2] at hP hD
                    refine W_top (v' := .long (fcF (T) ((X 0)) jC (mfF (sl ((X 0)) jC) qC))) rfl ?_
                    refine lv_lstore_n (lv' := [(1, .long (fcF (T) ((X 0)) jC (mfF (sl ((X 0)) jC) qC))), (4, .ref (gA ad 0 jC)), (0, .ref (ad 0)), (3, .int xC)]) hx hb dX5_digest_94 rfl hl (by decide) rfl (fun ls hl => ?_)
                    refine lv_iinc (v := xC + 1) (lv' := [(3, .int (xC + 1)), (1, .long (fcF (T) ((X 0)) jC (mfF (sl ((X 0)) jC) qC))), (4, .ref (gA ad 0 jC)), (0, .ref (ad 0))]) hx hb dX5_digest_95 hl (k := 3) rfl (by first | rfl | exact congrArg (_ + ·) (by decide)) (by decide) rfl (fun ls hl => ?_)
                    refine lv_goto (tgt := 62) hx hb dX5_digest_98 (by decide) ?_
                    exact ih62 (jC + 1) ((fc4 (T) ((X 0)) jC (mfF (sl ((X 0)) jC) qC)).2) (fcF (T) ((X 0)) jC (mfF (sl ((X 0)) jC) qC)) (xC + 1) (by omega) (by rw [eC]; exact nI_1 jC) (by rw [← hresC]; rfl) _ _ hP hD hS ls (lv_sub hl [3, 1, 0] rfl)
              exact loop_62 4 0 (X 7) qB 0 (by omega) (nI_0.symm) (by rw [dh3, ← hresB]; rfl) _ _ hP hD hS ls (lv_sub hl [1, 2, 0] rfl)
            · exact absurd c_2 (fun q => q (cnt_ge (N := 6) eB rfl (by omega) (by omega)))
          | succ nB ih31 =>
            intro jB qB xB hjB eB hresB H locs hP hD hS ls hl
            refine lv_iload_n hx hb dX5_digest_31 rfl (lv_at hl 2 rfl) ?_
            refine lv_bipush (v := 6) hx hb dX5_digest_32 (by decide) ?_
            refine lv_icmp_ge (tgt := 60) hx hb dX5_digest_34 (by decide) (fun c_7 => ?_) (fun c_7 => ?_)
            · exact absurd c_7 (cnt_nge (N := 6) eB rfl (by omega) (by omega))
            · skip
              replace c_7 := nge_l c_7
              refine lv_lload_n hx hb dX5_digest_37 rfl (lv_at hl 1 rfl) ?_
              refine lv_aload_n hx hb dX5_digest_38 rfl (lv_at hl 0 rfl) ?_
              refine va_get (ci := 5) (v := .ref (sA ad 0)) (C := RX5) (T := TX5) (N := 6) hx hb hts inX5 hown hK hP _ (cw_arm (kA := kA) (ad := ad) (X := up2 X 7 (X 7))) rfl 0 (by decide) (hts _ q_176) (fun _ h9 => h9) rfl dX5_digest_39 ?_
              refine va_get (ci := 4) (v := .ref (rA ad 0)) (C := RX4) (T := TX4) (N := 4) hx hb hts inX4 hown hK hP _ (cw_state (kA := kA) (ad := ad) (X := up2 X 7 (X 7)) (r := 0) (by omega)) rfl 0 (by decide) (hts _ q_117) (fun _ h9 => h9) rfl dX5_digest_42 ?_
              refine lv_iload_n hx hb dX5_digest_45 rfl (lv_at hl 2 rfl) ?_
              refine cs_p (runV (As := [.int xB]) (rest := [.long qB]) ⟨hx, hb, hml, hown, hts⟩ (m_X3_valueOf l D kA (rA ad 0) (X 0) xB ) q_293 q_294 q_295 q_3 q_296 hd_X3_valueOf ⟨rfl, rfl⟩ ⟨Nat.le_of_ble_eq_true rfl, Nat.le_of_ble_eq_true rfl⟩ hK (ws := [((rA ad 0), rC (X 0))]) (P1 hP (cw_rules (kA := kA) (ad := ad) (X := up2 X 7 (X 7)) (r := 0) (by omega))) (D1 hD (cw_rules (kA := kA) (ad := ad) (X := up2 X 7 (X 7)) (r := 0) (by omega))) 0 (ci := 3) (C := RX3) (T := TX3) (N := 6) rfl rfl rfl hl.1 rfl (Nat.le_of_ble_eq_true rfl) dX5_digest_46 ⟨Nat.zero_le _, Nat.zero_le _⟩) ?_
              refine lv_i2l (v := (rvF (X 0) xB).toInt64) hx hb dX5_digest_49 rfl ?_
              refine cs_p (runS (As := [.long qB, .long ((rvF (X 0) xB).toInt64)]) (rest := []) ⟨hx, hb, hml, hown, hts⟩ (m_X5_mixed l D kA ad (up2 X 7 (X 7)) qB ((rvF (X 0) xB).toInt64) ) q_289 q_290 q_1 q_291 hd_X5_mixed ⟨rfl, rfl⟩ ⟨Nat.le_of_ble_eq_true rfl, Nat.le_of_ble_eq_true rfl⟩ hK (ws := (cw kA ad (up2 X 7 (X 7)))) hP hD rfl hl.1 rfl (Nat.le_of_ble_eq_true rfl) dX5_digest_50 ⟨Nat.zero_le _, Nat.zero_le _⟩) ?_
              refine lv_lstore_n (lv' := [(1, .long (mx qB ((rvF (X 0) xB).toInt64))), (0, .ref (ad 0)), (3, .int xB)]) hx hb dX5_digest_53 rfl hl (by decide) rfl (fun ls hl => ?_)
              refine lv_iinc (v := xB + 1) (lv' := [(3, .int (xB + 1)), (1, .long (mx qB ((rvF (X 0) xB).toInt64))), (0, .ref (ad 0))]) hx hb dX5_digest_54 hl (k := 2) rfl (by first | rfl | exact congrArg (_ + ·) (by decide)) (by decide) rfl (fun ls hl => ?_)
              refine lv_goto (tgt := 31) hx hb dX5_digest_57 (by decide) ?_
              exact ih31 (jB + 1) (mx qB ((rvF (X 0) xB).toInt64)) (xB + 1) (by omega) (by rw [eB]; exact nI_1 jB) (foldJ_1 (by rw [eB] <;> rfl) hresB) _ _ hP hD hS ls (lv_sub hl [2, 1, 0] rfl)
        exact loop_31 6 0 qA 0 (by omega) (nI_0.symm) (by rw [dh2, ← hresA]; rfl) _ _ hP hD hS ls (lv_sub hl [1, 2, 0] rfl)
      · exact absurd c_1 (fun q => q (cnt_ge (N := 9) eA rfl (by omega) (by omega)))
    | succ nA ih6 =>
      intro jA qA xA hjA eA hresA H locs hP hD hS ls hl
      refine lv_iload_n hx hb dX5_digest_6 rfl (lv_at hl 2 rfl) ?_
      refine lv_bipush (v := 9) hx hb dX5_digest_7 (by decide) ?_
      refine lv_icmp_ge (tgt := 29) hx hb dX5_digest_9 (by decide) (fun c_8 => ?_) (fun c_8 => ?_)
      · exact absurd c_8 (cnt_nge (N := 9) eA rfl (by omega) (by omega))
      · skip
        replace c_8 := nge_l c_8
        refine lv_lload_n hx hb dX5_digest_12 rfl (lv_at hl 1 rfl) ?_
        refine lv_aload_n hx hb dX5_digest_13 rfl (lv_at hl 0 rfl) ?_
        refine lv_iload_n hx hb dX5_digest_14 rfl (lv_at hl 2 rfl) ?_
        refine cs_p (runV (As := [.int xA]) (rest := [.long qA]) ⟨hx, hb, hml, hown, hts⟩ (m_X5_countOf l D kA ad (up2 X 7 (X 7)) xA ) q_269 q_271 qp_2 q_1 q_272 hd_X5_countOf ⟨rfl, rfl⟩ ⟨Nat.le_of_ble_eq_true rfl, Nat.le_of_ble_eq_true rfl⟩ hK (ws := (cw kA ad (up2 X 7 (X 7)))) hP hD _ (ci := 5) (C := RX5) (T := TX5) (N := 6) rfl (cw_arm (kA := kA) (ad := ad) (X := up2 X 7 (X 7))) rfl hl.1 rfl (Nat.le_of_ble_eq_true rfl) dX5_digest_15 ⟨Nat.zero_le _, Nat.zero_le _⟩) ?_
        refine lv_i2l (v := (coF (up2 X 7 (X 7)) xA).toInt64) hx hb dX5_digest_18 rfl ?_
        refine cs_p (runS (As := [.long qA, .long ((coF (up2 X 7 (X 7)) xA).toInt64)]) (rest := []) ⟨hx, hb, hml, hown, hts⟩ (m_X5_mixed l D kA ad (up2 X 7 (X 7)) qA ((coF (up2 X 7 (X 7)) xA).toInt64) ) q_289 q_290 q_1 q_291 hd_X5_mixed ⟨rfl, rfl⟩ ⟨Nat.le_of_ble_eq_true rfl, Nat.le_of_ble_eq_true rfl⟩ hK (ws := (cw kA ad (up2 X 7 (X 7)))) hP hD rfl hl.1 rfl (Nat.le_of_ble_eq_true rfl) dX5_digest_19 ⟨Nat.zero_le _, Nat.zero_le _⟩) ?_
        refine lv_lstore_n (lv' := [(1, .long (mx qA ((coF (up2 X 7 (X 7)) xA).toInt64))), (0, .ref (ad 0)), (3, .int xA)]) hx hb dX5_digest_22 rfl hl (by decide) rfl (fun ls hl => ?_)
        refine lv_iinc (v := xA + 1) (lv' := [(3, .int (xA + 1)), (1, .long (mx qA ((coF (up2 X 7 (X 7)) xA).toInt64))), (0, .ref (ad 0))]) hx hb dX5_digest_23 hl (k := 2) rfl (by first | rfl | exact congrArg (_ + ·) (by decide)) (by decide) rfl (fun ls hl => ?_)
        refine lv_goto (tgt := 6) hx hb dX5_digest_26 (by decide) ?_
        exact ih6 (jA + 1) (mx qA ((coF (up2 X 7 (X 7)) xA).toInt64)) (xA + 1) (by omega) (by rw [eA]; exact nI_1 jA) (foldJ_1 (by rw [eA] <;> rfl) hresA) _ _ hP hD hS ls (lv_sub hl [2, 1, 0] rfl)
  exact loop_6 9 0 2417 0 (by omega) (nI_0.symm) (rfl) _ _ hP hD hS ls (lv_sub hl [2, 1, 0] rfl)
