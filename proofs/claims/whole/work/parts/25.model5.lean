
def ivF (s v : Int32) : Bool := if s = 1 then wiF v 1 50 else if s = 2 then wiF v 1 99 else if s = 4 then wiF v 0 100 else if s = 5 then wiF v 0 200 else wiF v 0 20
/-- the answers of the calls: 0 where the call is carried out, else the number of what is thrown -/
def eaT (z : Nat → Int32) (p : Int32) : Int32 := if wiF p 1 10000 = true then (if 100000 < z 6 + p then 2 else 0) else 1
def loT (p q : Int32) : Int32 := if wiF p 0 3 = true then (if wiF q 0 5 = true then 0 else 2) else 1
def seT (s v : Int32) : Int32 := if wiF s 0 5 = true then (if ivF s v = true then 0 else 2) else 1
def spU (n : Int32) : Bool := decide (0 < n)
def spT (z : Nat → Int32) (p n : Int32) : Int32 := if wiF p 0 3 = true then (if n = 0 then 2 else if wiF n (-24) 24 = true then (if canF z p.toNatClampNeg (wI (spU n)) = true then 0 else 3) else 2) else 1
def goT (z : Nat → Int32) (p q : Int32) : Int32 := if wiF p 0 3 = true then (if wiF q 0 23 = true then (if cgF z p.toNatClampNeg q = true then 0 else 3) else 2) else 1
def axT (p : Int32) : Int32 := if wiF p 0 3 = true then 0 else 1
def geT (z : Nat → Int32) (p : Int32) : Int32 := if wiF p 0 3 = true then (if gsF z = true then 0 else 2) else 1
def meT (z : Nat → Int32) (p t : Int32) : Int32 := if wiF p 0 3 = true then (if wiF t 0 23 = true then (if z 6 < gwr (sl z p.toNatClampNeg) t * z 3 then 2 else 0) else 1) else 1
def apT (len p : Int32) : Int32 := if wiF p 33 126 = true then (if len = 60 then 2 else 0) else 1
theorem wi_ex {p : Int32} {N : Nat} {M : Int32} (h : wiF p 0 M = true) (hM : M = nI N) (hN : N < 2 ^ 31 := by omega) : ∃ a, a < N + 1 ∧ p = nI a ∧ p.toNatClampNeg = a := by
  subst hM
  unfold wiF at h
  by_cases h0 : p < 0
  · rw [if_pos h0] at h; exact absurd h (by decide)
  · by_cases h1 : nI N < p
    · rw [if_neg h0, if_pos h1] at h; exact absurd h (by decide)
    · have ei : (nI N).toInt = N := by rw [← Int32.toInt_ofNat_of_lt hN]; rfl
      rw [Int32.lt_iff_toInt_lt] at h0 h1
      have e0 : (0 : Int32).toInt = 0 := rfl
      refine ⟨p.toInt.toNat, by omega, ?_, ?_⟩
      · apply Int32.toInt_inj.mp
        have : (nI p.toInt.toNat).toInt = p.toInt.toNat := by rw [← Int32.toInt_ofNat_of_lt (by omega)]; rfl
        omega
      · rfl
theorem nAp {n : Int32} (h : 0 < n) : n = nI n.toInt.natAbs := by
  rw [Int32.lt_iff_toInt_lt] at h
  have e0 : (0 : Int32).toInt = 0 := rfl
  apply Int32.toInt_inj.mp
  have hu : n.toInt < 2 ^ 31 := Int32.toInt_lt n
  have : (nI n.toInt.natAbs).toInt = n.toInt.natAbs := by rw [← Int32.toInt_ofNat_of_lt (by omega)]; rfl
  omega
theorem wi24 {n : Int32} (h : wiF n (-24) 24 = true) : n.toInt.natAbs < 25 := by
  unfold wiF at h
  by_cases h0 : n < -24
  · rw [if_pos h0] at h; exact absurd h (by decide)
  · by_cases h1 : 24 < n
    · rw [if_neg h0, if_pos h1] at h; exact absurd h (by decide)
    · rw [Int32.lt_iff_toInt_lt] at h0 h1
      have e0 : (-24 : Int32).toInt = -24 := rfl
      have e1 : (24 : Int32).toInt = 24 := rfl
      omega
theorem nAn {n : Int32} (h : n < 0) (hb : n.toInt.natAbs < 25) : -n = nI n.toInt.natAbs := by
  rw [Int32.lt_iff_toInt_lt] at h
  have e0 : (0 : Int32).toInt = 0 := rfl
  have hall : ∀ k : Nat, k < 25 → (-nI k).toInt = -(k : Int) := by decide +kernel
  have e : n = -nI n.toInt.natAbs := by
    apply Int32.toInt_inj.mp
    rw [hall _ hb]
    omega
  conv => lhs; rw [e]
  exact Int32.neg_neg
theorem lt_of {n : Int32} (h0 : ¬ n = 0) (h1 : ¬ 0 < n) : n < 0 := by
  have h2 : ¬ n.toInt = 0 := fun q => h0 (Int32.toInt_inj.mp q)
  rw [Int32.lt_iff_toInt_lt] at h1 ⊢
  have e0 : (0 : Int32).toInt = 0 := rfl
  omega
theorem nlt_of {n : Int32} (h1 : 0 < n) : ¬ n < 0 := by
  rw [Int32.lt_iff_toInt_lt] at h1 ⊢
  have e0 : (0 : Int32).toInt = 0 := rfl
  omega
theorem le_of_nlt {n : Int32} (h1 : ¬ n < 0) : 0 ≤ n := by
  rw [Int32.lt_iff_toInt_lt] at h1
  rw [Int32.le_iff_toInt_le]
  have e0 : (0 : Int32).toInt = 0 := rfl
  omega
theorem spU_t {n : Int32} (h : 0 < n) : spU n = true := decide_eq_true h
theorem spU_f {n : Int32} (h : ¬ 0 < n) : spU n = false := decide_eq_false h

theorem n0_of {t v : Int32} (h : t = v) (hv : ¬ v = 0) : ¬ t = 0 := h ▸ hv
theorem z_add {x : Int32} : 0 + x = x := Int32.zero_add x
theorem grZ_6 {z : Nat → Int32} {a : Nat} : grZ z a 6 = z 6 - z 5 := by
  unfold grZ upd
  rw [if_neg (by omega)]
  rfl
theorem six0 {s : Int32} {w : Nat} (e : s = nI w) (hw : w ≤ 60) (h : ¬ s = 60) : ¬ w = 60 := fun q => h (by subst q; exact e)
def unL (z h : Nat → Int32) (w j : Nat) : Nat → Int32 := fun i => if i < j then h (148 * w + i) else z i
theorem unL_0 {z h : Nat → Int32} {w : Nat} : z = unL z h w 0 := funext fun i => (if_neg (by omega)).symm
theorem unL_s {z z' h : Nat → Int32} {w j : Nat} (e : z' = unL z h w j) : upd z' j (h (148 * w + j)) = unL z h w (j + 1) := funext fun i => by
  subst e
  unfold upd unL
  by_cases hi : i = j
  · subst hi; rw [if_pos rfl, if_pos (by omega)]
  · rw [if_neg hi]
    by_cases h2 : i < j
    · rw [if_pos h2, if_pos (by omega)]
    · rw [if_neg h2, if_neg (by omega)]
theorem pos_of {s : Int32} {w : Nat} (e : s = nI w) (hw : w ≤ 6) (h : 0 < s) : 0 < w := by
  subst e
  exact (nI_ltI (a := 0) (by omega) (by omega)).mp h
theorem hd_X6_isValue : yX6_isValue.cls ≠ "java/lang/invoke/MethodHandle" ∧ yX6_isValue.cls ≠ "java/lang/invoke/VarHandle" ∧ (parseMethodDescriptor yX6_isValue.desc).map (fun d => d.parameters.length) = some 2 := by decide +kernel
set_option maxRecDepth 100000 in
set_option maxHeartbeats 4000000 in
theorem m_X6_isValue (l : Launch) (D : va_G) (kA : Nat → Nat) (p0 : Int32) (p1 : Int32) : Met l yX6_isValue (Cond.code yX6_isValue cX6_isValue 2 (some .boolean) :: AW) ({ frames := 1, cells := 0, slots := 0, locals := 22 } : Room) (Pz [.int p0, .int p1] D (TY kA) []) (pQ (some (.int (bI (ivF p0 p1))))) 0 0 (fun _ => False) := by
  refine MetZ (by decide +kernel) (Nat.le_of_ble_eq_true rfl) ?_
  intro p e s m below meth c ls hx hb hrt hts hown hml hlk hnm hP hK hD hS hl
  have hl : lv_has ls 2 [(0, .int p0), (1, .int p1)] := hl
  refine lv_iload_n hx hb dX6_isValue_0 rfl (lv_at hl 0 rfl) ?_
  by_cases c_1 : p0 = 1
  · skip
    refine lv_tableIn (off := 35) (tgt := 36) hx hb dX6_isValue_1 (by rw [c_1]; decide) (by rw [c_1]; decide) (by rw [c_1]; decide +kernel) (by decide) ?_
    refine lv_iload_n hx hb dX6_isValue_36 rfl (lv_at hl 1 rfl) ?_
    refine lv_iconst (v := 1) hx hb dX6_isValue_37 (by decide) ?_
    refine lv_bipush (v := 50) hx hb dX6_isValue_38 (by decide) ?_
    refine cs_p (runS (As := [.int p1, .int 1, .int 50]) (rest := []) ⟨hx, hb, hml, hown, hts⟩ (m_X6_within l D kA p1 1 50 ) q_818 q_819 q_7 q_820 hd_X6_within ⟨rfl, rfl⟩ ⟨Nat.le_of_ble_eq_true rfl, Nat.le_of_ble_eq_true rfl⟩ hK (ws := []) (hP.sub [] rfl) (hD.sub [] (by decide) rfl) rfl hl.1 rfl (Nat.le_of_ble_eq_true rfl) dX6_isValue_40 ⟨Nat.zero_le _, Nat.zero_le _⟩) ?_
    exact end_pz hx hb hrt hlk (nz_bI _) (by rw [ivF, c_1]; rfl) dX6_isValue_43
  by_cases c_2 : p0 = 2
  · skip
    refine lv_tableIn (off := 43) (tgt := 44) hx hb dX6_isValue_1 (by rw [c_2]; decide) (by rw [c_2]; decide) (by rw [c_2]; decide +kernel) (by decide) ?_
    refine lv_iload_n hx hb dX6_isValue_44 rfl (lv_at hl 1 rfl) ?_
    refine lv_iconst (v := 1) hx hb dX6_isValue_45 (by decide) ?_
    refine lv_bipush (v := 99) hx hb dX6_isValue_46 (by decide) ?_
    refine cs_p (runS (As := [.int p1, .int 1, .int 99]) (rest := []) ⟨hx, hb, hml, hown, hts⟩ (m_X6_within l D kA p1 1 99 ) q_818 q_819 q_7 q_820 hd_X6_within ⟨rfl, rfl⟩ ⟨Nat.le_of_ble_eq_true rfl, Nat.le_of_ble_eq_true rfl⟩ hK (ws := []) (hP.sub [] rfl) (hD.sub [] (by decide) rfl) rfl hl.1 rfl (Nat.le_of_ble_eq_true rfl) dX6_isValue_48 ⟨Nat.zero_le _, Nat.zero_le _⟩) ?_
    exact end_pz hx hb hrt hlk (nz_bI _) (by rw [ivF, c_2]; rfl) dX6_isValue_51
  by_cases c_3 : p0 = 3
  · skip
    refine lv_tableIn (off := 68) (tgt := 69) hx hb dX6_isValue_1 (by rw [c_3]; decide) (by rw [c_3]; decide) (by rw [c_3]; decide +kernel) (by decide) ?_
    refine lv_iload_n hx hb dX6_isValue_69 rfl (lv_at hl 1 rfl) ?_
    refine lv_iconst (v := 0) hx hb dX6_isValue_70 (by decide) ?_
    refine lv_bipush (v := 20) hx hb dX6_isValue_71 (by decide) ?_
    refine cs_p (runS (As := [.int p1, .int 0, .int 20]) (rest := []) ⟨hx, hb, hml, hown, hts⟩ (m_X6_within l D kA p1 0 20 ) q_818 q_819 q_7 q_820 hd_X6_within ⟨rfl, rfl⟩ ⟨Nat.le_of_ble_eq_true rfl, Nat.le_of_ble_eq_true rfl⟩ hK (ws := []) (hP.sub [] rfl) (hD.sub [] (by decide) rfl) rfl hl.1 rfl (Nat.le_of_ble_eq_true rfl) dX6_isValue_73 ⟨Nat.zero_le _, Nat.zero_le _⟩) ?_
    exact end_pz hx hb hrt hlk (nz_bI _) (by rw [ivF, c_3]; rfl) dX6_isValue_76
  by_cases c_4 : p0 = 4
  · skip
    refine lv_tableIn (off := 51) (tgt := 52) hx hb dX6_isValue_1 (by rw [c_4]; decide) (by rw [c_4]; decide) (by rw [c_4]; decide +kernel) (by decide) ?_
    refine lv_iload_n hx hb dX6_isValue_52 rfl (lv_at hl 1 rfl) ?_
    refine lv_iconst (v := 0) hx hb dX6_isValue_53 (by decide) ?_
    refine lv_bipush (v := 100) hx hb dX6_isValue_54 (by decide) ?_
    refine cs_p (runS (As := [.int p1, .int 0, .int 100]) (rest := []) ⟨hx, hb, hml, hown, hts⟩ (m_X6_within l D kA p1 0 100 ) q_818 q_819 q_7 q_820 hd_X6_within ⟨rfl, rfl⟩ ⟨Nat.le_of_ble_eq_true rfl, Nat.le_of_ble_eq_true rfl⟩ hK (ws := []) (hP.sub [] rfl) (hD.sub [] (by decide) rfl) rfl hl.1 rfl (Nat.le_of_ble_eq_true rfl) dX6_isValue_56 ⟨Nat.zero_le _, Nat.zero_le _⟩) ?_
    exact end_pz hx hb hrt hlk (nz_bI _) (by rw [ivF, c_4]; rfl) dX6_isValue_59
  by_cases c_5 : p0 = 5
  · skip
    refine lv_tableIn (off := 59) (tgt := 60) hx hb dX6_isValue_1 (by rw [c_5]; decide) (by rw [c_5]; decide) (by rw [c_5]; decide +kernel) (by decide) ?_
    refine lv_iload_n hx hb dX6_isValue_60 rfl (lv_at hl 1 rfl) ?_
    refine lv_iconst (v := 0) hx hb dX6_isValue_61 (by decide) ?_
    refine lv_sipush (v := 200) hx hb dX6_isValue_62 (by decide) ?_
    refine cs_p (runS (As := [.int p1, .int 0, .int 200]) (rest := []) ⟨hx, hb, hml, hown, hts⟩ (m_X6_within l D kA p1 0 200 ) q_818 q_819 q_7 q_820 hd_X6_within ⟨rfl, rfl⟩ ⟨Nat.le_of_ble_eq_true rfl, Nat.le_of_ble_eq_true rfl⟩ hK (ws := []) (hP.sub [] rfl) (hD.sub [] (by decide) rfl) rfl hl.1 rfl (Nat.le_of_ble_eq_true rfl) dX6_isValue_65 ⟨Nat.zero_le _, Nat.zero_le _⟩) ?_
    exact end_pz hx hb hrt hlk (nz_bI _) (by rw [ivF, c_5]; rfl) dX6_isValue_68
  refine lv_tableOut (tgt := 69) hx hb dX6_isValue_1 (sw_out 1 5 (by intro k h1 h2; rcases (show k = 1 ∨ k = 2 ∨ k = 3 ∨ k = 4 ∨ k = 5 by omega) with rfl | rfl | rfl | rfl | rfl <;> first | exact lv_neT c_1 (by decide) | exact lv_neT c_2 (by decide) | exact lv_neT c_3 (by decide) | exact lv_neT c_4 (by decide) | exact lv_neT c_5 (by decide))) (by decide) ?_
  refine lv_iload_n hx hb dX6_isValue_69 rfl (lv_at hl 1 rfl) ?_
  refine lv_iconst (v := 0) hx hb dX6_isValue_70 (by decide) ?_
  refine lv_bipush (v := 20) hx hb dX6_isValue_71 (by decide) ?_
  refine cs_p (runS (As := [.int p1, .int 0, .int 20]) (rest := []) ⟨hx, hb, hml, hown, hts⟩ (m_X6_within l D kA p1 0 20 ) q_818 q_819 q_7 q_820 hd_X6_within ⟨rfl, rfl⟩ ⟨Nat.le_of_ble_eq_true rfl, Nat.le_of_ble_eq_true rfl⟩ hK (ws := []) (hP.sub [] rfl) (hD.sub [] (by decide) rfl) rfl hl.1 rfl (Nat.le_of_ble_eq_true rfl) dX6_isValue_73 ⟨Nat.zero_le _, Nat.zero_le _⟩) ?_
  exact end_pz hx hb hrt hlk (nz_bI _) (by rw [ivF, if_neg c_1, if_neg c_2, if_neg c_4, if_neg c_5]) dX6_isValue_76

theorem hd_X6_pay : yX6_pay.cls ≠ "java/lang/invoke/MethodHandle" ∧ yX6_pay.cls ≠ "java/lang/invoke/VarHandle" ∧ (parseMethodDescriptor yX6_pay.desc).map (fun d => d.parameters.length) = some 1 := by decide +kernel
set_option maxRecDepth 100000 in
set_option maxHeartbeats 4000000 in
theorem m_X6_pay (l : Launch) (D : va_G) (kA : Nat → Nat) (m0 : Nat) (m1 : Nat) (m2 : Nat) (m3 : Nat) (m4 : Nat) (m5 : Nat) (z : Nat → Int32) (h : Nat → Int32) (tx : Nat → Int32) (pt : Nat → Int32) (kp : Nat → Int32) (st : Int32) (len : Int32) (th : Int32) (wo : Int32) (rd : Int32) (nu : Int32) (du : Int32) (hs : Int64) (p0 : Int32) : Met l yX6_pay (Cond.code yX6_pay cX6_pay 2 none :: AW) ({ frames := 0, cells := 0, slots := 0, locals := 0 } : Room) (Pz [.ref m0, .int p0] D (TY kA) [(m0, .inr (6, [.ref m1, .int st, .ref m2, .int len, .ref m3, .int th, .int wo, .ref m4, .int rd, .int nu, .int du, .ref m5, .long hs])), (m1, .inl (kA 0, 148, .inl z)), (m2, .inl (kA 0, 888, .inl h)), (m3, .inl (kA 0, 60, .inl tx)), (m4, .inl (kA 0, 72, .inl pt)), (m5, .inl (kA 0, 148, .inl kp))]) (fQ none D [(m0, .inr (6, [.ref m1, .int st, .ref m2, .int len, .ref m3, .int th, .int wo, .ref m4, .int rd, .int nu, .int du, .ref m5, .long hs])), (m1, .inl (kA 0, 148, .inl z)), (m2, .inl (kA 0, 888, .inl h)), (m3, .inl (kA 0, 60, .inl tx)), (m4, .inl (kA 0, 72, .inl pt)), (m5, .inl (kA 0, 148, .inl kp))] [(m0, .inr (6, [.ref m1, .int st, .ref m2, .int len, .ref m3, .int th, .int wo, .ref m4, .int rd, .int nu, .int du, .ref m5, .long hs])), (m1, .inl (kA 0, 148, .inl (payZ z p0))), (m2, .inl (kA 0, 888, .inl h)), (m3, .inl (kA 0, 60, .inl tx)), (m4, .inl (kA 0, 72, .inl pt)), (m5, .inl (kA 0, 148, .inl kp))]) 0 0 (Aw [(m0, .inr (6, [.ref m1, .int st, .ref m2, .int len, .ref m3, .int th, .int wo, .ref m4, .int rd, .int nu, .int du, .ref m5, .long hs])), (m1, .inl (kA 0, 148, .inl z)), (m2, .inl (kA 0, 888, .inl h)), (m3, .inl (kA 0, 60, .inl tx)), (m4, .inl (kA 0, 72, .inl pt)), (m5, .inl (kA 0, 148, .inl kp))]) := by
  refine MetZ (by decide +kernel) (Nat.le_of_ble_eq_true rfl) ?_
  intro p e s m below meth c ls hx hb hrt hts hown hml hlk hnm hP hK hD hS hl
  have hl : lv_has ls 2 [(0, .ref m0), (1, .int p0)] := hl
  refine lv_aload_n hx hb dX6_pay_0 rfl (lv_at hl 0 rfl) ?_
  refine va_get (ci := 6) (v := .ref m1) (C := RX6) (T := TX6) (N := 13) hx hb hts inX6 hown hK hP 0 rfl rfl 0 (by decide) (hts _ q_770) (fun _ h9 => h9) rfl dX6_pay_1 ?_
  refine lv_bipush (v := 6) hx hb dX6_pay_4 (by decide) ?_
  refine lv_dup2_11 hx hb dX6_pay_6 rfl rfl ?_
  refine va_iald (f := z) hx hb hK hP 1 0 rfl rfl (in_nI (j := 6) rfl (by omega) (by decide)) dX6_pay_7 ?_
  refine W_top (v' := .int (z 6)) rfl ?_
  refine lv_iload_n hx hb dX6_pay_8 rfl (lv_at hl 1 rfl) ?_
  refine lv_isub hx hb dX6_pay_9 ?_
  refine va_iast (f := z) hx hb hK hP hD hS 1 0 rfl rfl (in_nI (j := 6) rfl (by omega) (by decide)) dX6_pay_10 (fun H locs hP hD hS => ?_)
  have hP : va_P D vwCl [(m0, .inr (6, [.ref m1, .int st, .ref m2, .int len, .ref m3, .int th, .int wo, .ref m4, .int rd, .int nu, .int du, .ref m5, .long hs])), (m1, .inl (kA 0, 148, .inl (upd z 6 ((z 6) - p0)))), (m2, .inl (kA 0, 888, .inl h)), (m3, .inl (kA 0, 60, .inl tx)), (m4, .inl (kA 0, 72, .inl pt)), (m5, .inl (kA 0, 148, .inl kp))] H := hP
  have hD : va_D (Aw [(m0, .inr (6, [.ref m1, .int st, .ref m2, .int len, .ref m3, .int th, .int wo, .ref m4, .int rd, .int nu, .int du, .ref m5, .long hs])), (m1, .inl (kA 0, 148, .inl z)), (m2, .inl (kA 0, 888, .inl h)), (m3, .inl (kA 0, 60, .inl tx)), (m4, .inl (kA 0, 72, .inl pt)), (m5, .inl (kA 0, 148, .inl kp))]) [(m0, .inr (6, [.ref m1, .int st, .ref m2, .int len, .ref m3, .int th, .int wo, .ref m4, .int rd, .int nu, .int du, .ref m5, .long hs])), (m1, .inl (kA 0, 148, .inl (upd z 6 ((z 6) - p0)))), (m2, .inl (kA 0, 888, .inl h)), (m3, .inl (kA 0, 60, .inl tx)), (m4, .inl (kA 0, 72, .inl pt)), (m5, .inl (kA 0, 148, .inl kp))] := hD
  refine lv_aload_n hx hb dX6_pay_11 rfl (lv_at hl 0 rfl) ?_
  refine va_get (ci := 6) (v := .ref m1) (C := RX6) (T := TX6) (N := 13) hx hb hts inX6 hown hK hP 0 rfl rfl 0 (by decide) (hts _ q_770) (fun _ h9 => h9) rfl dX6_pay_12 ?_
  refine lv_bipush (v := 7) hx hb dX6_pay_15 (by decide) ?_
  refine lv_dup2_11 hx hb dX6_pay_17 rfl rfl ?_
  refine va_iald (f := upd z 6 ((z 6) - p0)) hx hb hK hP 1 0 rfl rfl (in_nI (j := 7) rfl (by omega) (by decide)) dX6_pay_18 ?_
  refine W_top (v' := .int ((upd z 6 ((z 6) - p0)) 7)) rfl ?_
  refine lv_iload_n hx hb dX6_pay_19 rfl (lv_at hl 1 rfl) ?_
  refine lv_iadd hx hb dX6_pay_20 ?_
  refine va_iast (f := upd z 6 ((z 6) - p0)) hx hb hK hP hD hS 1 0 rfl rfl (in_nI (j := 7) rfl (by omega) (by decide)) dX6_pay_21 (fun H locs hP hD hS => ?_)
  have hP : va_P D vwCl [(m0, .inr (6, [.ref m1, .int st, .ref m2, .int len, .ref m3, .int th, .int wo, .ref m4, .int rd, .int nu, .int du, .ref m5, .long hs])), (m1, .inl (kA 0, 148, .inl (upd (upd z 6 ((z 6) - p0)) 7 (((upd z 6 ((z 6) - p0)) 7) + p0)))), (m2, .inl (kA 0, 888, .inl h)), (m3, .inl (kA 0, 60, .inl tx)), (m4, .inl (kA 0, 72, .inl pt)), (m5, .inl (kA 0, 148, .inl kp))] H := hP
  have hD : va_D (Aw [(m0, .inr (6, [.ref m1, .int st, .ref m2, .int len, .ref m3, .int th, .int wo, .ref m4, .int rd, .int nu, .int du, .ref m5, .long hs])), (m1, .inl (kA 0, 148, .inl z)), (m2, .inl (kA 0, 888, .inl h)), (m3, .inl (kA 0, 60, .inl tx)), (m4, .inl (kA 0, 72, .inl pt)), (m5, .inl (kA 0, 148, .inl kp))]) [(m0, .inr (6, [.ref m1, .int st, .ref m2, .int len, .ref m3, .int th, .int wo, .ref m4, .int rd, .int nu, .int du, .ref m5, .long hs])), (m1, .inl (kA 0, 148, .inl (upd (upd z 6 ((z 6) - p0)) 7 (((upd z 6 ((z 6) - p0)) 7) + p0)))), (m2, .inl (kA 0, 888, .inl h)), (m3, .inl (kA 0, 60, .inl tx)), (m4, .inl (kA 0, 72, .inl pt)), (m5, .inl (kA 0, 148, .inl kp))] := hD
  have hP : va_P D vwCl [(m0, .inr (6, [.ref m1, .int st, .ref m2, .int len, .ref m3, .int th, .int wo, .ref m4, .int rd, .int nu, .int du, .ref m5, .long hs])), (m1, .inl (kA 0, 148, .inl (upd (upd z 6 ((z 6) - p0)) 7 (((upd z 6 ((z 6) - p0)) 7) + p0)))), (m2, .inl (kA 0, 888, .inl h)), (m3, .inl (kA 0, 60, .inl tx)), (m4, .inl (kA 0, 72, .inl pt)), (m5, .inl (kA 0, 148, .inl kp))] _ := hP.sub [0, 1, 2, 3, 4, 5] rfl
  exact end_fv hx hb hrt hlk hP hS (fun h => h) dX6_pay_22

theorem hd_X6_canGrease : yX6_canGrease.cls ≠ "java/lang/invoke/MethodHandle" ∧ yX6_canGrease.cls ≠ "java/lang/invoke/VarHandle" ∧ (parseMethodDescriptor yX6_canGrease.desc).map (fun d => d.parameters.length) = some 0 := by decide +kernel
set_option maxRecDepth 100000 in
set_option maxHeartbeats 4000000 in
theorem m_X6_canGrease (l : Launch) (D : va_G) (kA : Nat → Nat) (m0 : Nat) (m1 : Nat) (m2 : Nat) (m3 : Nat) (m4 : Nat) (m5 : Nat) (z : Nat → Int32) (h : Nat → Int32) (tx : Nat → Int32) (pt : Nat → Int32) (kp : Nat → Int32) (st : Int32) (len : Int32) (th : Int32) (wo : Int32) (rd : Int32) (nu : Int32) (du : Int32) (hs : Int64) : Met l yX6_canGrease (Cond.code yX6_canGrease cX6_canGrease 1 (some .boolean) :: AW) ({ frames := 0, cells := 0, slots := 0, locals := 0 } : Room) (Pz [.ref m0] D (TY kA) [(m0, .inr (6, [.ref m1, .int st, .ref m2, .int len, .ref m3, .int th, .int wo, .ref m4, .int rd, .int nu, .int du, .ref m5, .long hs])), (m1, .inl (kA 0, 148, .inl z)), (m2, .inl (kA 0, 888, .inl h)), (m3, .inl (kA 0, 60, .inl tx)), (m4, .inl (kA 0, 72, .inl pt)), (m5, .inl (kA 0, 148, .inl kp))]) (pQ (some (.int (bI (gsF z))))) 0 0 (fun _ => False) := by
  refine MetZ (by decide +kernel) (Nat.le_of_ble_eq_true rfl) ?_
  intro p e s m below meth c ls hx hb hrt hts hown hml hlk hnm hP hK hD hS hl
  have hl : lv_has ls 1 [(0, .ref m0)] := hl
  refine lv_aload_n hx hb dX6_canGrease_0 rfl (lv_at hl 0 rfl) ?_
  refine va_get (ci := 6) (v := .ref m1) (C := RX6) (T := TX6) (N := 13) hx hb hts inX6 hown hK hP 0 rfl rfl 0 (by decide) (hts _ q_770) (fun _ h9 => h9) rfl dX6_canGrease_1 ?_
  refine lv_bipush (v := 6) hx hb dX6_canGrease_4 (by decide) ?_
  refine va_iald (f := z) hx hb hK hP 1 0 rfl rfl (in_nI (j := 6) rfl (by omega) (by decide)) dX6_canGrease_6 ?_
  refine W_top (v' := .int (z 6)) rfl ?_
  refine lv_aload_n hx hb dX6_canGrease_7 rfl (lv_at hl 0 rfl) ?_
  refine va_get (ci := 6) (v := .ref m1) (C := RX6) (T := TX6) (N := 13) hx hb hts inX6 hown hK hP 0 rfl rfl 0 (by decide) (hts _ q_770) (fun _ h9 => h9) rfl dX6_canGrease_8 ?_
  refine lv_iconst (v := 5) hx hb dX6_canGrease_11 (by decide) ?_
  refine va_iald (f := z) hx hb hK hP 1 0 rfl rfl (in_nI (j := 5) rfl (by omega) (by decide)) dX6_canGrease_12 ?_
  refine W_top (v' := .int (z 5)) rfl ?_
  refine lv_icmp_lt (tgt := 20) hx hb dX6_canGrease_13 (by decide) (fun c_1 => ?_) (fun c_1 => ?_)
  · skip
    refine lv_iconst (v := 0) hx hb dX6_canGrease_20 (by decide) ?_
    exact end_pz hx hb hrt hlk (by decide) (by rw [gsF, if_pos c_1]; rfl) dX6_canGrease_21
  · skip
    refine lv_iconst (v := 1) hx hb dX6_canGrease_16 (by decide) ?_
    refine lv_goto (tgt := 21) hx hb dX6_canGrease_17 (by decide) ?_
    exact end_pz hx hb hrt hlk (by decide) (by rw [gsF, if_neg c_1]; rfl) dX6_canGrease_21

theorem hd_X6_greases : yX6_greases.cls ≠ "java/lang/invoke/MethodHandle" ∧ yX6_greases.cls ≠ "java/lang/invoke/VarHandle" ∧ (parseMethodDescriptor yX6_greases.desc).map (fun d => d.parameters.length) = some 1 := by decide +kernel
set_option maxRecDepth 100000 in
set_option maxHeartbeats 4000000 in
theorem m_X6_greases (l : Launch) (D : va_G) (kA : Nat → Nat) (m0 : Nat) (m1 : Nat) (m2 : Nat) (m3 : Nat) (m4 : Nat) (m5 : Nat) (z : Nat → Int32) (h : Nat → Int32) (tx : Nat → Int32) (pt : Nat → Int32) (kp : Nat → Int32) (st : Int32) (len : Int32) (th : Int32) (wo : Int32) (rd : Int32) (nu : Int32) (du : Int32) (hs : Int64) (a : Nat) (ha : a < 4) : Met l yX6_greases (Cond.code yX6_greases cX6_greases 2 none :: AW) ({ frames := 1, cells := 0, slots := 0, locals := 23 } : Room) (Pz [.ref m0, .int (nI a)] D (TY kA) [(m0, .inr (6, [.ref m1, .int st, .ref m2, .int len, .ref m3, .int th, .int wo, .ref m4, .int rd, .int nu, .int du, .ref m5, .long hs])), (m1, .inl (kA 0, 148, .inl z)), (m2, .inl (kA 0, 888, .inl h)), (m3, .inl (kA 0, 60, .inl tx)), (m4, .inl (kA 0, 72, .inl pt)), (m5, .inl (kA 0, 148, .inl kp))]) (fQ none D [(m0, .inr (6, [.ref m1, .int st, .ref m2, .int len, .ref m3, .int th, .int wo, .ref m4, .int rd, .int nu, .int du, .ref m5, .long hs])), (m1, .inl (kA 0, 148, .inl z)), (m2, .inl (kA 0, 888, .inl h)), (m3, .inl (kA 0, 60, .inl tx)), (m4, .inl (kA 0, 72, .inl pt)), (m5, .inl (kA 0, 148, .inl kp))] [(m0, .inr (6, [.ref m1, .int st, .ref m2, .int len, .ref m3, .int th, .int wo, .ref m4, .int rd, .int nu, .int du, .ref m5, .long hs])), (m1, .inl (kA 0, 148, .inl (grZ z a))), (m2, .inl (kA 0, 888, .inl h)), (m3, .inl (kA 0, 60, .inl tx)), (m4, .inl (kA 0, 72, .inl pt)), (m5, .inl (kA 0, 148, .inl kp))]) 0 0 (Aw [(m0, .inr (6, [.ref m1, .int st, .ref m2, .int len, .ref m3, .int th, .int wo, .ref m4, .int rd, .int nu, .int du, .ref m5, .long hs])), (m1, .inl (kA 0, 148, .inl z)), (m2, .inl (kA 0, 888, .inl h)), (m3, .inl (kA 0, 60, .inl tx)), (m4, .inl (kA 0, 72, .inl pt)), (m5, .inl (kA 0, 148, .inl kp))]) := by
  refine MetZ (by decide +kernel) (Nat.le_of_ble_eq_true rfl) ?_
  intro p e s m below meth c ls hx hb hrt hts hown hml hlk hnm hP hK hD hS hl
  have hl : lv_has ls 2 [(0, .ref m0), (1, .int (nI a))] := hl
  refine lv_aload_n hx hb dX6_greases_0 rfl (lv_at hl 0 rfl) ?_
  refine lv_aload_n hx hb dX6_greases_1 rfl (lv_at hl 0 rfl) ?_
  refine va_get (ci := 6) (v := .ref m1) (C := RX6) (T := TX6) (N := 13) hx hb hts inX6 hown hK hP 0 rfl rfl 0 (by decide) (hts _ q_770) (fun _ h9 => h9) rfl dX6_greases_2 ?_
  refine lv_iconst (v := 5) hx hb dX6_greases_5 (by decide) ?_
  refine va_iald (f := z) hx hb hK hP 1 0 rfl rfl (in_nI (j := 5) rfl (by omega) (by decide)) dX6_greases_6 ?_
  refine W_top (v' := .int (z 5)) rfl ?_
  refine cs_fn (runV (As := [.int (z 5)]) (rest := []) ⟨hx, hb, hml, hown, hts⟩ (m_X6_pay l D kA m0 m1 m2 m3 m4 m5 z h tx pt kp st len th wo rd nu du hs (z 5) ) q_936 q_938 qp_40 q_7 q_939 hd_X6_pay ⟨rfl, rfl⟩ ⟨Nat.le_of_ble_eq_true rfl, Nat.le_of_ble_eq_true rfl⟩ hK (ws := [(m0, .inr (6, [.ref m1, .int st, .ref m2, .int len, .ref m3, .int th, .int wo, .ref m4, .int rd, .int nu, .int du, .ref m5, .long hs])), (m1, .inl (kA 0, 148, .inl z)), (m2, .inl (kA 0, 888, .inl h)), (m3, .inl (kA 0, 60, .inl tx)), (m4, .inl (kA 0, 72, .inl pt)), (m5, .inl (kA 0, 148, .inl kp))]) (hP.sub [0, 1, 2, 3, 4, 5] rfl) (hD.sub [0, 1, 2, 3, 4, 5] (by decide) rfl) 0 (ci := 6) (C := RX6) (T := TX6) (N := 13) rfl rfl rfl hl.1 rfl (Nat.le_of_ble_eq_true rfl) dX6_greases_7 ⟨Nat.zero_le _, Nat.zero_le _⟩) hS (aw_sub hD (isC := [0, 1, 2, 3, 4, 5]) rfl) (fun H locs hP1 hk1 hS => ?_)
  obtain ⟨hP, hD⟩ := jn (wr := []) (w1 := [(m0, .inr (6, [.ref m1, .int st, .ref m2, .int len, .ref m3, .int th, .int wo, .ref m4, .int rd, .int nu, .int du, .ref m5, .long hs])), (m1, .inl (kA 0, 148, .inl (payZ z (z 5)))), (m2, .inl (kA 0, 888, .inl h)), (m3, .inl (kA 0, 60, .inl tx)), (m4, .inl (kA 0, 72, .inl pt)), (m5, .inl (kA 0, 148, .inl kp))]) hP hD [0, 1, 2, 3, 4, 5] [] rfl rfl (by decide) hk1 hP1 rfl
  have hP : va_P D vwCl [(m0, .inr (6, [.ref m1, .int st, .ref m2, .int len, .ref m3, .int th, .int wo, .ref m4, .int rd, .int nu, .int du, .ref m5, .long hs])), (m1, .inl (kA 0, 148, .inl (payZ z (z 5)))), (m2, .inl (kA 0, 888, .inl h)), (m3, .inl (kA 0, 60, .inl tx)), (m4, .inl (kA 0, 72, .inl pt)), (m5, .inl (kA 0, 148, .inl kp))] H := hP
  have hD : va_D (Aw [(m0, .inr (6, [.ref m1, .int st, .ref m2, .int len, .ref m3, .int th, .int wo, .ref m4, .int rd, .int nu, .int du, .ref m5, .long hs])), (m1, .inl (kA 0, 148, .inl z)), (m2, .inl (kA 0, 888, .inl h)), (m3, .inl (kA 0, 60, .inl tx)), (m4, .inl (kA 0, 72, .inl pt)), (m5, .inl (kA 0, 148, .inl kp))]) [(m0, .inr (6, [.ref m1, .int st, .ref m2, .int len, .ref m3, .int th, .int wo, .ref m4, .int rd, .int nu, .int du, .ref m5, .long hs])), (m1, .inl (kA 0, 148, .inl (payZ z (z 5)))), (m2, .inl (kA 0, 888, .inl h)), (m3, .inl (kA 0, 60, .inl tx)), (m4, .inl (kA 0, 72, .inl pt)), (m5, .inl (kA 0, 148, .inl kp))] := hD
  refine lv_aload_n hx hb dX6_greases_10 rfl (lv_at hl 0 rfl) ?_
  refine lv_iload_n hx hb dX6_greases_11 rfl (lv_at hl 1 rfl) ?_
  refine lv_iconst (v := 5) hx hb dX6_greases_12 (by decide) ?_
  refine lv_aload_n hx hb dX6_greases_13 rfl (lv_at hl 0 rfl) ?_
  refine va_get (ci := 6) (v := .ref m1) (C := RX6) (T := TX6) (N := 13) hx hb hts inX6 hown hK hP 0 rfl rfl 0 (by decide) (hts _ q_770) (fun _ h9 => h9) rfl dX6_greases_14 ?_
  refine lv_iconst (v := 4) hx hb dX6_greases_17 (by decide) ?_
  refine va_iald (f := payZ z (z 5)) hx hb hK hP 1 0 rfl rfl (in_nI (j := 4) rfl (by omega) (by decide)) dX6_greases_18 ?_
  refine W_top (v' := .int ((payZ z (z 5)) 4)) rfl ?_
  refine cs_fn (runV (As := [.int (nI a), .int 5, .int ((payZ z (z 5)) 4)]) (rest := []) ⟨hx, hb, hml, hown, hts⟩ (m_X6_put l D kA m0 m1 m2 m3 m4 m5 (payZ z (z 5)) h tx pt kp st len th wo rd nu du hs a 5 5 ((payZ z (z 5)) 4) (rfl) (by omega) (ha)) q_837 q_839 qp_24 q_7 q_840 hd_X6_put ⟨rfl, rfl⟩ ⟨Nat.le_of_ble_eq_true rfl, Nat.le_of_ble_eq_true rfl⟩ hK (ws := [(m0, .inr (6, [.ref m1, .int st, .ref m2, .int len, .ref m3, .int th, .int wo, .ref m4, .int rd, .int nu, .int du, .ref m5, .long hs])), (m1, .inl (kA 0, 148, .inl (payZ z (z 5)))), (m2, .inl (kA 0, 888, .inl h)), (m3, .inl (kA 0, 60, .inl tx)), (m4, .inl (kA 0, 72, .inl pt)), (m5, .inl (kA 0, 148, .inl kp))]) (hP.sub [0, 1, 2, 3, 4, 5] rfl) (hD.sub [0, 1, 2, 3, 4, 5] (by decide) rfl) 0 (ci := 6) (C := RX6) (T := TX6) (N := 13) rfl rfl rfl hl.1 rfl (Nat.le_of_ble_eq_true rfl) dX6_greases_19 ⟨Nat.zero_le _, Nat.zero_le _⟩) hS (aw_sub hD (isC := [0, 1, 2, 3, 4, 5]) rfl) (fun H locs hP1 hk1 hS => ?_)
  obtain ⟨hP, hD⟩ := jn (wr := []) (w1 := [(m0, .inr (6, [.ref m1, .int st, .ref m2, .int len, .ref m3, .int th, .int wo, .ref m4, .int rd, .int nu, .int du, .ref m5, .long hs])), (m1, .inl (kA 0, 148, .inl (puZ (payZ z (z 5)) a 5 ((payZ z (z 5)) 4)))), (m2, .inl (kA 0, 888, .inl h)), (m3, .inl (kA 0, 60, .inl tx)), (m4, .inl (kA 0, 72, .inl pt)), (m5, .inl (kA 0, 148, .inl kp))]) hP hD [0, 1, 2, 3, 4, 5] [] rfl rfl (by decide) hk1 hP1 rfl
  have hP : va_P D vwCl [(m0, .inr (6, [.ref m1, .int st, .ref m2, .int len, .ref m3, .int th, .int wo, .ref m4, .int rd, .int nu, .int du, .ref m5, .long hs])), (m1, .inl (kA 0, 148, .inl (puZ (payZ z (z 5)) a 5 ((payZ z (z 5)) 4)))), (m2, .inl (kA 0, 888, .inl h)), (m3, .inl (kA 0, 60, .inl tx)), (m4, .inl (kA 0, 72, .inl pt)), (m5, .inl (kA 0, 148, .inl kp))] H := hP
  have hD : va_D (Aw [(m0, .inr (6, [.ref m1, .int st, .ref m2, .int len, .ref m3, .int th, .int wo, .ref m4, .int rd, .int nu, .int du, .ref m5, .long hs])), (m1, .inl (kA 0, 148, .inl z)), (m2, .inl (kA 0, 888, .inl h)), (m3, .inl (kA 0, 60, .inl tx)), (m4, .inl (kA 0, 72, .inl pt)), (m5, .inl (kA 0, 148, .inl kp))]) [(m0, .inr (6, [.ref m1, .int st, .ref m2, .int len, .ref m3, .int th, .int wo, .ref m4, .int rd, .int nu, .int du, .ref m5, .long hs])), (m1, .inl (kA 0, 148, .inl (puZ (payZ z (z 5)) a 5 ((payZ z (z 5)) 4)))), (m2, .inl (kA 0, 888, .inl h)), (m3, .inl (kA 0, 60, .inl tx)), (m4, .inl (kA 0, 72, .inl pt)), (m5, .inl (kA 0, 148, .inl kp))] := hD
  have hP : va_P D vwCl [(m0, .inr (6, [.ref m1, .int st, .ref m2, .int len, .ref m3, .int th, .int wo, .ref m4, .int rd, .int nu, .int du, .ref m5, .long hs])), (m1, .inl (kA 0, 148, .inl (puZ (payZ z (z 5)) a 5 ((payZ z (z 5)) 4)))), (m2, .inl (kA 0, 888, .inl h)), (m3, .inl (kA 0, 60, .inl tx)), (m4, .inl (kA 0, 72, .inl pt)), (m5, .inl (kA 0, 148, .inl kp))] _ := hP.sub [0, 1, 2, 3, 4, 5] rfl
  exact end_fv hx hb hrt hlk hP hS (fun h => h) dX6_greases_22

theorem hd_X6_earn : yX6_earn.cls ≠ "java/lang/invoke/MethodHandle" ∧ yX6_earn.cls ≠ "java/lang/invoke/VarHandle" ∧ (parseMethodDescriptor yX6_earn.desc).map (fun d => d.parameters.length) = some 1 := by decide +kernel
set_option maxRecDepth 100000 in
set_option maxHeartbeats 4000000 in
theorem m_X6_earn (l : Launch) (D : va_G) (kA : Nat → Nat) (m0 : Nat) (m1 : Nat) (m2 : Nat) (m3 : Nat) (m4 : Nat) (m5 : Nat) (z : Nat → Int32) (h : Nat → Int32) (tx : Nat → Int32) (pt : Nat → Int32) (kp : Nat → Int32) (st : Int32) (len : Int32) (th : Int32) (wo : Int32) (rd : Int32) (nu : Int32) (du : Int32) (hs : Int64) (p0 : Int32) (w : Nat) (hst : st = nI w) (hw : w ≤ 6) : Met l yX6_earn (Cond.code yX6_earn cX6_earn 2 (some .int) :: AW) ({ frames := 1, cells := 0, slots := 0, locals := 22 } : Room) (Pz [.ref m0, .int p0] D (TY kA) [(m0, .inr (6, [.ref m1, .int st, .ref m2, .int len, .ref m3, .int th, .int wo, .ref m4, .int rd, .int nu, .int du, .ref m5, .long hs])), (m1, .inl (kA 0, 148, .inl z)), (m2, .inl (kA 0, 888, .inl h)), (m3, .inl (kA 0, 60, .inl tx)), (m4, .inl (kA 0, 72, .inl pt)), (m5, .inl (kA 0, 148, .inl kp))]) (fQ (some (.int (if eaT z p0 = 0 then z 6 + p0 else 0))) D [(m0, .inr (6, [.ref m1, .int st, .ref m2, .int len, .ref m3, .int th, .int wo, .ref m4, .int rd, .int nu, .int du, .ref m5, .long hs])), (m1, .inl (kA 0, 148, .inl z)), (m2, .inl (kA 0, 888, .inl h)), (m3, .inl (kA 0, 60, .inl tx)), (m4, .inl (kA 0, 72, .inl pt)), (m5, .inl (kA 0, 148, .inl kp))] [(m0, .inr (6, [.ref m1, .int (nI (if eaT z p0 = 0 then svN w else w)), .ref m2, .int len, .ref m3, .int (eaT z p0), .int wo, .ref m4, .int rd, .int nu, .int du, .ref m5, .long hs])), (m1, .inl (kA 0, 148, .inl (if eaT z p0 = 0 then upd z 6 (z 6 + p0) else z))), (m2, .inl (kA 0, 888, .inl (if eaT z p0 = 0 then svH h z w else h))), (m3, .inl (kA 0, 60, .inl tx)), (m4, .inl (kA 0, 72, .inl pt)), (m5, .inl (kA 0, 148, .inl kp))]) 0 0 (Aw [(m0, .inr (6, [.ref m1, .int st, .ref m2, .int len, .ref m3, .int th, .int wo, .ref m4, .int rd, .int nu, .int du, .ref m5, .long hs])), (m1, .inl (kA 0, 148, .inl z)), (m2, .inl (kA 0, 888, .inl h)), (m3, .inl (kA 0, 60, .inl tx)), (m4, .inl (kA 0, 72, .inl pt)), (m5, .inl (kA 0, 148, .inl kp))]) := by
  refine MetZ (by decide +kernel) (Nat.le_of_ble_eq_true rfl) ?_
  intro p e s m below meth c ls hx hb hrt hts hown hml hlk hnm hP hK hD hS hl
  have hl : lv_has ls 2 [(0, .ref m0), (1, .int p0)] := hl
  refine lv_aload_n hx hb dX6_earn_0 rfl (lv_at hl 0 rfl) ?_
  refine lv_iload_n hx hb dX6_earn_1 rfl (lv_at hl 1 rfl) ?_
  refine lv_iconst (v := 1) hx hb dX6_earn_2 (by decide) ?_
  refine lv_sipush (v := 10000) hx hb dX6_earn_3 (by decide) ?_
  refine cs_p (runS (As := [.int p0, .int 1, .int 10000]) (rest := [.ref m0]) ⟨hx, hb, hml, hown, hts⟩ (m_X6_within l D kA p0 1 10000 ) q_818 q_819 q_7 q_820 hd_X6_within ⟨rfl, rfl⟩ ⟨Nat.le_of_ble_eq_true rfl, Nat.le_of_ble_eq_true rfl⟩ hK (ws := []) (hP.sub [] rfl) (hD.sub [] (by decide) rfl) rfl hl.1 rfl (Nat.le_of_ble_eq_true rfl) dX6_earn_6 ⟨Nat.zero_le _, Nat.zero_le _⟩) ?_
  refine lv_if_ne (tgt := 16) hx hb dX6_earn_9 (by decide) (fun c_1 => ?_) (fun c_1 => ?_)
  · skip
    replace c_1 := bI_n0 c_1
    refine lv_aload_n hx hb dX6_earn_16 rfl (lv_at hl 0 rfl) ?_
    refine va_get (ci := 6) (v := .ref m1) (C := RX6) (T := TX6) (N := 13) hx hb hts inX6 hown hK hP 0 rfl rfl 0 (by decide) (hts _ q_770) (fun _ h9 => h9) rfl dX6_earn_17 ?_
    refine lv_bipush (v := 6) hx hb dX6_earn_20 (by decide) ?_
    refine va_iald (f := z) hx hb hK hP 1 0 rfl rfl (in_nI (j := 6) rfl (by omega) (by decide)) dX6_earn_22 ?_
    refine W_top (v' := .int (z 6)) rfl ?_
    refine lv_iload_n hx hb dX6_earn_23 rfl (lv_at hl 1 rfl) ?_
    refine lv_iadd hx hb dX6_earn_24 ?_
    refine lv_ldc (v := 100000) hx hb hown (hts _ q_821) dX6_earn_25 ?_
    refine lv_icmp_le (tgt := 34) hx hb dX6_earn_27 (by decide) (fun c_2 => ?_) (fun c_2 => ?_)
    · skip
      replace c_2 := ge_n c_2
      refine lv_iconst (v := 0) hx hb dX6_earn_34 (by decide) ?_
      refine va_put (ci := 6) (v := .int 0) (ty := tyX6 5) (C := RX6) (T := TX6) (N := 13) hx hb hts inX6 tyX6 tyX6_ok nmX6 hown hK hP hD hS 0 rfl rfl 5 (by decide) (hts _ q_775) (fun _ h9 => h9) rfl (tyX6_ok 5 (by decide)) rfl rfl (Nat.le_of_ble_eq_true rfl) dX6_earn_35 (fun H locs hP hD hS => ?_)
      have hP : va_P D vwCl [(m0, .inr (6, [.ref m1, .int st, .ref m2, .int len, .ref m3, .int 0, .int wo, .ref m4, .int rd, .int nu, .int du, .ref m5, .long hs])), (m1, .inl (kA 0, 148, .inl z)), (m2, .inl (kA 0, 888, .inl h)), (m3, .inl (kA 0, 60, .inl tx)), (m4, .inl (kA 0, 72, .inl pt)), (m5, .inl (kA 0, 148, .inl kp))] H := hP
      have hD : va_D (Aw [(m0, .inr (6, [.ref m1, .int st, .ref m2, .int len, .ref m3, .int th, .int wo, .ref m4, .int rd, .int nu, .int du, .ref m5, .long hs])), (m1, .inl (kA 0, 148, .inl z)), (m2, .inl (kA 0, 888, .inl h)), (m3, .inl (kA 0, 60, .inl tx)), (m4, .inl (kA 0, 72, .inl pt)), (m5, .inl (kA 0, 148, .inl kp))]) [(m0, .inr (6, [.ref m1, .int st, .ref m2, .int len, .ref m3, .int 0, .int wo, .ref m4, .int rd, .int nu, .int du, .ref m5, .long hs])), (m1, .inl (kA 0, 148, .inl z)), (m2, .inl (kA 0, 888, .inl h)), (m3, .inl (kA 0, 60, .inl tx)), (m4, .inl (kA 0, 72, .inl pt)), (m5, .inl (kA 0, 148, .inl kp))] := hD
      refine lv_aload_n hx hb dX6_earn_38 rfl (lv_at hl 0 rfl) ?_
      refine va_get (ci := 6) (v := .int 0) (C := RX6) (T := TX6) (N := 13) hx hb hts inX6 hown hK hP 0 rfl rfl 5 (by decide) (hts _ q_775) (fun _ h9 => h9) rfl dX6_earn_39 ?_
      refine lv_if_le (tgt := 47) hx hb dX6_earn_42 (by decide) (fun c_3 => ?_) (fun c_3 => ?_)
      · skip
        replace c_3 := ge_n c_3
        refine lv_aload_n hx hb dX6_earn_47 rfl (lv_at hl 0 rfl) ?_
        refine cs_fn (runV (As := []) (rest := []) ⟨hx, hb, hml, hown, hts⟩ (m_X6_save l D kA m0 m1 m2 m3 m4 m5 z h tx pt kp st len 0 wo rd nu du hs w (hst) (hw)) q_822 q_824 qp_22 q_7 q_825 hd_X6_save ⟨rfl, rfl⟩ ⟨Nat.le_of_ble_eq_true rfl, Nat.le_of_ble_eq_true rfl⟩ hK (ws := [(m0, .inr (6, [.ref m1, .int st, .ref m2, .int len, .ref m3, .int 0, .int wo, .ref m4, .int rd, .int nu, .int du, .ref m5, .long hs])), (m1, .inl (kA 0, 148, .inl z)), (m2, .inl (kA 0, 888, .inl h)), (m3, .inl (kA 0, 60, .inl tx)), (m4, .inl (kA 0, 72, .inl pt)), (m5, .inl (kA 0, 148, .inl kp))]) (hP.sub [0, 1, 2, 3, 4, 5] rfl) (hD.sub [0, 1, 2, 3, 4, 5] (by decide) rfl) 0 (ci := 6) (C := RX6) (T := TX6) (N := 13) rfl rfl rfl hl.1 rfl (Nat.le_of_ble_eq_true rfl) dX6_earn_48 ⟨Nat.zero_le _, Nat.zero_le _⟩) hS (aw_sub hD (isC := [0, 1, 2, 3, 4, 5]) rfl) (fun H locs hP1 hk1 hS => ?_)
        obtain ⟨hP, hD⟩ := jn (wr := []) (w1 := [(m0, .inr (6, [.ref m1, .int (nI (svN w)), .ref m2, .int len, .ref m3, .int 0, .int wo, .ref m4, .int rd, .int nu, .int du, .ref m5, .long hs])), (m1, .inl (kA 0, 148, .inl z)), (m2, .inl (kA 0, 888, .inl (svH h z w))), (m3, .inl (kA 0, 60, .inl tx)), (m4, .inl (kA 0, 72, .inl pt)), (m5, .inl (kA 0, 148, .inl kp))]) hP hD [0, 1, 2, 3, 4, 5] [] rfl rfl (by decide) hk1 hP1 rfl
        have hP : va_P D vwCl [(m0, .inr (6, [.ref m1, .int (nI (svN w)), .ref m2, .int len, .ref m3, .int 0, .int wo, .ref m4, .int rd, .int nu, .int du, .ref m5, .long hs])), (m1, .inl (kA 0, 148, .inl z)), (m2, .inl (kA 0, 888, .inl (svH h z w))), (m3, .inl (kA 0, 60, .inl tx)), (m4, .inl (kA 0, 72, .inl pt)), (m5, .inl (kA 0, 148, .inl kp))] H := hP
        have hD : va_D (Aw [(m0, .inr (6, [.ref m1, .int st, .ref m2, .int len, .ref m3, .int th, .int wo, .ref m4, .int rd, .int nu, .int du, .ref m5, .long hs])), (m1, .inl (kA 0, 148, .inl z)), (m2, .inl (kA 0, 888, .inl h)), (m3, .inl (kA 0, 60, .inl tx)), (m4, .inl (kA 0, 72, .inl pt)), (m5, .inl (kA 0, 148, .inl kp))]) [(m0, .inr (6, [.ref m1, .int (nI (svN w)), .ref m2, .int len, .ref m3, .int 0, .int wo, .ref m4, .int rd, .int nu, .int du, .ref m5, .long hs])), (m1, .inl (kA 0, 148, .inl z)), (m2, .inl (kA 0, 888, .inl (svH h z w))), (m3, .inl (kA 0, 60, .inl tx)), (m4, .inl (kA 0, 72, .inl pt)), (m5, .inl (kA 0, 148, .inl kp))] := hD
        refine lv_aload_n hx hb dX6_earn_51 rfl (lv_at hl 0 rfl) ?_
        refine va_get (ci := 6) (v := .ref m1) (C := RX6) (T := TX6) (N := 13) hx hb hts inX6 hown hK hP 0 rfl rfl 0 (by decide) (hts _ q_770) (fun _ h9 => h9) rfl dX6_earn_52 ?_
        refine lv_bipush (v := 6) hx hb dX6_earn_55 (by decide) ?_
        refine lv_dup2_11 hx hb dX6_earn_57 rfl rfl ?_
        refine va_iald (f := z) hx hb hK hP 1 0 rfl rfl (in_nI (j := 6) rfl (by omega) (by decide)) dX6_earn_58 ?_
        refine W_top (v' := .int (z 6)) rfl ?_
        refine lv_iload_n hx hb dX6_earn_59 rfl (lv_at hl 1 rfl) ?_
        refine lv_iadd hx hb dX6_earn_60 ?_
        refine va_iast (f := z) hx hb hK hP hD hS 1 0 rfl rfl (in_nI (j := 6) rfl (by omega) (by decide)) dX6_earn_61 (fun H locs hP hD hS => ?_)
        have hP : va_P D vwCl [(m0, .inr (6, [.ref m1, .int (nI (svN w)), .ref m2, .int len, .ref m3, .int 0, .int wo, .ref m4, .int rd, .int nu, .int du, .ref m5, .long hs])), (m1, .inl (kA 0, 148, .inl (upd z 6 ((z 6) + p0)))), (m2, .inl (kA 0, 888, .inl (svH h z w))), (m3, .inl (kA 0, 60, .inl tx)), (m4, .inl (kA 0, 72, .inl pt)), (m5, .inl (kA 0, 148, .inl kp))] H := hP
        have hD : va_D (Aw [(m0, .inr (6, [.ref m1, .int st, .ref m2, .int len, .ref m3, .int th, .int wo, .ref m4, .int rd, .int nu, .int du, .ref m5, .long hs])), (m1, .inl (kA 0, 148, .inl z)), (m2, .inl (kA 0, 888, .inl h)), (m3, .inl (kA 0, 60, .inl tx)), (m4, .inl (kA 0, 72, .inl pt)), (m5, .inl (kA 0, 148, .inl kp))]) [(m0, .inr (6, [.ref m1, .int (nI (svN w)), .ref m2, .int len, .ref m3, .int 0, .int wo, .ref m4, .int rd, .int nu, .int du, .ref m5, .long hs])), (m1, .inl (kA 0, 148, .inl (upd z 6 ((z 6) + p0)))), (m2, .inl (kA 0, 888, .inl (svH h z w))), (m3, .inl (kA 0, 60, .inl tx)), (m4, .inl (kA 0, 72, .inl pt)), (m5, .inl (kA 0, 148, .inl kp))] := hD
        refine lv_aload_n hx hb dX6_earn_62 rfl (lv_at hl 0 rfl) ?_
        refine va_get (ci := 6) (v := .ref m1) (C := RX6) (T := TX6) (N := 13) hx hb hts inX6 hown hK hP 0 rfl rfl 0 (by decide) (hts _ q_770) (fun _ h9 => h9) rfl dX6_earn_63 ?_
        refine lv_bipush (v := 6) hx hb dX6_earn_66 (by decide) ?_
        refine va_iald (f := upd z 6 ((z 6) + p0)) hx hb hK hP 1 0 rfl rfl (in_nI (j := 6) rfl (by omega) (by decide)) dX6_earn_68 ?_
        refine W_top (v' := .int ((upd z 6 ((z 6) + p0)) 6)) rfl ?_
        have hP : va_P D vwCl [(m0, .inr (6, [.ref m1, .int (nI (svN w)), .ref m2, .int len, .ref m3, .int 0, .int wo, .ref m4, .int rd, .int nu, .int du, .ref m5, .long hs])), (m1, .inl (kA 0, 148, .inl (upd z 6 ((z 6) + p0)))), (m2, .inl (kA 0, 888, .inl (svH h z w))), (m3, .inl (kA 0, 60, .inl tx)), (m4, .inl (kA 0, 72, .inl pt)), (m5, .inl (kA 0, 148, .inl kp))] _ := hP.sub [0, 1, 2, 3, 4, 5] rfl
        exact end_fi hx hb hrt hlk hP hS (by have hT : eaT z p0 = 0 := (by rw [eaT, if_pos c_1, if_neg c_2]); rw [hT, if_pos rfl]; rfl) (fun hq => by have hT : eaT z p0 = 0 := (by rw [eaT, if_pos c_1, if_neg c_2]); simp only [hT, if_true]; exact hq) dX6_earn_69
      · exact absurd c_3 (by decide)
    · skip
      replace c_2 := nge_l c_2
      refine lv_iconst (v := 2) hx hb dX6_earn_30 (by decide) ?_
      refine lv_goto (tgt := 35) hx hb dX6_earn_31 (by decide) ?_
      refine va_put (ci := 6) (v := .int 2) (ty := tyX6 5) (C := RX6) (T := TX6) (N := 13) hx hb hts inX6 tyX6 tyX6_ok nmX6 hown hK hP hD hS 0 rfl rfl 5 (by decide) (hts _ q_775) (fun _ h9 => h9) rfl (tyX6_ok 5 (by decide)) rfl rfl (Nat.le_of_ble_eq_true rfl) dX6_earn_35 (fun H locs hP hD hS => ?_)
      have hP : va_P D vwCl [(m0, .inr (6, [.ref m1, .int st, .ref m2, .int len, .ref m3, .int 2, .int wo, .ref m4, .int rd, .int nu, .int du, .ref m5, .long hs])), (m1, .inl (kA 0, 148, .inl z)), (m2, .inl (kA 0, 888, .inl h)), (m3, .inl (kA 0, 60, .inl tx)), (m4, .inl (kA 0, 72, .inl pt)), (m5, .inl (kA 0, 148, .inl kp))] H := hP
      have hD : va_D (Aw [(m0, .inr (6, [.ref m1, .int st, .ref m2, .int len, .ref m3, .int th, .int wo, .ref m4, .int rd, .int nu, .int du, .ref m5, .long hs])), (m1, .inl (kA 0, 148, .inl z)), (m2, .inl (kA 0, 888, .inl h)), (m3, .inl (kA 0, 60, .inl tx)), (m4, .inl (kA 0, 72, .inl pt)), (m5, .inl (kA 0, 148, .inl kp))]) [(m0, .inr (6, [.ref m1, .int st, .ref m2, .int len, .ref m3, .int 2, .int wo, .ref m4, .int rd, .int nu, .int du, .ref m5, .long hs])), (m1, .inl (kA 0, 148, .inl z)), (m2, .inl (kA 0, 888, .inl h)), (m3, .inl (kA 0, 60, .inl tx)), (m4, .inl (kA 0, 72, .inl pt)), (m5, .inl (kA 0, 148, .inl kp))] := hD
      refine lv_aload_n hx hb dX6_earn_38 rfl (lv_at hl 0 rfl) ?_
      refine va_get (ci := 6) (v := .int 2) (C := RX6) (T := TX6) (N := 13) hx hb hts inX6 hown hK hP 0 rfl rfl 5 (by decide) (hts _ q_775) (fun _ h9 => h9) rfl dX6_earn_39 ?_
      refine lv_if_le (tgt := 47) hx hb dX6_earn_42 (by decide) (fun c_4 => ?_) (fun c_4 => ?_)
      · exact absurd c_4 (by decide)
      · skip
        replace c_4 := nge_l c_4
        refine lv_iconst (v := 0) hx hb dX6_earn_45 (by decide) ?_
        have hP : va_P D vwCl [(m0, .inr (6, [.ref m1, .int st, .ref m2, .int len, .ref m3, .int 2, .int wo, .ref m4, .int rd, .int nu, .int du, .ref m5, .long hs])), (m1, .inl (kA 0, 148, .inl z)), (m2, .inl (kA 0, 888, .inl h)), (m3, .inl (kA 0, 60, .inl tx)), (m4, .inl (kA 0, 72, .inl pt)), (m5, .inl (kA 0, 148, .inl kp))] _ := hP.sub [0, 1, 2, 3, 4, 5] rfl
        exact end_fi hx hb hrt hlk hP hS (by have hT : eaT z p0 = 2 := (by rw [eaT, if_pos c_1, if_pos c_2]); rw [hT, if_neg (by decide)]) (fun hq => by have hT : eaT z p0 = 2 := (by rw [eaT, if_pos c_1, if_pos c_2]); have hN := n0_of hT (by decide); simp only [if_neg hN]; rw [hT, ← hst]; exact hq) dX6_earn_46
  · skip
    replace c_1 := bI_0.mp c_1
    refine lv_iconst (v := 1) hx hb dX6_earn_12 (by decide) ?_
    refine lv_goto (tgt := 35) hx hb dX6_earn_13 (by decide) ?_
    refine va_put (ci := 6) (v := .int 1) (ty := tyX6 5) (C := RX6) (T := TX6) (N := 13) hx hb hts inX6 tyX6 tyX6_ok nmX6 hown hK hP hD hS 0 rfl rfl 5 (by decide) (hts _ q_775) (fun _ h9 => h9) rfl (tyX6_ok 5 (by decide)) rfl rfl (Nat.le_of_ble_eq_true rfl) dX6_earn_35 (fun H locs hP hD hS => ?_)
    have hP : va_P D vwCl [(m0, .inr (6, [.ref m1, .int st, .ref m2, .int len, .ref m3, .int 1, .int wo, .ref m4, .int rd, .int nu, .int du, .ref m5, .long hs])), (m1, .inl (kA 0, 148, .inl z)), (m2, .inl (kA 0, 888, .inl h)), (m3, .inl (kA 0, 60, .inl tx)), (m4, .inl (kA 0, 72, .inl pt)), (m5, .inl (kA 0, 148, .inl kp))] H := hP
    have hD : va_D (Aw [(m0, .inr (6, [.ref m1, .int st, .ref m2, .int len, .ref m3, .int th, .int wo, .ref m4, .int rd, .int nu, .int du, .ref m5, .long hs])), (m1, .inl (kA 0, 148, .inl z)), (m2, .inl (kA 0, 888, .inl h)), (m3, .inl (kA 0, 60, .inl tx)), (m4, .inl (kA 0, 72, .inl pt)), (m5, .inl (kA 0, 148, .inl kp))]) [(m0, .inr (6, [.ref m1, .int st, .ref m2, .int len, .ref m3, .int 1, .int wo, .ref m4, .int rd, .int nu, .int du, .ref m5, .long hs])), (m1, .inl (kA 0, 148, .inl z)), (m2, .inl (kA 0, 888, .inl h)), (m3, .inl (kA 0, 60, .inl tx)), (m4, .inl (kA 0, 72, .inl pt)), (m5, .inl (kA 0, 148, .inl kp))] := hD
    refine lv_aload_n hx hb dX6_earn_38 rfl (lv_at hl 0 rfl) ?_
    refine va_get (ci := 6) (v := .int 1) (C := RX6) (T := TX6) (N := 13) hx hb hts inX6 hown hK hP 0 rfl rfl 5 (by decide) (hts _ q_775) (fun _ h9 => h9) rfl dX6_earn_39 ?_
    refine lv_if_le (tgt := 47) hx hb dX6_earn_42 (by decide) (fun c_5 => ?_) (fun c_5 => ?_)
    · exact absurd c_5 (by decide)
    · skip
      replace c_5 := nge_l c_5
      refine lv_iconst (v := 0) hx hb dX6_earn_45 (by decide) ?_
      have hP : va_P D vwCl [(m0, .inr (6, [.ref m1, .int st, .ref m2, .int len, .ref m3, .int 1, .int wo, .ref m4, .int rd, .int nu, .int du, .ref m5, .long hs])), (m1, .inl (kA 0, 148, .inl z)), (m2, .inl (kA 0, 888, .inl h)), (m3, .inl (kA 0, 60, .inl tx)), (m4, .inl (kA 0, 72, .inl pt)), (m5, .inl (kA 0, 148, .inl kp))] _ := hP.sub [0, 1, 2, 3, 4, 5] rfl
      exact end_fi hx hb hrt hlk hP hS (by have hT : eaT z p0 = 1 := (by rw [eaT, if_neg (by rw [c_1]; decide)]); rw [hT, if_neg (by decide)]) (fun hq => by have hT : eaT z p0 = 1 := (by rw [eaT, if_neg (by rw [c_1]; decide)]); have hN := n0_of hT (by decide); simp only [if_neg hN]; rw [hT, ← hst]; exact hq) dX6_earn_46

theorem hd_X6_load : yX6_load.cls ≠ "java/lang/invoke/MethodHandle" ∧ yX6_load.cls ≠ "java/lang/invoke/VarHandle" ∧ (parseMethodDescriptor yX6_load.desc).map (fun d => d.parameters.length) = some 2 := by decide +kernel
set_option maxRecDepth 100000 in
set_option maxHeartbeats 4000000 in
theorem m_X6_load (l : Launch) (D : va_G) (kA : Nat → Nat) (m0 : Nat) (m1 : Nat) (m2 : Nat) (m3 : Nat) (m4 : Nat) (m5 : Nat) (z : Nat → Int32) (h : Nat → Int32) (tx : Nat → Int32) (pt : Nat → Int32) (kp : Nat → Int32) (st : Int32) (len : Int32) (th : Int32) (wo : Int32) (rd : Int32) (nu : Int32) (du : Int32) (hs : Int64) (p0 : Int32) (p1 : Int32) (w : Nat) (hst : st = nI w) (hw : w ≤ 6) : Met l yX6_load (Cond.code yX6_load cX6_load 4 (some .int) :: AW) ({ frames := 2, cells := 0, slots := 0, locals := 42 } : Room) (Pz [.ref m0, .int p0, .int p1] D (TY kA) [(m0, .inr (6, [.ref m1, .int st, .ref m2, .int len, .ref m3, .int th, .int wo, .ref m4, .int rd, .int nu, .int du, .ref m5, .long hs])), (m1, .inl (kA 0, 148, .inl z)), (m2, .inl (kA 0, 888, .inl h)), (m3, .inl (kA 0, 60, .inl tx)), (m4, .inl (kA 0, 72, .inl pt)), (m5, .inl (kA 0, 148, .inl kp))]) (fQ (some (.int (if loT p0 p1 = 0 then sl z p0.toNatClampNeg 2 else 0))) D [(m0, .inr (6, [.ref m1, .int st, .ref m2, .int len, .ref m3, .int th, .int wo, .ref m4, .int rd, .int nu, .int du, .ref m5, .long hs])), (m1, .inl (kA 0, 148, .inl z)), (m2, .inl (kA 0, 888, .inl h)), (m3, .inl (kA 0, 60, .inl tx)), (m4, .inl (kA 0, 72, .inl pt)), (m5, .inl (kA 0, 148, .inl kp))] [(m0, .inr (6, [.ref m1, .int (nI (if loT p0 p1 = 0 then svN w else w)), .ref m2, .int len, .ref m3, .int (loT p0 p1), .int wo, .ref m4, .int rd, .int nu, .int du, .ref m5, .long hs])), (m1, .inl (kA 0, 148, .inl (if loT p0 p1 = 0 then puZ z p0.toNatClampNeg 2 p1 else z))), (m2, .inl (kA 0, 888, .inl (if loT p0 p1 = 0 then svH h z w else h))), (m3, .inl (kA 0, 60, .inl tx)), (m4, .inl (kA 0, 72, .inl pt)), (m5, .inl (kA 0, 148, .inl kp))]) 0 0 (Aw [(m0, .inr (6, [.ref m1, .int st, .ref m2, .int len, .ref m3, .int th, .int wo, .ref m4, .int rd, .int nu, .int du, .ref m5, .long hs])), (m1, .inl (kA 0, 148, .inl z)), (m2, .inl (kA 0, 888, .inl h)), (m3, .inl (kA 0, 60, .inl tx)), (m4, .inl (kA 0, 72, .inl pt)), (m5, .inl (kA 0, 148, .inl kp))]) := by
  refine MetZ (by decide +kernel) (Nat.le_of_ble_eq_true rfl) ?_
  intro p e s m below meth c ls hx hb hrt hts hown hml hlk hnm hP hK hD hS hl
  have hl : lv_has ls 4 [(0, .ref m0), (1, .int p0), (2, .int p1)] := hl
  refine lv_aload_n hx hb dX6_load_0 rfl (lv_at hl 0 rfl) ?_
  refine lv_iload_n hx hb dX6_load_1 rfl (lv_at hl 1 rfl) ?_
  refine cs_p (runS (As := [.int p0]) (rest := [.ref m0]) ⟨hx, hb, hml, hown, hts⟩ (m_X6_isAxis l D kA p0 ) q_830 q_831 q_7 q_832 hd_X6_isAxis ⟨rfl, rfl⟩ ⟨Nat.le_of_ble_eq_true rfl, Nat.le_of_ble_eq_true rfl⟩ hK (ws := []) (hP.sub [] rfl) (hD.sub [] (by decide) rfl) rfl hl.1 rfl (Nat.le_of_ble_eq_true rfl) dX6_load_2 ⟨Nat.zero_le _, Nat.zero_le _⟩) ?_
  refine lv_if_ne (tgt := 12) hx hb dX6_load_5 (by decide) (fun c_1 => ?_) (fun c_1 => ?_)
  · skip
    replace c_1 := bI_n0 c_1
    obtain ⟨a, haa, epa, eca⟩ := wi_ex c_1 (N := 3) rfl
    rw [epa] at hl
    have ha : a < 4 := haa
    refine lv_iload_n hx hb dX6_load_12 rfl (lv_at hl 2 rfl) ?_
    refine lv_iconst (v := 0) hx hb dX6_load_13 (by decide) ?_
    refine lv_iconst (v := 5) hx hb dX6_load_14 (by decide) ?_
    refine cs_p (runS (As := [.int p1, .int 0, .int 5]) (rest := [.ref m0]) ⟨hx, hb, hml, hown, hts⟩ (m_X6_within l D kA p1 0 5 ) q_818 q_819 q_7 q_820 hd_X6_within ⟨rfl, rfl⟩ ⟨Nat.le_of_ble_eq_true rfl, Nat.le_of_ble_eq_true rfl⟩ hK (ws := []) (hP.sub [] rfl) (hD.sub [] (by decide) rfl) rfl hl.1 rfl (Nat.le_of_ble_eq_true rfl) dX6_load_15 ⟨Nat.zero_le _, Nat.zero_le _⟩) ?_
    refine lv_if_eq (tgt := 25) hx hb dX6_load_18 (by decide) (fun c_2 => ?_) (fun c_2 => ?_)
    · skip
      replace c_2 := bI_0.mp c_2
      refine lv_iconst (v := 2) hx hb dX6_load_25 (by decide) ?_
      refine va_put (ci := 6) (v := .int 2) (ty := tyX6 5) (C := RX6) (T := TX6) (N := 13) hx hb hts inX6 tyX6 tyX6_ok nmX6 hown hK hP hD hS 0 rfl rfl 5 (by decide) (hts _ q_775) (fun _ h9 => h9) rfl (tyX6_ok 5 (by decide)) rfl rfl (Nat.le_of_ble_eq_true rfl) dX6_load_26 (fun H locs hP hD hS => ?_)
      have hP : va_P D vwCl [(m0, .inr (6, [.ref m1, .int st, .ref m2, .int len, .ref m3, .int 2, .int wo, .ref m4, .int rd, .int nu, .int du, .ref m5, .long hs])), (m1, .inl (kA 0, 148, .inl z)), (m2, .inl (kA 0, 888, .inl h)), (m3, .inl (kA 0, 60, .inl tx)), (m4, .inl (kA 0, 72, .inl pt)), (m5, .inl (kA 0, 148, .inl kp))] H := hP
      have hD : va_D (Aw [(m0, .inr (6, [.ref m1, .int st, .ref m2, .int len, .ref m3, .int th, .int wo, .ref m4, .int rd, .int nu, .int du, .ref m5, .long hs])), (m1, .inl (kA 0, 148, .inl z)), (m2, .inl (kA 0, 888, .inl h)), (m3, .inl (kA 0, 60, .inl tx)), (m4, .inl (kA 0, 72, .inl pt)), (m5, .inl (kA 0, 148, .inl kp))]) [(m0, .inr (6, [.ref m1, .int st, .ref m2, .int len, .ref m3, .int 2, .int wo, .ref m4, .int rd, .int nu, .int du, .ref m5, .long hs])), (m1, .inl (kA 0, 148, .inl z)), (m2, .inl (kA 0, 888, .inl h)), (m3, .inl (kA 0, 60, .inl tx)), (m4, .inl (kA 0, 72, .inl pt)), (m5, .inl (kA 0, 148, .inl kp))] := hD
      refine lv_aload_n hx hb dX6_load_29 rfl (lv_at hl 0 rfl) ?_
      refine va_get (ci := 6) (v := .int 2) (C := RX6) (T := TX6) (N := 13) hx hb hts inX6 hown hK hP 0 rfl rfl 5 (by decide) (hts _ q_775) (fun _ h9 => h9) rfl dX6_load_30 ?_
      refine lv_if_le (tgt := 38) hx hb dX6_load_33 (by decide) (fun c_3 => ?_) (fun c_3 => ?_)
      · exact absurd c_3 (by decide)
      · skip
        replace c_3 := nge_l c_3
        refine lv_iconst (v := 0) hx hb dX6_load_36 (by decide) ?_
        have hP : va_P D vwCl [(m0, .inr (6, [.ref m1, .int st, .ref m2, .int len, .ref m3, .int 2, .int wo, .ref m4, .int rd, .int nu, .int du, .ref m5, .long hs])), (m1, .inl (kA 0, 148, .inl z)), (m2, .inl (kA 0, 888, .inl h)), (m3, .inl (kA 0, 60, .inl tx)), (m4, .inl (kA 0, 72, .inl pt)), (m5, .inl (kA 0, 148, .inl kp))] _ := hP.sub [0, 1, 2, 3, 4, 5] rfl
        exact end_fi hx hb hrt hlk hP hS (by have hT : loT p0 p1 = 2 := (by rw [loT, if_pos c_1, if_neg (by rw [c_2]; decide)]); rw [hT, if_neg (by decide)]) (fun hq => by have hT : loT p0 p1 = 2 := (by rw [loT, if_pos c_1, if_neg (by rw [c_2]; decide)]); have hN := n0_of hT (by decide); simp only [if_neg hN]; rw [hT, ← hst]; exact hq) dX6_load_37
    · skip
      replace c_2 := bI_n0 c_2
      refine lv_iconst (v := 0) hx hb dX6_load_21 (by decide) ?_
      refine lv_goto (tgt := 26) hx hb dX6_load_22 (by decide) ?_
      refine va_put (ci := 6) (v := .int 0) (ty := tyX6 5) (C := RX6) (T := TX6) (N := 13) hx hb hts inX6 tyX6 tyX6_ok nmX6 hown hK hP hD hS 0 rfl rfl 5 (by decide) (hts _ q_775) (fun _ h9 => h9) rfl (tyX6_ok 5 (by decide)) rfl rfl (Nat.le_of_ble_eq_true rfl) dX6_load_26 (fun H locs hP hD hS => ?_)
      have hP : va_P D vwCl [(m0, .inr (6, [.ref m1, .int st, .ref m2, .int len, .ref m3, .int 0, .int wo, .ref m4, .int rd, .int nu, .int du, .ref m5, .long hs])), (m1, .inl (kA 0, 148, .inl z)), (m2, .inl (kA 0, 888, .inl h)), (m3, .inl (kA 0, 60, .inl tx)), (m4, .inl (kA 0, 72, .inl pt)), (m5, .inl (kA 0, 148, .inl kp))] H := hP
      have hD : va_D (Aw [(m0, .inr (6, [.ref m1, .int st, .ref m2, .int len, .ref m3, .int th, .int wo, .ref m4, .int rd, .int nu, .int du, .ref m5, .long hs])), (m1, .inl (kA 0, 148, .inl z)), (m2, .inl (kA 0, 888, .inl h)), (m3, .inl (kA 0, 60, .inl tx)), (m4, .inl (kA 0, 72, .inl pt)), (m5, .inl (kA 0, 148, .inl kp))]) [(m0, .inr (6, [.ref m1, .int st, .ref m2, .int len, .ref m3, .int 0, .int wo, .ref m4, .int rd, .int nu, .int du, .ref m5, .long hs])), (m1, .inl (kA 0, 148, .inl z)), (m2, .inl (kA 0, 888, .inl h)), (m3, .inl (kA 0, 60, .inl tx)), (m4, .inl (kA 0, 72, .inl pt)), (m5, .inl (kA 0, 148, .inl kp))] := hD
      refine lv_aload_n hx hb dX6_load_29 rfl (lv_at hl 0 rfl) ?_
      refine va_get (ci := 6) (v := .int 0) (C := RX6) (T := TX6) (N := 13) hx hb hts inX6 hown hK hP 0 rfl rfl 5 (by decide) (hts _ q_775) (fun _ h9 => h9) rfl dX6_load_30 ?_
      refine lv_if_le (tgt := 38) hx hb dX6_load_33 (by decide) (fun c_4 => ?_) (fun c_4 => ?_)
      · skip
        replace c_4 := ge_n c_4
        refine lv_aload_n hx hb dX6_load_38 rfl (lv_at hl 0 rfl) ?_
        refine cs_fn (runV (As := []) (rest := []) ⟨hx, hb, hml, hown, hts⟩ (m_X6_save l D kA m0 m1 m2 m3 m4 m5 z h tx pt kp st len 0 wo rd nu du hs w (hst) (hw)) q_822 q_824 qp_22 q_7 q_825 hd_X6_save ⟨rfl, rfl⟩ ⟨Nat.le_of_ble_eq_true rfl, Nat.le_of_ble_eq_true rfl⟩ hK (ws := [(m0, .inr (6, [.ref m1, .int st, .ref m2, .int len, .ref m3, .int 0, .int wo, .ref m4, .int rd, .int nu, .int du, .ref m5, .long hs])), (m1, .inl (kA 0, 148, .inl z)), (m2, .inl (kA 0, 888, .inl h)), (m3, .inl (kA 0, 60, .inl tx)), (m4, .inl (kA 0, 72, .inl pt)), (m5, .inl (kA 0, 148, .inl kp))]) (hP.sub [0, 1, 2, 3, 4, 5] rfl) (hD.sub [0, 1, 2, 3, 4, 5] (by decide) rfl) 0 (ci := 6) (C := RX6) (T := TX6) (N := 13) rfl rfl rfl hl.1 rfl (Nat.le_of_ble_eq_true rfl) dX6_load_39 ⟨Nat.zero_le _, Nat.zero_le _⟩) hS (aw_sub hD (isC := [0, 1, 2, 3, 4, 5]) rfl) (fun H locs hP1 hk1 hS => ?_)
        obtain ⟨hP, hD⟩ := jn (wr := []) (w1 := [(m0, .inr (6, [.ref m1, .int (nI (svN w)), .ref m2, .int len, .ref m3, .int 0, .int wo, .ref m4, .int rd, .int nu, .int du, .ref m5, .long hs])), (m1, .inl (kA 0, 148, .inl z)), (m2, .inl (kA 0, 888, .inl (svH h z w))), (m3, .inl (kA 0, 60, .inl tx)), (m4, .inl (kA 0, 72, .inl pt)), (m5, .inl (kA 0, 148, .inl kp))]) hP hD [0, 1, 2, 3, 4, 5] [] rfl rfl (by decide) hk1 hP1 rfl
        have hP : va_P D vwCl [(m0, .inr (6, [.ref m1, .int (nI (svN w)), .ref m2, .int len, .ref m3, .int 0, .int wo, .ref m4, .int rd, .int nu, .int du, .ref m5, .long hs])), (m1, .inl (kA 0, 148, .inl z)), (m2, .inl (kA 0, 888, .inl (svH h z w))), (m3, .inl (kA 0, 60, .inl tx)), (m4, .inl (kA 0, 72, .inl pt)), (m5, .inl (kA 0, 148, .inl kp))] H := hP
        have hD : va_D (Aw [(m0, .inr (6, [.ref m1, .int st, .ref m2, .int len, .ref m3, .int th, .int wo, .ref m4, .int rd, .int nu, .int du, .ref m5, .long hs])), (m1, .inl (kA 0, 148, .inl z)), (m2, .inl (kA 0, 888, .inl h)), (m3, .inl (kA 0, 60, .inl tx)), (m4, .inl (kA 0, 72, .inl pt)), (m5, .inl (kA 0, 148, .inl kp))]) [(m0, .inr (6, [.ref m1, .int (nI (svN w)), .ref m2, .int len, .ref m3, .int 0, .int wo, .ref m4, .int rd, .int nu, .int du, .ref m5, .long hs])), (m1, .inl (kA 0, 148, .inl z)), (m2, .inl (kA 0, 888, .inl (svH h z w))), (m3, .inl (kA 0, 60, .inl tx)), (m4, .inl (kA 0, 72, .inl pt)), (m5, .inl (kA 0, 148, .inl kp))] := hD
        refine lv_aload_n hx hb dX6_load_42 rfl (lv_at hl 0 rfl) ?_
        refine lv_iload_n hx hb dX6_load_43 rfl (lv_at hl 1 rfl) ?_
        refine lv_iconst (v := 2) hx hb dX6_load_44 (by decide) ?_
        refine cs_p (runV (As := [.int (nI a), .int 2]) (rest := []) ⟨hx, hb, hml, hown, hts⟩ (m_X6_of l D kA m0 m1 m2 m3 m4 m5 z (svH h z w) tx pt kp (nI (svN w)) len 0 wo rd nu du hs a 2 2 (rfl) (by omega) (ha)) q_833 q_835 qp_23 q_7 q_836 hd_X6_of ⟨rfl, rfl⟩ ⟨Nat.le_of_ble_eq_true rfl, Nat.le_of_ble_eq_true rfl⟩ hK (ws := [(m0, .inr (6, [.ref m1, .int (nI (svN w)), .ref m2, .int len, .ref m3, .int 0, .int wo, .ref m4, .int rd, .int nu, .int du, .ref m5, .long hs])), (m1, .inl (kA 0, 148, .inl z)), (m2, .inl (kA 0, 888, .inl (svH h z w))), (m3, .inl (kA 0, 60, .inl tx)), (m4, .inl (kA 0, 72, .inl pt)), (m5, .inl (kA 0, 148, .inl kp))]) (hP.sub [0, 1, 2, 3, 4, 5] rfl) (hD.sub [0, 1, 2, 3, 4, 5] (by decide) rfl) 0 (ci := 6) (C := RX6) (T := TX6) (N := 13) rfl rfl rfl hl.1 rfl (Nat.le_of_ble_eq_true rfl) dX6_load_45 ⟨Nat.zero_le _, Nat.zero_le _⟩) ?_
        refine lv_istore_n (lv' := [(3, .int (sl z a 2)), (0, .ref m0), (1, .int (nI a)), (2, .int p1)]) hx hb dX6_load_48 rfl hl (by decide) rfl (fun ls hl => ?_)
        refine lv_aload_n hx hb dX6_load_49 rfl (lv_at hl 1 rfl) ?_
        refine lv_iload_n hx hb dX6_load_50 rfl (lv_at hl 2 rfl) ?_
        refine lv_iconst (v := 2) hx hb dX6_load_51 (by decide) ?_
        refine lv_iload_n hx hb dX6_load_52 rfl (lv_at hl 3 rfl) ?_
        refine cs_fn (runV (As := [.int (nI a), .int 2, .int p1]) (rest := []) ⟨hx, hb, hml, hown, hts⟩ (m_X6_put l D kA m0 m1 m2 m3 m4 m5 z (svH h z w) tx pt kp (nI (svN w)) len 0 wo rd nu du hs a 2 2 p1 (rfl) (by omega) (ha)) q_837 q_839 qp_24 q_7 q_840 hd_X6_put ⟨rfl, rfl⟩ ⟨Nat.le_of_ble_eq_true rfl, Nat.le_of_ble_eq_true rfl⟩ hK (ws := [(m0, .inr (6, [.ref m1, .int (nI (svN w)), .ref m2, .int len, .ref m3, .int 0, .int wo, .ref m4, .int rd, .int nu, .int du, .ref m5, .long hs])), (m1, .inl (kA 0, 148, .inl z)), (m2, .inl (kA 0, 888, .inl (svH h z w))), (m3, .inl (kA 0, 60, .inl tx)), (m4, .inl (kA 0, 72, .inl pt)), (m5, .inl (kA 0, 148, .inl kp))]) (hP.sub [0, 1, 2, 3, 4, 5] rfl) (hD.sub [0, 1, 2, 3, 4, 5] (by decide) rfl) 0 (ci := 6) (C := RX6) (T := TX6) (N := 13) rfl rfl rfl hl.1 rfl (Nat.le_of_ble_eq_true rfl) dX6_load_53 ⟨Nat.zero_le _, Nat.zero_le _⟩) hS (aw_sub hD (isC := [0, 1, 2, 3, 4, 5]) rfl) (fun H locs hP1 hk1 hS => ?_)
        obtain ⟨hP, hD⟩ := jn (wr := []) (w1 := [(m0, .inr (6, [.ref m1, .int (nI (svN w)), .ref m2, .int len, .ref m3, .int 0, .int wo, .ref m4, .int rd, .int nu, .int du, .ref m5, .long hs])), (m1, .inl (kA 0, 148, .inl (puZ z a 2 p1))), (m2, .inl (kA 0, 888, .inl (svH h z w))), (m3, .inl (kA 0, 60, .inl tx)), (m4, .inl (kA 0, 72, .inl pt)), (m5, .inl (kA 0, 148, .inl kp))]) hP hD [0, 1, 2, 3, 4, 5] [] rfl rfl (by decide) hk1 hP1 rfl
        have hP : va_P D vwCl [(m0, .inr (6, [.ref m1, .int (nI (svN w)), .ref m2, .int len, .ref m3, .int 0, .int wo, .ref m4, .int rd, .int nu, .int du, .ref m5, .long hs])), (m1, .inl (kA 0, 148, .inl (puZ z a 2 p1))), (m2, .inl (kA 0, 888, .inl (svH h z w))), (m3, .inl (kA 0, 60, .inl tx)), (m4, .inl (kA 0, 72, .inl pt)), (m5, .inl (kA 0, 148, .inl kp))] H := hP
        have hD : va_D (Aw [(m0, .inr (6, [.ref m1, .int st, .ref m2, .int len, .ref m3, .int th, .int wo, .ref m4, .int rd, .int nu, .int du, .ref m5, .long hs])), (m1, .inl (kA 0, 148, .inl z)), (m2, .inl (kA 0, 888, .inl h)), (m3, .inl (kA 0, 60, .inl tx)), (m4, .inl (kA 0, 72, .inl pt)), (m5, .inl (kA 0, 148, .inl kp))]) [(m0, .inr (6, [.ref m1, .int (nI (svN w)), .ref m2, .int len, .ref m3, .int 0, .int wo, .ref m4, .int rd, .int nu, .int du, .ref m5, .long hs])), (m1, .inl (kA 0, 148, .inl (puZ z a 2 p1))), (m2, .inl (kA 0, 888, .inl (svH h z w))), (m3, .inl (kA 0, 60, .inl tx)), (m4, .inl (kA 0, 72, .inl pt)), (m5, .inl (kA 0, 148, .inl kp))] := hD
        refine lv_iload_n hx hb dX6_load_56 rfl (lv_at hl 0 rfl) ?_
        have hP : va_P D vwCl [(m0, .inr (6, [.ref m1, .int (nI (svN w)), .ref m2, .int len, .ref m3, .int 0, .int wo, .ref m4, .int rd, .int nu, .int du, .ref m5, .long hs])), (m1, .inl (kA 0, 148, .inl (puZ z a 2 p1))), (m2, .inl (kA 0, 888, .inl (svH h z w))), (m3, .inl (kA 0, 60, .inl tx)), (m4, .inl (kA 0, 72, .inl pt)), (m5, .inl (kA 0, 148, .inl kp))] _ := hP.sub [0, 1, 2, 3, 4, 5] rfl
        exact end_fi hx hb hrt hlk hP hS (by have hT : loT p0 p1 = 0 := (by rw [loT, if_pos c_1, if_pos c_2]); rw [hT, if_pos rfl]; rw [eca]) (fun hq => by have hT : loT p0 p1 = 0 := (by rw [loT, if_pos c_1, if_pos c_2]); simp only [hT, if_true]; rw [eca]; exact hq) dX6_load_57
      · exact absurd c_4 (by decide)
  · skip
    replace c_1 := bI_0.mp c_1
    refine lv_iconst (v := 1) hx hb dX6_load_8 (by decide) ?_
    refine lv_goto (tgt := 26) hx hb dX6_load_9 (by decide) ?_
    refine va_put (ci := 6) (v := .int 1) (ty := tyX6 5) (C := RX6) (T := TX6) (N := 13) hx hb hts inX6 tyX6 tyX6_ok nmX6 hown hK hP hD hS 0 rfl rfl 5 (by decide) (hts _ q_775) (fun _ h9 => h9) rfl (tyX6_ok 5 (by decide)) rfl rfl (Nat.le_of_ble_eq_true rfl) dX6_load_26 (fun H locs hP hD hS => ?_)
    have hP : va_P D vwCl [(m0, .inr (6, [.ref m1, .int st, .ref m2, .int len, .ref m3, .int 1, .int wo, .ref m4, .int rd, .int nu, .int du, .ref m5, .long hs])), (m1, .inl (kA 0, 148, .inl z)), (m2, .inl (kA 0, 888, .inl h)), (m3, .inl (kA 0, 60, .inl tx)), (m4, .inl (kA 0, 72, .inl pt)), (m5, .inl (kA 0, 148, .inl kp))] H := hP
    have hD : va_D (Aw [(m0, .inr (6, [.ref m1, .int st, .ref m2, .int len, .ref m3, .int th, .int wo, .ref m4, .int rd, .int nu, .int du, .ref m5, .long hs])), (m1, .inl (kA 0, 148, .inl z)), (m2, .inl (kA 0, 888, .inl h)), (m3, .inl (kA 0, 60, .inl tx)), (m4, .inl (kA 0, 72, .inl pt)), (m5, .inl (kA 0, 148, .inl kp))]) [(m0, .inr (6, [.ref m1, .int st, .ref m2, .int len, .ref m3, .int 1, .int wo, .ref m4, .int rd, .int nu, .int du, .ref m5, .long hs])), (m1, .inl (kA 0, 148, .inl z)), (m2, .inl (kA 0, 888, .inl h)), (m3, .inl (kA 0, 60, .inl tx)), (m4, .inl (kA 0, 72, .inl pt)), (m5, .inl (kA 0, 148, .inl kp))] := hD
    refine lv_aload_n hx hb dX6_load_29 rfl (lv_at hl 0 rfl) ?_
    refine va_get (ci := 6) (v := .int 1) (C := RX6) (T := TX6) (N := 13) hx hb hts inX6 hown hK hP 0 rfl rfl 5 (by decide) (hts _ q_775) (fun _ h9 => h9) rfl dX6_load_30 ?_
    refine lv_if_le (tgt := 38) hx hb dX6_load_33 (by decide) (fun c_5 => ?_) (fun c_5 => ?_)
    · exact absurd c_5 (by decide)
    · skip
      replace c_5 := nge_l c_5
      refine lv_iconst (v := 0) hx hb dX6_load_36 (by decide) ?_
      have hP : va_P D vwCl [(m0, .inr (6, [.ref m1, .int st, .ref m2, .int len, .ref m3, .int 1, .int wo, .ref m4, .int rd, .int nu, .int du, .ref m5, .long hs])), (m1, .inl (kA 0, 148, .inl z)), (m2, .inl (kA 0, 888, .inl h)), (m3, .inl (kA 0, 60, .inl tx)), (m4, .inl (kA 0, 72, .inl pt)), (m5, .inl (kA 0, 148, .inl kp))] _ := hP.sub [0, 1, 2, 3, 4, 5] rfl
      exact end_fi hx hb hrt hlk hP hS (by have hT : loT p0 p1 = 1 := (by rw [loT, if_neg (by rw [c_1]; decide)]); rw [hT, if_neg (by decide)]) (fun hq => by have hT : loT p0 p1 = 1 := (by rw [loT, if_neg (by rw [c_1]; decide)]); have hN := n0_of hT (by decide); simp only [if_neg hN]; rw [hT, ← hst]; exact hq) dX6_load_37

theorem hd_X6_set : yX6_set.cls ≠ "java/lang/invoke/MethodHandle" ∧ yX6_set.cls ≠ "java/lang/invoke/VarHandle" ∧ (parseMethodDescriptor yX6_set.desc).map (fun d => d.parameters.length) = some 2 := by decide +kernel
set_option maxRecDepth 100000 in
set_option maxHeartbeats 4000000 in
theorem m_X6_set (l : Launch) (D : va_G) (kA : Nat → Nat) (m0 : Nat) (m1 : Nat) (m2 : Nat) (m3 : Nat) (m4 : Nat) (m5 : Nat) (z : Nat → Int32) (h : Nat → Int32) (tx : Nat → Int32) (pt : Nat → Int32) (kp : Nat → Int32) (st : Int32) (len : Int32) (th : Int32) (wo : Int32) (rd : Int32) (nu : Int32) (du : Int32) (hs : Int64) (p0 : Int32) (p1 : Int32) (w : Nat) (hst : st = nI w) (hw : w ≤ 6) : Met l yX6_set (Cond.code yX6_set cX6_set 4 (some .int) :: AW) ({ frames := 2, cells := 0, slots := 0, locals := 43 } : Room) (Pz [.ref m0, .int p0, .int p1] D (TY kA) [(m0, .inr (6, [.ref m1, .int st, .ref m2, .int len, .ref m3, .int th, .int wo, .ref m4, .int rd, .int nu, .int du, .ref m5, .long hs])), (m1, .inl (kA 0, 148, .inl z)), (m2, .inl (kA 0, 888, .inl h)), (m3, .inl (kA 0, 60, .inl tx)), (m4, .inl (kA 0, 72, .inl pt)), (m5, .inl (kA 0, 148, .inl kp))]) (fQ (some (.int (if seT p0 p1 = 0 then z p0.toNatClampNeg else 0))) D [(m0, .inr (6, [.ref m1, .int st, .ref m2, .int len, .ref m3, .int th, .int wo, .ref m4, .int rd, .int nu, .int du, .ref m5, .long hs])), (m1, .inl (kA 0, 148, .inl z)), (m2, .inl (kA 0, 888, .inl h)), (m3, .inl (kA 0, 60, .inl tx)), (m4, .inl (kA 0, 72, .inl pt)), (m5, .inl (kA 0, 148, .inl kp))] [(m0, .inr (6, [.ref m1, .int (nI (if seT p0 p1 = 0 then svN w else w)), .ref m2, .int len, .ref m3, .int (seT p0 p1), .int wo, .ref m4, .int rd, .int nu, .int du, .ref m5, .long hs])), (m1, .inl (kA 0, 148, .inl (if seT p0 p1 = 0 then upd z p0.toNatClampNeg p1 else z))), (m2, .inl (kA 0, 888, .inl (if seT p0 p1 = 0 then svH h z w else h))), (m3, .inl (kA 0, 60, .inl tx)), (m4, .inl (kA 0, 72, .inl pt)), (m5, .inl (kA 0, 148, .inl kp))]) 0 0 (Aw [(m0, .inr (6, [.ref m1, .int st, .ref m2, .int len, .ref m3, .int th, .int wo, .ref m4, .int rd, .int nu, .int du, .ref m5, .long hs])), (m1, .inl (kA 0, 148, .inl z)), (m2, .inl (kA 0, 888, .inl h)), (m3, .inl (kA 0, 60, .inl tx)), (m4, .inl (kA 0, 72, .inl pt)), (m5, .inl (kA 0, 148, .inl kp))]) := by
  refine MetZ (by decide +kernel) (Nat.le_of_ble_eq_true rfl) ?_
  intro p e s m below meth c ls hx hb hrt hts hown hml hlk hnm hP hK hD hS hl
  have hl : lv_has ls 4 [(0, .ref m0), (1, .int p0), (2, .int p1)] := hl
  refine lv_aload_n hx hb dX6_set_0 rfl (lv_at hl 0 rfl) ?_
  refine lv_iload_n hx hb dX6_set_1 rfl (lv_at hl 1 rfl) ?_
  refine cs_p (runS (As := [.int p0]) (rest := [.ref m0]) ⟨hx, hb, hml, hown, hts⟩ (m_X6_isSetting l D kA p0 ) q_845 q_846 q_7 q_847 hd_X6_isSetting ⟨rfl, rfl⟩ ⟨Nat.le_of_ble_eq_true rfl, Nat.le_of_ble_eq_true rfl⟩ hK (ws := []) (hP.sub [] rfl) (hD.sub [] (by decide) rfl) rfl hl.1 rfl (Nat.le_of_ble_eq_true rfl) dX6_set_2 ⟨Nat.zero_le _, Nat.zero_le _⟩) ?_
  refine lv_if_ne (tgt := 12) hx hb dX6_set_5 (by decide) (fun c_1 => ?_) (fun c_1 => ?_)
  · skip
    replace c_1 := bI_n0 c_1
    obtain ⟨a, haa, epa, eca⟩ := wi_ex c_1 (N := 5) rfl
    refine lv_iload_n hx hb dX6_set_12 rfl (lv_at hl 1 rfl) ?_
    refine lv_iload_n hx hb dX6_set_13 rfl (lv_at hl 2 rfl) ?_
    refine cs_p (runS (As := [.int p0, .int p1]) (rest := [.ref m0]) ⟨hx, hb, hml, hown, hts⟩ (m_X6_isValue l D kA p0 p1 ) q_848 q_849 q_7 q_850 hd_X6_isValue ⟨rfl, rfl⟩ ⟨Nat.le_of_ble_eq_true rfl, Nat.le_of_ble_eq_true rfl⟩ hK (ws := []) (hP.sub [] rfl) (hD.sub [] (by decide) rfl) rfl hl.1 rfl (Nat.le_of_ble_eq_true rfl) dX6_set_14 ⟨Nat.zero_le _, Nat.zero_le _⟩) ?_
    refine lv_if_eq (tgt := 24) hx hb dX6_set_17 (by decide) (fun c_2 => ?_) (fun c_2 => ?_)
    · skip
      replace c_2 := bI_0.mp c_2
      refine lv_iconst (v := 2) hx hb dX6_set_24 (by decide) ?_
      refine va_put (ci := 6) (v := .int 2) (ty := tyX6 5) (C := RX6) (T := TX6) (N := 13) hx hb hts inX6 tyX6 tyX6_ok nmX6 hown hK hP hD hS 0 rfl rfl 5 (by decide) (hts _ q_775) (fun _ h9 => h9) rfl (tyX6_ok 5 (by decide)) rfl rfl (Nat.le_of_ble_eq_true rfl) dX6_set_25 (fun H locs hP hD hS => ?_)
      have hP : va_P D vwCl [(m0, .inr (6, [.ref m1, .int st, .ref m2, .int len, .ref m3, .int 2, .int wo, .ref m4, .int rd, .int nu, .int du, .ref m5, .long hs])), (m1, .inl (kA 0, 148, .inl z)), (m2, .inl (kA 0, 888, .inl h)), (m3, .inl (kA 0, 60, .inl tx)), (m4, .inl (kA 0, 72, .inl pt)), (m5, .inl (kA 0, 148, .inl kp))] H := hP
      have hD : va_D (Aw [(m0, .inr (6, [.ref m1, .int st, .ref m2, .int len, .ref m3, .int th, .int wo, .ref m4, .int rd, .int nu, .int du, .ref m5, .long hs])), (m1, .inl (kA 0, 148, .inl z)), (m2, .inl (kA 0, 888, .inl h)), (m3, .inl (kA 0, 60, .inl tx)), (m4, .inl (kA 0, 72, .inl pt)), (m5, .inl (kA 0, 148, .inl kp))]) [(m0, .inr (6, [.ref m1, .int st, .ref m2, .int len, .ref m3, .int 2, .int wo, .ref m4, .int rd, .int nu, .int du, .ref m5, .long hs])), (m1, .inl (kA 0, 148, .inl z)), (m2, .inl (kA 0, 888, .inl h)), (m3, .inl (kA 0, 60, .inl tx)), (m4, .inl (kA 0, 72, .inl pt)), (m5, .inl (kA 0, 148, .inl kp))] := hD
      refine lv_aload_n hx hb dX6_set_28 rfl (lv_at hl 0 rfl) ?_
      refine va_get (ci := 6) (v := .int 2) (C := RX6) (T := TX6) (N := 13) hx hb hts inX6 hown hK hP 0 rfl rfl 5 (by decide) (hts _ q_775) (fun _ h9 => h9) rfl dX6_set_29 ?_
      refine lv_if_le (tgt := 37) hx hb dX6_set_32 (by decide) (fun c_3 => ?_) (fun c_3 => ?_)
      · exact absurd c_3 (by decide)
      · skip
        replace c_3 := nge_l c_3
        refine lv_iconst (v := 0) hx hb dX6_set_35 (by decide) ?_
        have hP : va_P D vwCl [(m0, .inr (6, [.ref m1, .int st, .ref m2, .int len, .ref m3, .int 2, .int wo, .ref m4, .int rd, .int nu, .int du, .ref m5, .long hs])), (m1, .inl (kA 0, 148, .inl z)), (m2, .inl (kA 0, 888, .inl h)), (m3, .inl (kA 0, 60, .inl tx)), (m4, .inl (kA 0, 72, .inl pt)), (m5, .inl (kA 0, 148, .inl kp))] _ := hP.sub [0, 1, 2, 3, 4, 5] rfl
        exact end_fi hx hb hrt hlk hP hS (by have hT : seT p0 p1 = 2 := (by rw [seT, if_pos c_1, if_neg (by rw [c_2]; decide)]); rw [hT, if_neg (by decide)]) (fun hq => by have hT : seT p0 p1 = 2 := (by rw [seT, if_pos c_1, if_neg (by rw [c_2]; decide)]); have hN := n0_of hT (by decide); simp only [if_neg hN]; rw [hT, ← hst]; exact hq) dX6_set_36
    · skip
      replace c_2 := bI_n0 c_2
      refine lv_iconst (v := 0) hx hb dX6_set_20 (by decide) ?_
      refine lv_goto (tgt := 25) hx hb dX6_set_21 (by decide) ?_
      refine va_put (ci := 6) (v := .int 0) (ty := tyX6 5) (C := RX6) (T := TX6) (N := 13) hx hb hts inX6 tyX6 tyX6_ok nmX6 hown hK hP hD hS 0 rfl rfl 5 (by decide) (hts _ q_775) (fun _ h9 => h9) rfl (tyX6_ok 5 (by decide)) rfl rfl (Nat.le_of_ble_eq_true rfl) dX6_set_25 (fun H locs hP hD hS => ?_)
      have hP : va_P D vwCl [(m0, .inr (6, [.ref m1, .int st, .ref m2, .int len, .ref m3, .int 0, .int wo, .ref m4, .int rd, .int nu, .int du, .ref m5, .long hs])), (m1, .inl (kA 0, 148, .inl z)), (m2, .inl (kA 0, 888, .inl h)), (m3, .inl (kA 0, 60, .inl tx)), (m4, .inl (kA 0, 72, .inl pt)), (m5, .inl (kA 0, 148, .inl kp))] H := hP
      have hD : va_D (Aw [(m0, .inr (6, [.ref m1, .int st, .ref m2, .int len, .ref m3, .int th, .int wo, .ref m4, .int rd, .int nu, .int du, .ref m5, .long hs])), (m1, .inl (kA 0, 148, .inl z)), (m2, .inl (kA 0, 888, .inl h)), (m3, .inl (kA 0, 60, .inl tx)), (m4, .inl (kA 0, 72, .inl pt)), (m5, .inl (kA 0, 148, .inl kp))]) [(m0, .inr (6, [.ref m1, .int st, .ref m2, .int len, .ref m3, .int 0, .int wo, .ref m4, .int rd, .int nu, .int du, .ref m5, .long hs])), (m1, .inl (kA 0, 148, .inl z)), (m2, .inl (kA 0, 888, .inl h)), (m3, .inl (kA 0, 60, .inl tx)), (m4, .inl (kA 0, 72, .inl pt)), (m5, .inl (kA 0, 148, .inl kp))] := hD
      refine lv_aload_n hx hb dX6_set_28 rfl (lv_at hl 0 rfl) ?_
      refine va_get (ci := 6) (v := .int 0) (C := RX6) (T := TX6) (N := 13) hx hb hts inX6 hown hK hP 0 rfl rfl 5 (by decide) (hts _ q_775) (fun _ h9 => h9) rfl dX6_set_29 ?_
      refine lv_if_le (tgt := 37) hx hb dX6_set_32 (by decide) (fun c_4 => ?_) (fun c_4 => ?_)
      · skip
        replace c_4 := ge_n c_4
        refine lv_aload_n hx hb dX6_set_37 rfl (lv_at hl 0 rfl) ?_
        refine cs_fn (runV (As := []) (rest := []) ⟨hx, hb, hml, hown, hts⟩ (m_X6_save l D kA m0 m1 m2 m3 m4 m5 z h tx pt kp st len 0 wo rd nu du hs w (hst) (hw)) q_822 q_824 qp_22 q_7 q_825 hd_X6_save ⟨rfl, rfl⟩ ⟨Nat.le_of_ble_eq_true rfl, Nat.le_of_ble_eq_true rfl⟩ hK (ws := [(m0, .inr (6, [.ref m1, .int st, .ref m2, .int len, .ref m3, .int 0, .int wo, .ref m4, .int rd, .int nu, .int du, .ref m5, .long hs])), (m1, .inl (kA 0, 148, .inl z)), (m2, .inl (kA 0, 888, .inl h)), (m3, .inl (kA 0, 60, .inl tx)), (m4, .inl (kA 0, 72, .inl pt)), (m5, .inl (kA 0, 148, .inl kp))]) (hP.sub [0, 1, 2, 3, 4, 5] rfl) (hD.sub [0, 1, 2, 3, 4, 5] (by decide) rfl) 0 (ci := 6) (C := RX6) (T := TX6) (N := 13) rfl rfl rfl hl.1 rfl (Nat.le_of_ble_eq_true rfl) dX6_set_38 ⟨Nat.zero_le _, Nat.zero_le _⟩) hS (aw_sub hD (isC := [0, 1, 2, 3, 4, 5]) rfl) (fun H locs hP1 hk1 hS => ?_)
        obtain ⟨hP, hD⟩ := jn (wr := []) (w1 := [(m0, .inr (6, [.ref m1, .int (nI (svN w)), .ref m2, .int len, .ref m3, .int 0, .int wo, .ref m4, .int rd, .int nu, .int du, .ref m5, .long hs])), (m1, .inl (kA 0, 148, .inl z)), (m2, .inl (kA 0, 888, .inl (svH h z w))), (m3, .inl (kA 0, 60, .inl tx)), (m4, .inl (kA 0, 72, .inl pt)), (m5, .inl (kA 0, 148, .inl kp))]) hP hD [0, 1, 2, 3, 4, 5] [] rfl rfl (by decide) hk1 hP1 rfl
        have hP : va_P D vwCl [(m0, .inr (6, [.ref m1, .int (nI (svN w)), .ref m2, .int len, .ref m3, .int 0, .int wo, .ref m4, .int rd, .int nu, .int du, .ref m5, .long hs])), (m1, .inl (kA 0, 148, .inl z)), (m2, .inl (kA 0, 888, .inl (svH h z w))), (m3, .inl (kA 0, 60, .inl tx)), (m4, .inl (kA 0, 72, .inl pt)), (m5, .inl (kA 0, 148, .inl kp))] H := hP
        have hD : va_D (Aw [(m0, .inr (6, [.ref m1, .int st, .ref m2, .int len, .ref m3, .int th, .int wo, .ref m4, .int rd, .int nu, .int du, .ref m5, .long hs])), (m1, .inl (kA 0, 148, .inl z)), (m2, .inl (kA 0, 888, .inl h)), (m3, .inl (kA 0, 60, .inl tx)), (m4, .inl (kA 0, 72, .inl pt)), (m5, .inl (kA 0, 148, .inl kp))]) [(m0, .inr (6, [.ref m1, .int (nI (svN w)), .ref m2, .int len, .ref m3, .int 0, .int wo, .ref m4, .int rd, .int nu, .int du, .ref m5, .long hs])), (m1, .inl (kA 0, 148, .inl z)), (m2, .inl (kA 0, 888, .inl (svH h z w))), (m3, .inl (kA 0, 60, .inl tx)), (m4, .inl (kA 0, 72, .inl pt)), (m5, .inl (kA 0, 148, .inl kp))] := hD
        refine lv_aload_n hx hb dX6_set_41 rfl (lv_at hl 0 rfl) ?_
        refine va_get (ci := 6) (v := .ref m1) (C := RX6) (T := TX6) (N := 13) hx hb hts inX6 hown hK hP 0 rfl rfl 0 (by decide) (hts _ q_770) (fun _ h9 => h9) rfl dX6_set_42 ?_
        refine lv_iconst (v := 0) hx hb dX6_set_45 (by decide) ?_
        refine lv_iload_n hx hb dX6_set_46 rfl (lv_at hl 1 rfl) ?_
        refine lv_iadd hx hb dX6_set_47 ?_
        refine va_iald (f := z) hx hb hK hP 1 0 rfl rfl (in_nI (j := a) (by rw [epa]; exact z_add) (by omega) (by decide)) dX6_set_48 ?_
        refine lv_istore_n (lv' := [(3, .int (z (0 + p0).toNatClampNeg)), (0, .ref m0), (1, .int p0), (2, .int p1)]) hx hb dX6_set_49 rfl hl (by decide) rfl (fun ls hl => ?_)
        refine lv_aload_n hx hb dX6_set_50 rfl (lv_at hl 1 rfl) ?_
        refine va_get (ci := 6) (v := .ref m1) (C := RX6) (T := TX6) (N := 13) hx hb hts inX6 hown hK hP 0 rfl rfl 0 (by decide) (hts _ q_770) (fun _ h9 => h9) rfl dX6_set_51 ?_
        refine lv_iconst (v := 0) hx hb dX6_set_54 (by decide) ?_
        refine lv_iload_n hx hb dX6_set_55 rfl (lv_at hl 2 rfl) ?_
        refine lv_iadd hx hb dX6_set_56 ?_
        refine lv_iload_n hx hb dX6_set_57 rfl (lv_at hl 3 rfl) ?_
        refine va_iast (f := z) hx hb hK hP hD hS 1 0 rfl rfl (in_nI (j := a) (by rw [epa]; exact z_add) (by omega) (by decide)) dX6_set_58 (fun H locs hP hD hS => ?_)
        have hP : va_P D vwCl [(m0, .inr (6, [.ref m1, .int (nI (svN w)), .ref m2, .int len, .ref m3, .int 0, .int wo, .ref m4, .int rd, .int nu, .int du, .ref m5, .long hs])), (m1, .inl (kA 0, 148, .inl (upd z (0 + p0).toNatClampNeg p1))), (m2, .inl (kA 0, 888, .inl (svH h z w))), (m3, .inl (kA 0, 60, .inl tx)), (m4, .inl (kA 0, 72, .inl pt)), (m5, .inl (kA 0, 148, .inl kp))] H := hP
        have hD : va_D (Aw [(m0, .inr (6, [.ref m1, .int st, .ref m2, .int len, .ref m3, .int th, .int wo, .ref m4, .int rd, .int nu, .int du, .ref m5, .long hs])), (m1, .inl (kA 0, 148, .inl z)), (m2, .inl (kA 0, 888, .inl h)), (m3, .inl (kA 0, 60, .inl tx)), (m4, .inl (kA 0, 72, .inl pt)), (m5, .inl (kA 0, 148, .inl kp))]) [(m0, .inr (6, [.ref m1, .int (nI (svN w)), .ref m2, .int len, .ref m3, .int 0, .int wo, .ref m4, .int rd, .int nu, .int du, .ref m5, .long hs])), (m1, .inl (kA 0, 148, .inl (upd z (0 + p0).toNatClampNeg p1))), (m2, .inl (kA 0, 888, .inl (svH h z w))), (m3, .inl (kA 0, 60, .inl tx)), (m4, .inl (kA 0, 72, .inl pt)), (m5, .inl (kA 0, 148, .inl kp))] := hD
        refine lv_iload_n hx hb dX6_set_59 rfl (lv_at hl 0 rfl) ?_
        have hP : va_P D vwCl [(m0, .inr (6, [.ref m1, .int (nI (svN w)), .ref m2, .int len, .ref m3, .int 0, .int wo, .ref m4, .int rd, .int nu, .int du, .ref m5, .long hs])), (m1, .inl (kA 0, 148, .inl (upd z (0 + p0).toNatClampNeg p1))), (m2, .inl (kA 0, 888, .inl (svH h z w))), (m3, .inl (kA 0, 60, .inl tx)), (m4, .inl (kA 0, 72, .inl pt)), (m5, .inl (kA 0, 148, .inl kp))] _ := hP.sub [0, 1, 2, 3, 4, 5] rfl
        exact end_fi hx hb hrt hlk hP hS (by have hT : seT p0 p1 = 0 := (by rw [seT, if_pos c_1, if_pos c_2]); rw [hT, if_pos rfl]; rw [show (0 : Int32) + p0 = p0 from Int32.zero_add p0]) (fun hq => by have hT : seT p0 p1 = 0 := (by rw [seT, if_pos c_1, if_pos c_2]); simp only [hT, if_true]; rw [show (0 : Int32) + p0 = p0 from Int32.zero_add p0] at hq; exact hq) dX6_set_60
      · exact absurd c_4 (by decide)
  · skip
    replace c_1 := bI_0.mp c_1
    refine lv_iconst (v := 1) hx hb dX6_set_8 (by decide) ?_
    refine lv_goto (tgt := 25) hx hb dX6_set_9 (by decide) ?_
    refine va_put (ci := 6) (v := .int 1) (ty := tyX6 5) (C := RX6) (T := TX6) (N := 13) hx hb hts inX6 tyX6 tyX6_ok nmX6 hown hK hP hD hS 0 rfl rfl 5 (by decide) (hts _ q_775) (fun _ h9 => h9) rfl (tyX6_ok 5 (by decide)) rfl rfl (Nat.le_of_ble_eq_true rfl) dX6_set_25 (fun H locs hP hD hS => ?_)
    have hP : va_P D vwCl [(m0, .inr (6, [.ref m1, .int st, .ref m2, .int len, .ref m3, .int 1, .int wo, .ref m4, .int rd, .int nu, .int du, .ref m5, .long hs])), (m1, .inl (kA 0, 148, .inl z)), (m2, .inl (kA 0, 888, .inl h)), (m3, .inl (kA 0, 60, .inl tx)), (m4, .inl (kA 0, 72, .inl pt)), (m5, .inl (kA 0, 148, .inl kp))] H := hP
    have hD : va_D (Aw [(m0, .inr (6, [.ref m1, .int st, .ref m2, .int len, .ref m3, .int th, .int wo, .ref m4, .int rd, .int nu, .int du, .ref m5, .long hs])), (m1, .inl (kA 0, 148, .inl z)), (m2, .inl (kA 0, 888, .inl h)), (m3, .inl (kA 0, 60, .inl tx)), (m4, .inl (kA 0, 72, .inl pt)), (m5, .inl (kA 0, 148, .inl kp))]) [(m0, .inr (6, [.ref m1, .int st, .ref m2, .int len, .ref m3, .int 1, .int wo, .ref m4, .int rd, .int nu, .int du, .ref m5, .long hs])), (m1, .inl (kA 0, 148, .inl z)), (m2, .inl (kA 0, 888, .inl h)), (m3, .inl (kA 0, 60, .inl tx)), (m4, .inl (kA 0, 72, .inl pt)), (m5, .inl (kA 0, 148, .inl kp))] := hD
    refine lv_aload_n hx hb dX6_set_28 rfl (lv_at hl 0 rfl) ?_
    refine va_get (ci := 6) (v := .int 1) (C := RX6) (T := TX6) (N := 13) hx hb hts inX6 hown hK hP 0 rfl rfl 5 (by decide) (hts _ q_775) (fun _ h9 => h9) rfl dX6_set_29 ?_
    refine lv_if_le (tgt := 37) hx hb dX6_set_32 (by decide) (fun c_5 => ?_) (fun c_5 => ?_)
    · exact absurd c_5 (by decide)
    · skip
      replace c_5 := nge_l c_5
      refine lv_iconst (v := 0) hx hb dX6_set_35 (by decide) ?_
      have hP : va_P D vwCl [(m0, .inr (6, [.ref m1, .int st, .ref m2, .int len, .ref m3, .int 1, .int wo, .ref m4, .int rd, .int nu, .int du, .ref m5, .long hs])), (m1, .inl (kA 0, 148, .inl z)), (m2, .inl (kA 0, 888, .inl h)), (m3, .inl (kA 0, 60, .inl tx)), (m4, .inl (kA 0, 72, .inl pt)), (m5, .inl (kA 0, 148, .inl kp))] _ := hP.sub [0, 1, 2, 3, 4, 5] rfl
      exact end_fi hx hb hrt hlk hP hS (by have hT : seT p0 p1 = 1 := (by rw [seT, if_neg (by rw [c_1]; decide)]); rw [hT, if_neg (by decide)]) (fun hq => by have hT : seT p0 p1 = 1 := (by rw [seT, if_neg (by rw [c_1]; decide)]); have hN := n0_of hT (by decide); simp only [if_neg hN]; rw [hT, ← hst]; exact hq) dX6_set_36
