
section PW
variable {z : Nat → Int32} {a : Nat}
theorem sl_S {up : Bool} (hc : canF z a (wI up) = true) {j : Nat} (hj : j < 35) : sl (zS z a (wI up)) a j = stepG (sl z a) z (wI up) j := by
  rw [zS_eq (canF_t.mp hc), sl_inG hj]
def stT (z : Nat → Int32) (a : Nat) (up : Bool) : Int32 := if canF z a (wI up) = true then tollG (sl z a) z (wI up) else 0
theorem Inv_Z (h : Inv z) (ha : a < 4) (up : Bool) : Inv (stZ z a up) := by
  unfold stZ
  by_cases hc : z 6 < tollG (sl z a) z (wI up)
  · rw [if_pos hc]; exact h
  · rw [if_neg hc]; exact Inv_S h ha hc
theorem st_8 {up : Bool} {x3 s : Int32} (hs : sl z a 8 = x3 + s) : sl (stZ z a up) a 8 = x3 + (s + stT z a up) := by
  unfold stT
  cases hc : canF z a (wI up) with
  | false => rw [stZ_f hc, if_neg (by decide), add0]; exact hs
  | true =>
    rw [stZ_t hc, if_pos rfl, sl_S hc (by omega), ← Int32.add_assoc, ← hs]
    rfl
theorem st_1 {up : Bool} {c : Nat} (h1 : sl z a 1 = nI c) (hc : c < 24) (h : canF z a (wI up) = true) : sl (stZ z a up) a 1 = nI (cN c up) := by
  rw [stZ_t h, sl_S h (by omega)]
  exact nW_c h1 hc up
theorem gt_s {up : Bool} {q s : Int32} {kf : Nat} {r : Int32 × (Nat → Int32)} (h : Inv z) (ha : a < 4) (hk : 0 < kf) (hne : ¬ sl z a 1 = q) (hr : gtL a (wI up) q kf z s = r) : (if canF z a (wI up) = true then gtL a (wI up) q (kf - 1) (stZ z a up) (s + stT z a up) else (s + stT z a up, stZ z a up)) = r := by
  cases kf with
  | zero => exact absurd hk (by omega)
  | succ k =>
    rw [gtL, if_neg hne] at hr
    unfold stT
    cases hc : canF z a (wI up) with
    | false =>
      have h1 := canF_f hc
      rw [if_pos ((ms_0 h ha up).mpr h1), zB_n h1] at hr
      rw [if_neg (by decide), if_neg (by decide), stZ_f hc, add0]
      exact hr
    | true =>
      have h1 := canF_t.mp hc
      rw [if_neg (fun q => h1 ((ms_0 h ha up).mp q))] at hr
      rw [if_pos rfl, if_pos rfl, stZ_t hc]
      have e : msR (sl z a) z (wI up) (z 6) = tollG (sl z a) z (wI up) := if_neg h1
      rw [e] at hr
      exact hr
theorem gt_e {w q s : Int32} {kf : Nat} (hk : 0 < kf) (he : sl z a 1 = q) : gtL a w q kf z s = (s, z) := by
  cases kf with
  | zero => exact absurd hk (by omega)
  | succ k => rw [gtL, if_pos he]
theorem sub_add (x s : Int32) : x + s - x = s := by
  rw [Int32.add_comm, Int32.add_sub_cancel]
def hzL (a : Nat) : Nat → (Nat → Int32) → (Nat → Int32)
  | 0, z => z
  | k + 1, z => if sl z a 0 = 0 then z else if canF z a (wI false) = true then hzL a k (zS z a (wI false)) else z
def hz1 (z : Nat → Int32) (a : Nat) : Nat → Int32 := puZ (puZ (puZ (puZ z a 1 0) a 4 0) a 3 0) a 10 (sl (puZ (puZ (puZ z a 1 0) a 4 0) a 3 0) a 10 + 1)
def hoZ (z : Nat → Int32) (a : Nat) : Nat → Int32 := if sl (hzL a 40 z) a 0 = 0 then hz1 (hzL a 40 z) a else hzL a 40 z
def hoR (z : Nat → Int32) (a : Nat) : Int32 := if sl (hzL a 40 z) a 0 = 0 then sl (hzL a 40 z) a 6 - sl z a 6 else -1
theorem st_6 {x s : Int32} (hs : sl z a 6 = x + s) (hc : canF z a (wI false) = true) : sl (zS z a (wI false)) a 6 = x + (s + 1) := by
  rw [sl_S hc (by omega), ← Int32.add_assoc, ← hs]
  rfl
def hL1 (h : Nat → Int32) (j : Nat) : Nat → Int32 := fun i => if i + 148 < j then h (i + 148) else h i
def hL2 (h z : Nat → Int32) (w j : Nat) : Nat → Int32 := fun i => if 148 * w ≤ i ∧ i < 148 * w + j then z (i - 148 * w) else h i
def svH (h z : Nat → Int32) (w : Nat) : Nat → Int32 := if w = 6 then hL2 (hL1 h 888) z 5 148 else hL2 h z w 148
def svN (w : Nat) : Nat := if w = 6 then 6 else w + 1
theorem hL1_0 {h : Nat → Int32} : h = hL1 h 148 := funext fun i => (if_neg (by omega)).symm
theorem hL2_0 {h : Nat → Int32} {w : Nat} : h = hL2 h z w 0 := funext fun i => (if_neg (by omega)).symm
theorem hL1_s {h h' : Nat → Int32} {j : Nat} (e : h' = hL1 h j) (hj : 148 ≤ j) : upd h' (j - 148) (h' j) = hL1 h (j + 1) := funext fun i => by
  subst e
  unfold upd hL1
  by_cases hi : i = j - 148
  · rw [if_pos hi, if_neg (by omega), if_pos (by omega), show i + 148 = j by omega]
  · rw [if_neg hi]
    by_cases h2 : i + 148 < j
    · rw [if_pos h2, if_pos (by omega)]
    · rw [if_neg h2, if_neg (by omega)]
theorem hL2_s {h h' : Nat → Int32} {w j : Nat} (e : h' = hL2 h z w j) : upd h' (148 * w + j) (z j) = hL2 h z w (j + 1) := funext fun i => by
  subst e
  unfold upd hL2
  by_cases hi : i = 148 * w + j
  · rw [if_pos hi, if_pos (by omega), show i - 148 * w = j by omega]
  · rw [if_neg hi]
    by_cases h2 : 148 * w ≤ i ∧ i < 148 * w + j
    · rw [if_pos h2, if_pos (by omega)]
    · rw [if_neg h2, if_neg (by omega)]
theorem ix148 {s x : Int32} {w j : Nat} (hs : s = nI w) (e : x = nI j) : 148 * s + x = nI (148 * w + j) := by
  subst hs; subst e
  have e8 : (148 : Int32) = nI 148 := rfl
  rw [e8, pk_mul, nI_add]
theorem ix_m {x : Int32} {j : Nat} (e : x = nI j) (hj : 148 ≤ j) : x - 148 = nI (j - 148) := by
  subst e
  have e8 : (148 : Int32) = nI 148 := rfl
  rw [e8, pk_sub hj]
theorem six_n {s : Int32} {w : Nat} (e : s = nI w) (hw : w ≤ 6) (h : ¬ s = 6) : ¬ w = 6 := fun q => h (by subst q; exact e)
theorem six_y {s : Int32} {w : Nat} (e : s = nI w) (hw : w ≤ 6) (h : s = 6) : w = 6 := by
  have e2 := congrArg Int32.toNatClampNeg (e.symm.trans h)
  rw [nI_clamp (by omega)] at e2
  exact e2.trans (by decide)
end PW
theorem hd_X6_goes : yX6_goes.cls ≠ "java/lang/invoke/MethodHandle" ∧ yX6_goes.cls ≠ "java/lang/invoke/VarHandle" ∧ (parseMethodDescriptor yX6_goes.desc).map (fun d => d.parameters.length) = some 2 := by decide +kernel
set_option maxRecDepth 100000 in
set_option maxHeartbeats 4000000 in
theorem m_X6_goes (l : Launch) (D : va_G) (kA : Nat → Nat) (m0 : Nat) (m1 : Nat) (m2 : Nat) (m3 : Nat) (m4 : Nat) (m5 : Nat) (z : Nat → Int32) (h : Nat → Int32) (tx : Nat → Int32) (pt : Nat → Int32) (kp : Nat → Int32) (st : Int32) (len : Int32) (th : Int32) (wo : Int32) (rd : Int32) (nu : Int32) (du : Int32) (hs : Int64) (a : Nat) (p1 : Int32) (tg : Nat) (hI : Inv z) (ha : a < 4) (hp : p1 = nI tg) (htg : tg < 24) (hwo : wo = -1) : Met l yX6_goes (Cond.code yX6_goes cX6_goes 6 (some .int) :: AW) ({ frames := 4, cells := 0, slots := 0, locals := 95 } : Room) (Pz [.ref m0, .int (nI a), .int p1] D (TY kA) [(m0, .inr (6, [.ref m1, .int st, .ref m2, .int len, .ref m3, .int th, .int wo, .ref m4, .int rd, .int nu, .int du, .ref m5, .long hs])), (m1, .inl (kA 0, 148, .inl z)), (m2, .inl (kA 0, 888, .inl h)), (m3, .inl (kA 0, 60, .inl tx)), (m4, .inl (kA 0, 72, .inl pt)), (m5, .inl (kA 0, 148, .inl kp))]) (fQ (some (.int ((gtF z a p1).1))) D [(m0, .inr (6, [.ref m1, .int st, .ref m2, .int len, .ref m3, .int th, .int wo, .ref m4, .int rd, .int nu, .int du, .ref m5, .long hs])), (m1, .inl (kA 0, 148, .inl z)), (m2, .inl (kA 0, 888, .inl h)), (m3, .inl (kA 0, 60, .inl tx)), (m4, .inl (kA 0, 72, .inl pt)), (m5, .inl (kA 0, 148, .inl kp))] [(m0, .inr (6, [.ref m1, .int st, .ref m2, .int len, .ref m3, .int th, .int wo, .ref m4, .int rd, .int nu, .int du, .ref m5, .long hs])), (m1, .inl (kA 0, 148, .inl ((gtF z a p1).2))), (m2, .inl (kA 0, 888, .inl h)), (m3, .inl (kA 0, 60, .inl tx)), (m4, .inl (kA 0, 72, .inl pt)), (m5, .inl (kA 0, 148, .inl kp))]) 0 0 (Aw [(m0, .inr (6, [.ref m1, .int st, .ref m2, .int len, .ref m3, .int th, .int wo, .ref m4, .int rd, .int nu, .int du, .ref m5, .long hs])), (m1, .inl (kA 0, 148, .inl z)), (m2, .inl (kA 0, 888, .inl h)), (m3, .inl (kA 0, 60, .inl tx)), (m4, .inl (kA 0, 72, .inl pt)), (m5, .inl (kA 0, 148, .inl kp))]) := by
  refine MetZ (by decide +kernel) (Nat.le_of_ble_eq_true rfl) ?_
  intro p e s m below meth c ls hx hb hrt hts hown hml hlk hnm hP hK hD hS hl
  have hl : lv_has ls 6 [(0, .ref m0), (1, .int (nI a)), (2, .int p1)] := hl
  refine lv_aload_n hx hb dX6_goes_0 rfl (lv_at hl 0 rfl) ?_
  refine lv_iload_n hx hb dX6_goes_1 rfl (lv_at hl 1 rfl) ?_
  refine lv_bipush (v := 8) hx hb dX6_goes_2 (by decide) ?_
  refine cs_p (runV (As := [.int (nI a), .int 8]) (rest := []) ⟨hx, hb, hml, hown, hts⟩ (m_X6_of l D kA m0 m1 m2 m3 m4 m5 z h tx pt kp st len th wo rd nu du hs a 8 8 (rfl) (by omega) (ha)) q_833 q_835 qp_23 q_7 q_836 hd_X6_of ⟨rfl, rfl⟩ ⟨Nat.le_of_ble_eq_true rfl, Nat.le_of_ble_eq_true rfl⟩ hK (ws := [(m0, .inr (6, [.ref m1, .int st, .ref m2, .int len, .ref m3, .int th, .int wo, .ref m4, .int rd, .int nu, .int du, .ref m5, .long hs])), (m1, .inl (kA 0, 148, .inl z)), (m2, .inl (kA 0, 888, .inl h)), (m3, .inl (kA 0, 60, .inl tx)), (m4, .inl (kA 0, 72, .inl pt)), (m5, .inl (kA 0, 148, .inl kp))]) (hP.sub [0, 1, 2, 3, 4, 5] rfl) (hD.sub [0, 1, 2, 3, 4, 5] (by decide) rfl) 0 (ci := 6) (C := RX6) (T := TX6) (N := 13) rfl rfl rfl hl.1 rfl (Nat.le_of_ble_eq_true rfl) dX6_goes_4 ⟨Nat.zero_le _, Nat.zero_le _⟩) ?_
  refine lv_istore_n (lv' := [(3, .int (sl z a 8)), (0, .ref m0), (1, .int (nI a)), (2, .int p1)]) hx hb dX6_goes_7 rfl hl (by decide) rfl (fun ls hl => ?_)
  refine lv_aload_n hx hb dX6_goes_8 rfl (lv_at hl 1 rfl) ?_
  refine lv_iload_n hx hb dX6_goes_9 rfl (lv_at hl 2 rfl) ?_
  refine lv_iload_n hx hb dX6_goes_10 rfl (lv_at hl 3 rfl) ?_
  refine cs_p (runV (As := [.int (nI a), .int p1]) (rest := []) ⟨hx, hb, hml, hown, hts⟩ (m_X6_goesUp l D kA m0 m1 m2 m3 m4 m5 z h tx pt kp st len th wo rd nu du hs a p1 tg (hI) (ha) (hp) (htg)) q_904 q_906 qp_34 q_7 q_907 hd_X6_goesUp ⟨rfl, rfl⟩ ⟨Nat.le_of_ble_eq_true rfl, Nat.le_of_ble_eq_true rfl⟩ hK (ws := [(m0, .inr (6, [.ref m1, .int st, .ref m2, .int len, .ref m3, .int th, .int wo, .ref m4, .int rd, .int nu, .int du, .ref m5, .long hs])), (m1, .inl (kA 0, 148, .inl z)), (m2, .inl (kA 0, 888, .inl h)), (m3, .inl (kA 0, 60, .inl tx)), (m4, .inl (kA 0, 72, .inl pt)), (m5, .inl (kA 0, 148, .inl kp))]) (hP.sub [0, 1, 2, 3, 4, 5] rfl) (hD.sub [0, 1, 2, 3, 4, 5] (by decide) rfl) 0 (ci := 6) (C := RX6) (T := TX6) (N := 13) rfl rfl rfl hl.1 rfl (Nat.le_of_ble_eq_true rfl) dX6_goes_11 ⟨Nat.zero_le _, Nat.zero_le _⟩) ?_
  refine lv_istore (lv' := [(4, .int (bI (guF z a p1 wo))), (3, .int (sl z a 8)), (0, .ref m0), (1, .int (nI a)), (2, .int p1)]) hx hb dX6_goes_14 hl (by decide) rfl (fun ls hl => ?_)
  refine lv_iconst (v := 1) hx hb dX6_goes_16 (by decide) ?_
  refine lv_istore (lv' := [(5, .int 1), (4, .int (bI (guF z a p1 wo))), (3, .int (sl z a 8)), (0, .ref m0), (1, .int (nI a)), (2, .int p1)]) hx hb dX6_goes_17 hl (by decide) rfl (fun ls hl => ?_)
  have loop_19 : ∀ (n : Nat) (cq : Nat) (kf : Nat) (f : Bool) (sm : Int32) (zj : Nat → Int32) (hIj : Inv zj) (hc : f = true → sl zj a 1 = nI cq ∧ cq < 24) (hd : f = true → dN cq tg (guF z a p1 wo) = n) (hk : n < kf) (hsm : sl zj a 8 = sl z a 8 + sm) (hres : (if f = true then gtL a (wI (guF z a p1 wo)) p1 kf zj sm else (sm, zj)) = gtF z a p1), ∀ (H : Heap) (locs : List Loc), va_P D vwCl [(m0, .inr (6, [.ref m1, .int st, .ref m2, .int len, .ref m3, .int th, .int wo, .ref m4, .int rd, .int nu, .int du, .ref m5, .long hs])), (m1, .inl (kA 0, 148, .inl zj)), (m2, .inl (kA 0, 888, .inl h)), (m3, .inl (kA 0, 60, .inl tx)), (m4, .inl (kA 0, 72, .inl pt)), (m5, .inl (kA 0, 148, .inl kp))] H → va_D (Aw [(m0, .inr (6, [.ref m1, .int st, .ref m2, .int len, .ref m3, .int th, .int wo, .ref m4, .int rd, .int nu, .int du, .ref m5, .long hs])), (m1, .inl (kA 0, 148, .inl z)), (m2, .inl (kA 0, 888, .inl h)), (m3, .inl (kA 0, 60, .inl tx)), (m4, .inl (kA 0, 72, .inl pt)), (m5, .inl (kA 0, 148, .inl kp))]) [(m0, .inr (6, [.ref m1, .int st, .ref m2, .int len, .ref m3, .int th, .int wo, .ref m4, .int rd, .int nu, .int du, .ref m5, .long hs])), (m1, .inl (kA 0, 148, .inl zj)), (m2, .inl (kA 0, 888, .inl h)), (m3, .inl (kA 0, 60, .inl tx)), (m4, .inl (kA 0, 72, .inl pt)), (m5, .inl (kA 0, 148, .inl kp))] → va_S (Aw [(m0, .inr (6, [.ref m1, .int st, .ref m2, .int len, .ref m3, .int th, .int wo, .ref m4, .int rd, .int nu, .int du, .ref m5, .long hs])), (m1, .inl (kA 0, 148, .inl z)), (m2, .inl (kA 0, 888, .inl h)), (m3, .inl (kA 0, 60, .inl tx)), (m4, .inl (kA 0, 72, .inl pt)), (m5, .inl (kA 0, 148, .inl kp))]) s.heap H locs → ∀ ls : Array Slot, lv_has ls 6 [(0, .ref m0), (1, .int (nI a)), (2, .int p1), (3, .int (sl z a 8)), (4, .int (bI (guF z a p1 wo))), (5, .int (bI f))] → W p l e ({ frames := 4, cells := 0, slots := 0, locals := 95 } : Room) s m [.ref m0, .int (nI a), .int p1].toArray below meth c H locs 0 0 (MQ below (fQ (some (.int ((gtF z a p1).1))) D [(m0, .inr (6, [.ref m1, .int st, .ref m2, .int len, .ref m3, .int th, .int wo, .ref m4, .int rd, .int nu, .int du, .ref m5, .long hs])), (m1, .inl (kA 0, 148, .inl z)), (m2, .inl (kA 0, 888, .inl h)), (m3, .inl (kA 0, 60, .inl tx)), (m4, .inl (kA 0, 72, .inl pt)), (m5, .inl (kA 0, 148, .inl kp))] [(m0, .inr (6, [.ref m1, .int st, .ref m2, .int len, .ref m3, .int th, .int wo, .ref m4, .int rd, .int nu, .int du, .ref m5, .long hs])), (m1, .inl (kA 0, 148, .inl ((gtF z a p1).2))), (m2, .inl (kA 0, 888, .inl h)), (m3, .inl (kA 0, 60, .inl tx)), (m4, .inl (kA 0, 72, .inl pt)), (m5, .inl (kA 0, 148, .inl kp))]) [.ref m0, .int (nI a), .int p1].toArray s 0 0 (Aw [(m0, .inr (6, [.ref m1, .int st, .ref m2, .int len, .ref m3, .int th, .int wo, .ref m4, .int rd, .int nu, .int du, .ref m5, .long hs])), (m1, .inl (kA 0, 148, .inl z)), (m2, .inl (kA 0, 888, .inl h)), (m3, .inl (kA 0, 60, .inl tx)), (m4, .inl (kA 0, 72, .inl pt)), (m5, .inl (kA 0, 148, .inl kp))])) (F0 m 19 ls []) := by
    clear hl
    clear hP hD hS
    intro n
    induction n with
    | zero =>
      intro cq kf f sm zj hIj hc hd hk hsm hres H locs hP hD hS ls hl
      refine lv_iload hx hb dX6_goes_19 (lv_at hl 5 rfl) ?_
      refine lv_if_eq (tgt := 46) hx hb dX6_goes_21 (by decide) (fun c_1 => ?_) (fun c_1 => ?_)
      · skip
        replace c_1 := bI_0.mp c_1
        have hE : gtF z a p1 = (sm, zj) := by rw [← hres, if_neg (by rw [c_1]; decide)]
        refine lv_aload_n hx hb dX6_goes_46 rfl (lv_at hl 0 rfl) ?_
        refine lv_iload_n hx hb dX6_goes_47 rfl (lv_at hl 1 rfl) ?_
        refine lv_bipush (v := 8) hx hb dX6_goes_48 (by decide) ?_
        refine cs_p (runV (As := [.int (nI a), .int 8]) (rest := []) ⟨hx, hb, hml, hown, hts⟩ (m_X6_of l D kA m0 m1 m2 m3 m4 m5 zj h tx pt kp st len th wo rd nu du hs a 8 8 (rfl) (by omega) (ha)) q_833 q_835 qp_23 q_7 q_836 hd_X6_of ⟨rfl, rfl⟩ ⟨Nat.le_of_ble_eq_true rfl, Nat.le_of_ble_eq_true rfl⟩ hK (ws := [(m0, .inr (6, [.ref m1, .int st, .ref m2, .int len, .ref m3, .int th, .int wo, .ref m4, .int rd, .int nu, .int du, .ref m5, .long hs])), (m1, .inl (kA 0, 148, .inl zj)), (m2, .inl (kA 0, 888, .inl h)), (m3, .inl (kA 0, 60, .inl tx)), (m4, .inl (kA 0, 72, .inl pt)), (m5, .inl (kA 0, 148, .inl kp))]) (hP.sub [0, 1, 2, 3, 4, 5] rfl) (hD.sub [0, 1, 2, 3, 4, 5] (by decide) rfl) 0 (ci := 6) (C := RX6) (T := TX6) (N := 13) rfl rfl rfl hl.1 rfl (Nat.le_of_ble_eq_true rfl) dX6_goes_50 ⟨Nat.zero_le _, Nat.zero_le _⟩) ?_
        refine lv_iload_n hx hb dX6_goes_53 rfl (lv_at hl 3 rfl) ?_
        refine lv_isub hx hb dX6_goes_54 ?_
        have hP : va_P D vwCl [(m0, .inr (6, [.ref m1, .int st, .ref m2, .int len, .ref m3, .int th, .int wo, .ref m4, .int rd, .int nu, .int du, .ref m5, .long hs])), (m1, .inl (kA 0, 148, .inl zj)), (m2, .inl (kA 0, 888, .inl h)), (m3, .inl (kA 0, 60, .inl tx)), (m4, .inl (kA 0, 72, .inl pt)), (m5, .inl (kA 0, 148, .inl kp))] _ := hP.sub [0, 1, 2, 3, 4, 5] rfl
        exact end_fi hx hb hrt hlk hP hS (by rw [hE, hsm]; exact sub_add _ _) (fun hq => by rw [hE]; exact hq) dX6_goes_55
      · skip
        replace c_1 := bI_n0 c_1
        have cf : f = true := c_1
        refine lv_aload_n hx hb dX6_goes_24 rfl (lv_at hl 0 rfl) ?_
        refine lv_iload_n hx hb dX6_goes_25 rfl (lv_at hl 1 rfl) ?_
        refine lv_iconst (v := 1) hx hb dX6_goes_26 (by decide) ?_
        refine cs_p (runV (As := [.int (nI a), .int 1]) (rest := []) ⟨hx, hb, hml, hown, hts⟩ (m_X6_of l D kA m0 m1 m2 m3 m4 m5 zj h tx pt kp st len th wo rd nu du hs a 1 1 (rfl) (by omega) (ha)) q_833 q_835 qp_23 q_7 q_836 hd_X6_of ⟨rfl, rfl⟩ ⟨Nat.le_of_ble_eq_true rfl, Nat.le_of_ble_eq_true rfl⟩ hK (ws := [(m0, .inr (6, [.ref m1, .int st, .ref m2, .int len, .ref m3, .int th, .int wo, .ref m4, .int rd, .int nu, .int du, .ref m5, .long hs])), (m1, .inl (kA 0, 148, .inl zj)), (m2, .inl (kA 0, 888, .inl h)), (m3, .inl (kA 0, 60, .inl tx)), (m4, .inl (kA 0, 72, .inl pt)), (m5, .inl (kA 0, 148, .inl kp))]) (hP.sub [0, 1, 2, 3, 4, 5] rfl) (hD.sub [0, 1, 2, 3, 4, 5] (by decide) rfl) 0 (ci := 6) (C := RX6) (T := TX6) (N := 13) rfl rfl rfl hl.1 rfl (Nat.le_of_ble_eq_true rfl) dX6_goes_27 ⟨Nat.zero_le _, Nat.zero_le _⟩) ?_
        refine lv_iload_n hx hb dX6_goes_30 rfl (lv_at hl 2 rfl) ?_
        refine lv_icmp_eq (tgt := 46) hx hb dX6_goes_31 (by decide) (fun c_2 => ?_) (fun c_2 => ?_)
        · skip
          have hE : gtF z a p1 = (sm, zj) := by rw [← hres, if_pos cf]; exact gt_e (by omega) c_2
          refine lv_aload_n hx hb dX6_goes_46 rfl (lv_at hl 0 rfl) ?_
          refine lv_iload_n hx hb dX6_goes_47 rfl (lv_at hl 1 rfl) ?_
          refine lv_bipush (v := 8) hx hb dX6_goes_48 (by decide) ?_
          refine cs_p (runV (As := [.int (nI a), .int 8]) (rest := []) ⟨hx, hb, hml, hown, hts⟩ (m_X6_of l D kA m0 m1 m2 m3 m4 m5 zj h tx pt kp st len th wo rd nu du hs a 8 8 (rfl) (by omega) (ha)) q_833 q_835 qp_23 q_7 q_836 hd_X6_of ⟨rfl, rfl⟩ ⟨Nat.le_of_ble_eq_true rfl, Nat.le_of_ble_eq_true rfl⟩ hK (ws := [(m0, .inr (6, [.ref m1, .int st, .ref m2, .int len, .ref m3, .int th, .int wo, .ref m4, .int rd, .int nu, .int du, .ref m5, .long hs])), (m1, .inl (kA 0, 148, .inl zj)), (m2, .inl (kA 0, 888, .inl h)), (m3, .inl (kA 0, 60, .inl tx)), (m4, .inl (kA 0, 72, .inl pt)), (m5, .inl (kA 0, 148, .inl kp))]) (hP.sub [0, 1, 2, 3, 4, 5] rfl) (hD.sub [0, 1, 2, 3, 4, 5] (by decide) rfl) 0 (ci := 6) (C := RX6) (T := TX6) (N := 13) rfl rfl rfl hl.1 rfl (Nat.le_of_ble_eq_true rfl) dX6_goes_50 ⟨Nat.zero_le _, Nat.zero_le _⟩) ?_
          refine lv_iload_n hx hb dX6_goes_53 rfl (lv_at hl 3 rfl) ?_
          refine lv_isub hx hb dX6_goes_54 ?_
          have hP : va_P D vwCl [(m0, .inr (6, [.ref m1, .int st, .ref m2, .int len, .ref m3, .int th, .int wo, .ref m4, .int rd, .int nu, .int du, .ref m5, .long hs])), (m1, .inl (kA 0, 148, .inl zj)), (m2, .inl (kA 0, 888, .inl h)), (m3, .inl (kA 0, 60, .inl tx)), (m4, .inl (kA 0, 72, .inl pt)), (m5, .inl (kA 0, 148, .inl kp))] _ := hP.sub [0, 1, 2, 3, 4, 5] rfl
          exact end_fi hx hb hrt hlk hP hS (by rw [hE, hsm]; exact sub_add _ _) (fun hq => by rw [hE]; exact hq) dX6_goes_55
        · exact absurd c_2 (fun hh => hh (dN_z (hc cf).1 hp (hc cf).2 htg (hd cf)))
    | succ n ih19 =>
      intro cq kf f sm zj hIj hc hd hk hsm hres H locs hP hD hS ls hl
      refine lv_iload hx hb dX6_goes_19 (lv_at hl 5 rfl) ?_
      refine lv_if_eq (tgt := 46) hx hb dX6_goes_21 (by decide) (fun c_3 => ?_) (fun c_3 => ?_)
      · skip
        replace c_3 := bI_0.mp c_3
        have hE : gtF z a p1 = (sm, zj) := by rw [← hres, if_neg (by rw [c_3]; decide)]
        refine lv_aload_n hx hb dX6_goes_46 rfl (lv_at hl 0 rfl) ?_
        refine lv_iload_n hx hb dX6_goes_47 rfl (lv_at hl 1 rfl) ?_
        refine lv_bipush (v := 8) hx hb dX6_goes_48 (by decide) ?_
        refine cs_p (runV (As := [.int (nI a), .int 8]) (rest := []) ⟨hx, hb, hml, hown, hts⟩ (m_X6_of l D kA m0 m1 m2 m3 m4 m5 zj h tx pt kp st len th wo rd nu du hs a 8 8 (rfl) (by omega) (ha)) q_833 q_835 qp_23 q_7 q_836 hd_X6_of ⟨rfl, rfl⟩ ⟨Nat.le_of_ble_eq_true rfl, Nat.le_of_ble_eq_true rfl⟩ hK (ws := [(m0, .inr (6, [.ref m1, .int st, .ref m2, .int len, .ref m3, .int th, .int wo, .ref m4, .int rd, .int nu, .int du, .ref m5, .long hs])), (m1, .inl (kA 0, 148, .inl zj)), (m2, .inl (kA 0, 888, .inl h)), (m3, .inl (kA 0, 60, .inl tx)), (m4, .inl (kA 0, 72, .inl pt)), (m5, .inl (kA 0, 148, .inl kp))]) (hP.sub [0, 1, 2, 3, 4, 5] rfl) (hD.sub [0, 1, 2, 3, 4, 5] (by decide) rfl) 0 (ci := 6) (C := RX6) (T := TX6) (N := 13) rfl rfl rfl hl.1 rfl (Nat.le_of_ble_eq_true rfl) dX6_goes_50 ⟨Nat.zero_le _, Nat.zero_le _⟩) ?_
        refine lv_iload_n hx hb dX6_goes_53 rfl (lv_at hl 3 rfl) ?_
        refine lv_isub hx hb dX6_goes_54 ?_
        have hP : va_P D vwCl [(m0, .inr (6, [.ref m1, .int st, .ref m2, .int len, .ref m3, .int th, .int wo, .ref m4, .int rd, .int nu, .int du, .ref m5, .long hs])), (m1, .inl (kA 0, 148, .inl zj)), (m2, .inl (kA 0, 888, .inl h)), (m3, .inl (kA 0, 60, .inl tx)), (m4, .inl (kA 0, 72, .inl pt)), (m5, .inl (kA 0, 148, .inl kp))] _ := hP.sub [0, 1, 2, 3, 4, 5] rfl
        exact end_fi hx hb hrt hlk hP hS (by rw [hE, hsm]; exact sub_add _ _) (fun hq => by rw [hE]; exact hq) dX6_goes_55
      · skip
        replace c_3 := bI_n0 c_3
        have cf : f = true := c_3
        refine lv_aload_n hx hb dX6_goes_24 rfl (lv_at hl 0 rfl) ?_
        refine lv_iload_n hx hb dX6_goes_25 rfl (lv_at hl 1 rfl) ?_
        refine lv_iconst (v := 1) hx hb dX6_goes_26 (by decide) ?_
        refine cs_p (runV (As := [.int (nI a), .int 1]) (rest := []) ⟨hx, hb, hml, hown, hts⟩ (m_X6_of l D kA m0 m1 m2 m3 m4 m5 zj h tx pt kp st len th wo rd nu du hs a 1 1 (rfl) (by omega) (ha)) q_833 q_835 qp_23 q_7 q_836 hd_X6_of ⟨rfl, rfl⟩ ⟨Nat.le_of_ble_eq_true rfl, Nat.le_of_ble_eq_true rfl⟩ hK (ws := [(m0, .inr (6, [.ref m1, .int st, .ref m2, .int len, .ref m3, .int th, .int wo, .ref m4, .int rd, .int nu, .int du, .ref m5, .long hs])), (m1, .inl (kA 0, 148, .inl zj)), (m2, .inl (kA 0, 888, .inl h)), (m3, .inl (kA 0, 60, .inl tx)), (m4, .inl (kA 0, 72, .inl pt)), (m5, .inl (kA 0, 148, .inl kp))]) (hP.sub [0, 1, 2, 3, 4, 5] rfl) (hD.sub [0, 1, 2, 3, 4, 5] (by decide) rfl) 0 (ci := 6) (C := RX6) (T := TX6) (N := 13) rfl rfl rfl hl.1 rfl (Nat.le_of_ble_eq_true rfl) dX6_goes_27 ⟨Nat.zero_le _, Nat.zero_le _⟩) ?_
        refine lv_iload_n hx hb dX6_goes_30 rfl (lv_at hl 2 rfl) ?_
        refine lv_icmp_eq (tgt := 46) hx hb dX6_goes_31 (by decide) (fun c_4 => ?_) (fun c_4 => ?_)
        · exact absurd c_4 (dN_ne (hc cf).1 hp (hc cf).2 htg (hd cf))
        · skip
          refine lv_aload_n hx hb dX6_goes_34 rfl (lv_at hl 0 rfl) ?_
          refine lv_iload_n hx hb dX6_goes_35 rfl (lv_at hl 1 rfl) ?_
          refine lv_iload hx hb dX6_goes_36 (lv_at hl 4 rfl) ?_
          refine cs_fs (runV (As := [.int (nI a), .int (bI (guF z a p1 wo))]) (rest := []) ⟨hx, hb, hml, hown, hts⟩ (m_X6_steps l D kA m0 m1 m2 m3 m4 m5 zj h tx pt kp st len th wo rd nu du hs a (guF z a p1 wo) (hIj) (ha)) q_878 q_880 qp_30 q_7 q_881 hd_X6_steps ⟨rfl, rfl⟩ ⟨Nat.le_of_ble_eq_true rfl, Nat.le_of_ble_eq_true rfl⟩ hK (ws := [(m0, .inr (6, [.ref m1, .int st, .ref m2, .int len, .ref m3, .int th, .int wo, .ref m4, .int rd, .int nu, .int du, .ref m5, .long hs])), (m1, .inl (kA 0, 148, .inl zj)), (m2, .inl (kA 0, 888, .inl h)), (m3, .inl (kA 0, 60, .inl tx)), (m4, .inl (kA 0, 72, .inl pt)), (m5, .inl (kA 0, 148, .inl kp))]) (hP.sub [0, 1, 2, 3, 4, 5] rfl) (hD.sub [0, 1, 2, 3, 4, 5] (by decide) rfl) 0 (ci := 6) (C := RX6) (T := TX6) (N := 13) rfl rfl rfl hl.1 rfl (Nat.le_of_ble_eq_true rfl) dX6_goes_38 ⟨Nat.zero_le _, Nat.zero_le _⟩) hS (aw_sub hD (isC := [0, 1, 2, 3, 4, 5]) rfl) (fun H locs hP1 hk1 hS => ?_)
          obtain ⟨hP, hD⟩ := jn (wr := []) (w1 := [(m0, .inr (6, [.ref m1, .int st, .ref m2, .int len, .ref m3, .int th, .int wo, .ref m4, .int rd, .int nu, .int du, .ref m5, .long hs])), (m1, .inl (kA 0, 148, .inl (stZ zj a (guF z a p1 wo)))), (m2, .inl (kA 0, 888, .inl h)), (m3, .inl (kA 0, 60, .inl tx)), (m4, .inl (kA 0, 72, .inl pt)), (m5, .inl (kA 0, 148, .inl kp))]) hP hD [0, 1, 2, 3, 4, 5] [] rfl rfl (by decide) hk1 hP1 rfl
          have hP : va_P D vwCl [(m0, .inr (6, [.ref m1, .int st, .ref m2, .int len, .ref m3, .int th, .int wo, .ref m4, .int rd, .int nu, .int du, .ref m5, .long hs])), (m1, .inl (kA 0, 148, .inl (stZ zj a (guF z a p1 wo)))), (m2, .inl (kA 0, 888, .inl h)), (m3, .inl (kA 0, 60, .inl tx)), (m4, .inl (kA 0, 72, .inl pt)), (m5, .inl (kA 0, 148, .inl kp))] H := hP
          have hD : va_D (Aw [(m0, .inr (6, [.ref m1, .int st, .ref m2, .int len, .ref m3, .int th, .int wo, .ref m4, .int rd, .int nu, .int du, .ref m5, .long hs])), (m1, .inl (kA 0, 148, .inl z)), (m2, .inl (kA 0, 888, .inl h)), (m3, .inl (kA 0, 60, .inl tx)), (m4, .inl (kA 0, 72, .inl pt)), (m5, .inl (kA 0, 148, .inl kp))]) [(m0, .inr (6, [.ref m1, .int st, .ref m2, .int len, .ref m3, .int th, .int wo, .ref m4, .int rd, .int nu, .int du, .ref m5, .long hs])), (m1, .inl (kA 0, 148, .inl (stZ zj a (guF z a p1 wo)))), (m2, .inl (kA 0, 888, .inl h)), (m3, .inl (kA 0, 60, .inl tx)), (m4, .inl (kA 0, 72, .inl pt)), (m5, .inl (kA 0, 148, .inl kp))] := hD
          refine lv_istore (lv' := [(5, .int (bI (canF zj a (wI (guF z a p1 wo))))), (0, .ref m0), (1, .int (nI a)), (2, .int p1), (3, .int (sl z a 8)), (4, .int (bI (guF z a p1 wo)))]) hx hb dX6_goes_41 hl (by decide) rfl (fun ls hl => ?_)
          refine lv_goto (tgt := 19) hx hb dX6_goes_43 (by decide) ?_
          exact ih19 (cN cq (guF z a p1 wo)) (kf - 1) (canF zj a (wI (guF z a p1 wo))) (sm + stT zj a (guF z a p1 wo)) (stZ zj a (guF z a p1 wo)) (Inv_Z hIj ha _) (fun q => ⟨st_1 (hc cf).1 (hc cf).2 q, cN_lt⟩) (fun q => dN_s (hc cf).2 htg (hd cf)) (by omega) (st_8 hsm) (gt_s hIj ha (by omega) (dN_ne (hc cf).1 hp (hc cf).2 htg (hd cf)) (by rw [if_pos cf] at hres; exact hres)) _ _ (hP.sub [0, 1, 2, 3, 4, 5] rfl) (hD.sub [0, 1, 2, 3, 4, 5] (by decide) rfl) hS ls (lv_sub hl [1, 2, 3, 4, 5, 0] rfl)
  exact loop_19 (dN (sl z a 1).toNatClampNeg tg (guF z a p1 wo)) ((sl z a 1).toNatClampNeg) 24 true 0 z (hI) (fun _ => hI.p1 ha) (fun _ => rfl) (dN_lt) ((add0 _).symm) (by rw [if_pos rfl, ← wG hwo]; rfl) _ _ (hP.sub [0, 1, 2, 3, 4, 5] rfl) (hD.sub [0, 1, 2, 3, 4, 5] (by decide) rfl) hS ls (lv_sub hl [3, 4, 5, 2, 1, 0] rfl)

theorem hd_X6_homes : yX6_homes.cls ≠ "java/lang/invoke/MethodHandle" ∧ yX6_homes.cls ≠ "java/lang/invoke/VarHandle" ∧ (parseMethodDescriptor yX6_homes.desc).map (fun d => d.parameters.length) = some 1 := by decide +kernel
set_option maxRecDepth 100000 in
set_option maxHeartbeats 4000000 in
theorem m_X6_homes (l : Launch) (D : va_G) (kA : Nat → Nat) (m0 : Nat) (m1 : Nat) (m2 : Nat) (m3 : Nat) (m4 : Nat) (m5 : Nat) (z : Nat → Int32) (h : Nat → Int32) (tx : Nat → Int32) (pt : Nat → Int32) (kp : Nat → Int32) (st : Int32) (len : Int32) (th : Int32) (wo : Int32) (rd : Int32) (nu : Int32) (du : Int32) (hs : Int64) (a : Nat) (hI : Inv z) (ha : a < 4) : Met l yX6_homes (Cond.code yX6_homes cX6_homes 3 (some .int) :: AW) ({ frames := 4, cells := 0, slots := 0, locals := 94 } : Room) (Pz [.ref m0, .int (nI a)] D (TY kA) [(m0, .inr (6, [.ref m1, .int st, .ref m2, .int len, .ref m3, .int th, .int wo, .ref m4, .int rd, .int nu, .int du, .ref m5, .long hs])), (m1, .inl (kA 0, 148, .inl z)), (m2, .inl (kA 0, 888, .inl h)), (m3, .inl (kA 0, 60, .inl tx)), (m4, .inl (kA 0, 72, .inl pt)), (m5, .inl (kA 0, 148, .inl kp))]) (fQ (some (.int (hoR z a))) D [(m0, .inr (6, [.ref m1, .int st, .ref m2, .int len, .ref m3, .int th, .int wo, .ref m4, .int rd, .int nu, .int du, .ref m5, .long hs])), (m1, .inl (kA 0, 148, .inl z)), (m2, .inl (kA 0, 888, .inl h)), (m3, .inl (kA 0, 60, .inl tx)), (m4, .inl (kA 0, 72, .inl pt)), (m5, .inl (kA 0, 148, .inl kp))] [(m0, .inr (6, [.ref m1, .int st, .ref m2, .int len, .ref m3, .int th, .int wo, .ref m4, .int rd, .int nu, .int du, .ref m5, .long hs])), (m1, .inl (kA 0, 148, .inl (hoZ z a))), (m2, .inl (kA 0, 888, .inl h)), (m3, .inl (kA 0, 60, .inl tx)), (m4, .inl (kA 0, 72, .inl pt)), (m5, .inl (kA 0, 148, .inl kp))]) 0 0 (Aw [(m0, .inr (6, [.ref m1, .int st, .ref m2, .int len, .ref m3, .int th, .int wo, .ref m4, .int rd, .int nu, .int du, .ref m5, .long hs])), (m1, .inl (kA 0, 148, .inl z)), (m2, .inl (kA 0, 888, .inl h)), (m3, .inl (kA 0, 60, .inl tx)), (m4, .inl (kA 0, 72, .inl pt)), (m5, .inl (kA 0, 148, .inl kp))]) := by
  refine MetZ (by decide +kernel) (Nat.le_of_ble_eq_true rfl) ?_
  intro p e s m below meth c ls hx hb hrt hts hown hml hlk hnm hP hK hD hS hl
  have hl : lv_has ls 3 [(0, .ref m0), (1, .int (nI a))] := hl
  refine lv_iconst (v := 0) hx hb dX6_homes_0 (by decide) ?_
  refine lv_istore_n (lv' := [(2, .int 0), (0, .ref m0), (1, .int (nI a))]) hx hb dX6_homes_1 rfl hl (by decide) rfl (fun ls hl => ?_)
  have loop_2 : ∀ (n : Nat) (j : Nat) (zj : Nat → Int32) (x2 : Int32) (hj : j + n = 40) (e2 : x2 = nI j) (hIj : Inv zj) (hsm : sl zj a 6 = sl z a 6 + x2) (hres : hzL a n zj = hzL a 40 z), ∀ (H : Heap) (locs : List Loc), va_P D vwCl [(m0, .inr (6, [.ref m1, .int st, .ref m2, .int len, .ref m3, .int th, .int wo, .ref m4, .int rd, .int nu, .int du, .ref m5, .long hs])), (m1, .inl (kA 0, 148, .inl zj)), (m2, .inl (kA 0, 888, .inl h)), (m3, .inl (kA 0, 60, .inl tx)), (m4, .inl (kA 0, 72, .inl pt)), (m5, .inl (kA 0, 148, .inl kp))] H → va_D (Aw [(m0, .inr (6, [.ref m1, .int st, .ref m2, .int len, .ref m3, .int th, .int wo, .ref m4, .int rd, .int nu, .int du, .ref m5, .long hs])), (m1, .inl (kA 0, 148, .inl z)), (m2, .inl (kA 0, 888, .inl h)), (m3, .inl (kA 0, 60, .inl tx)), (m4, .inl (kA 0, 72, .inl pt)), (m5, .inl (kA 0, 148, .inl kp))]) [(m0, .inr (6, [.ref m1, .int st, .ref m2, .int len, .ref m3, .int th, .int wo, .ref m4, .int rd, .int nu, .int du, .ref m5, .long hs])), (m1, .inl (kA 0, 148, .inl zj)), (m2, .inl (kA 0, 888, .inl h)), (m3, .inl (kA 0, 60, .inl tx)), (m4, .inl (kA 0, 72, .inl pt)), (m5, .inl (kA 0, 148, .inl kp))] → va_S (Aw [(m0, .inr (6, [.ref m1, .int st, .ref m2, .int len, .ref m3, .int th, .int wo, .ref m4, .int rd, .int nu, .int du, .ref m5, .long hs])), (m1, .inl (kA 0, 148, .inl z)), (m2, .inl (kA 0, 888, .inl h)), (m3, .inl (kA 0, 60, .inl tx)), (m4, .inl (kA 0, 72, .inl pt)), (m5, .inl (kA 0, 148, .inl kp))]) s.heap H locs → ∀ ls : Array Slot, lv_has ls 3 [(0, .ref m0), (1, .int (nI a)), (2, .int x2)] → W p l e ({ frames := 4, cells := 0, slots := 0, locals := 94 } : Room) s m [.ref m0, .int (nI a)].toArray below meth c H locs 0 0 (MQ below (fQ (some (.int (hoR z a))) D [(m0, .inr (6, [.ref m1, .int st, .ref m2, .int len, .ref m3, .int th, .int wo, .ref m4, .int rd, .int nu, .int du, .ref m5, .long hs])), (m1, .inl (kA 0, 148, .inl z)), (m2, .inl (kA 0, 888, .inl h)), (m3, .inl (kA 0, 60, .inl tx)), (m4, .inl (kA 0, 72, .inl pt)), (m5, .inl (kA 0, 148, .inl kp))] [(m0, .inr (6, [.ref m1, .int st, .ref m2, .int len, .ref m3, .int th, .int wo, .ref m4, .int rd, .int nu, .int du, .ref m5, .long hs])), (m1, .inl (kA 0, 148, .inl (hoZ z a))), (m2, .inl (kA 0, 888, .inl h)), (m3, .inl (kA 0, 60, .inl tx)), (m4, .inl (kA 0, 72, .inl pt)), (m5, .inl (kA 0, 148, .inl kp))]) [.ref m0, .int (nI a)].toArray s 0 0 (Aw [(m0, .inr (6, [.ref m1, .int st, .ref m2, .int len, .ref m3, .int th, .int wo, .ref m4, .int rd, .int nu, .int du, .ref m5, .long hs])), (m1, .inl (kA 0, 148, .inl z)), (m2, .inl (kA 0, 888, .inl h)), (m3, .inl (kA 0, 60, .inl tx)), (m4, .inl (kA 0, 72, .inl pt)), (m5, .inl (kA 0, 148, .inl kp))])) (F0 m 2 ls []) := by
    clear hl
    clear hP hD hS
    intro n
    induction n with
    | zero =>
      intro j zj x2 hj e2 hIj hsm hres H locs hP hD hS ls hl
      refine lv_aload_n hx hb dX6_homes_2 rfl (lv_at hl 0 rfl) ?_
      refine lv_iload_n hx hb dX6_homes_3 rfl (lv_at hl 1 rfl) ?_
      refine lv_iconst (v := 0) hx hb dX6_homes_4 (by decide) ?_
      refine cs_p (runV (As := [.int (nI a), .int 0]) (rest := []) ⟨hx, hb, hml, hown, hts⟩ (m_X6_of l D kA m0 m1 m2 m3 m4 m5 zj h tx pt kp st len th wo rd nu du hs a 0 0 (rfl) (by omega) (ha)) q_833 q_835 qp_23 q_7 q_836 hd_X6_of ⟨rfl, rfl⟩ ⟨Nat.le_of_ble_eq_true rfl, Nat.le_of_ble_eq_true rfl⟩ hK (ws := [(m0, .inr (6, [.ref m1, .int st, .ref m2, .int len, .ref m3, .int th, .int wo, .ref m4, .int rd, .int nu, .int du, .ref m5, .long hs])), (m1, .inl (kA 0, 148, .inl zj)), (m2, .inl (kA 0, 888, .inl h)), (m3, .inl (kA 0, 60, .inl tx)), (m4, .inl (kA 0, 72, .inl pt)), (m5, .inl (kA 0, 148, .inl kp))]) (hP.sub [0, 1, 2, 3, 4, 5] rfl) (hD.sub [0, 1, 2, 3, 4, 5] (by decide) rfl) 0 (ci := 6) (C := RX6) (T := TX6) (N := 13) rfl rfl rfl hl.1 rfl (Nat.le_of_ble_eq_true rfl) dX6_homes_5 ⟨Nat.zero_le _, Nat.zero_le _⟩) ?_
      refine lv_if_eq (tgt := 32) hx hb dX6_homes_8 (by decide) (fun c_1 => ?_) (fun c_1 => ?_)
      · skip
        have hE : hzL a 40 z = zj := by rw [← hres]; rfl
        refine lv_aload_n hx hb dX6_homes_32 rfl (lv_at hl 0 rfl) ?_
        refine lv_iload_n hx hb dX6_homes_33 rfl (lv_at hl 1 rfl) ?_
        refine lv_iconst (v := 0) hx hb dX6_homes_34 (by decide) ?_
        refine cs_p (runV (As := [.int (nI a), .int 0]) (rest := []) ⟨hx, hb, hml, hown, hts⟩ (m_X6_of l D kA m0 m1 m2 m3 m4 m5 zj h tx pt kp st len th wo rd nu du hs a 0 0 (rfl) (by omega) (ha)) q_833 q_835 qp_23 q_7 q_836 hd_X6_of ⟨rfl, rfl⟩ ⟨Nat.le_of_ble_eq_true rfl, Nat.le_of_ble_eq_true rfl⟩ hK (ws := [(m0, .inr (6, [.ref m1, .int st, .ref m2, .int len, .ref m3, .int th, .int wo, .ref m4, .int rd, .int nu, .int du, .ref m5, .long hs])), (m1, .inl (kA 0, 148, .inl zj)), (m2, .inl (kA 0, 888, .inl h)), (m3, .inl (kA 0, 60, .inl tx)), (m4, .inl (kA 0, 72, .inl pt)), (m5, .inl (kA 0, 148, .inl kp))]) (hP.sub [0, 1, 2, 3, 4, 5] rfl) (hD.sub [0, 1, 2, 3, 4, 5] (by decide) rfl) 0 (ci := 6) (C := RX6) (T := TX6) (N := 13) rfl rfl rfl hl.1 rfl (Nat.le_of_ble_eq_true rfl) dX6_homes_35 ⟨Nat.zero_le _, Nat.zero_le _⟩) ?_
        refine lv_if_ne (tgt := 72) hx hb dX6_homes_38 (by decide) (fun c_2 => ?_) (fun c_2 => ?_)
        · exact absurd c_1 c_2
        · skip
          refine lv_aload_n hx hb dX6_homes_41 rfl (lv_at hl 0 rfl) ?_
          refine lv_iload_n hx hb dX6_homes_42 rfl (lv_at hl 1 rfl) ?_
          refine lv_iconst (v := 1) hx hb dX6_homes_43 (by decide) ?_
          refine lv_iconst (v := 0) hx hb dX6_homes_44 (by decide) ?_
          refine cs_fn (runV (As := [.int (nI a), .int 1, .int 0]) (rest := []) ⟨hx, hb, hml, hown, hts⟩ (m_X6_put l D kA m0 m1 m2 m3 m4 m5 zj h tx pt kp st len th wo rd nu du hs a 1 1 0 (rfl) (by omega) (ha)) q_837 q_839 qp_24 q_7 q_840 hd_X6_put ⟨rfl, rfl⟩ ⟨Nat.le_of_ble_eq_true rfl, Nat.le_of_ble_eq_true rfl⟩ hK (ws := [(m0, .inr (6, [.ref m1, .int st, .ref m2, .int len, .ref m3, .int th, .int wo, .ref m4, .int rd, .int nu, .int du, .ref m5, .long hs])), (m1, .inl (kA 0, 148, .inl zj)), (m2, .inl (kA 0, 888, .inl h)), (m3, .inl (kA 0, 60, .inl tx)), (m4, .inl (kA 0, 72, .inl pt)), (m5, .inl (kA 0, 148, .inl kp))]) (hP.sub [0, 1, 2, 3, 4, 5] rfl) (hD.sub [0, 1, 2, 3, 4, 5] (by decide) rfl) 0 (ci := 6) (C := RX6) (T := TX6) (N := 13) rfl rfl rfl hl.1 rfl (Nat.le_of_ble_eq_true rfl) dX6_homes_45 ⟨Nat.zero_le _, Nat.zero_le _⟩) hS (aw_sub hD (isC := [0, 1, 2, 3, 4, 5]) rfl) (fun H locs hP1 hk1 hS => ?_)
          obtain ⟨hP, hD⟩ := jn (wr := []) (w1 := [(m0, .inr (6, [.ref m1, .int st, .ref m2, .int len, .ref m3, .int th, .int wo, .ref m4, .int rd, .int nu, .int du, .ref m5, .long hs])), (m1, .inl (kA 0, 148, .inl (puZ zj a 1 0))), (m2, .inl (kA 0, 888, .inl h)), (m3, .inl (kA 0, 60, .inl tx)), (m4, .inl (kA 0, 72, .inl pt)), (m5, .inl (kA 0, 148, .inl kp))]) hP hD [0, 1, 2, 3, 4, 5] [] rfl rfl (by decide) hk1 hP1 rfl
          have hP : va_P D vwCl [(m0, .inr (6, [.ref m1, .int st, .ref m2, .int len, .ref m3, .int th, .int wo, .ref m4, .int rd, .int nu, .int du, .ref m5, .long hs])), (m1, .inl (kA 0, 148, .inl (puZ zj a 1 0))), (m2, .inl (kA 0, 888, .inl h)), (m3, .inl (kA 0, 60, .inl tx)), (m4, .inl (kA 0, 72, .inl pt)), (m5, .inl (kA 0, 148, .inl kp))] H := hP
          have hD : va_D (Aw [(m0, .inr (6, [.ref m1, .int st, .ref m2, .int len, .ref m3, .int th, .int wo, .ref m4, .int rd, .int nu, .int du, .ref m5, .long hs])), (m1, .inl (kA 0, 148, .inl z)), (m2, .inl (kA 0, 888, .inl h)), (m3, .inl (kA 0, 60, .inl tx)), (m4, .inl (kA 0, 72, .inl pt)), (m5, .inl (kA 0, 148, .inl kp))]) [(m0, .inr (6, [.ref m1, .int st, .ref m2, .int len, .ref m3, .int th, .int wo, .ref m4, .int rd, .int nu, .int du, .ref m5, .long hs])), (m1, .inl (kA 0, 148, .inl (puZ zj a 1 0))), (m2, .inl (kA 0, 888, .inl h)), (m3, .inl (kA 0, 60, .inl tx)), (m4, .inl (kA 0, 72, .inl pt)), (m5, .inl (kA 0, 148, .inl kp))] := hD
          refine lv_aload_n hx hb dX6_homes_48 rfl (lv_at hl 0 rfl) ?_
          refine lv_iload_n hx hb dX6_homes_49 rfl (lv_at hl 1 rfl) ?_
          refine lv_iconst (v := 4) hx hb dX6_homes_50 (by decide) ?_
          refine lv_iconst (v := 0) hx hb dX6_homes_51 (by decide) ?_
          refine cs_fn (runV (As := [.int (nI a), .int 4, .int 0]) (rest := []) ⟨hx, hb, hml, hown, hts⟩ (m_X6_put l D kA m0 m1 m2 m3 m4 m5 (puZ zj a 1 0) h tx pt kp st len th wo rd nu du hs a 4 4 0 (rfl) (by omega) (ha)) q_837 q_839 qp_24 q_7 q_840 hd_X6_put ⟨rfl, rfl⟩ ⟨Nat.le_of_ble_eq_true rfl, Nat.le_of_ble_eq_true rfl⟩ hK (ws := [(m0, .inr (6, [.ref m1, .int st, .ref m2, .int len, .ref m3, .int th, .int wo, .ref m4, .int rd, .int nu, .int du, .ref m5, .long hs])), (m1, .inl (kA 0, 148, .inl (puZ zj a 1 0))), (m2, .inl (kA 0, 888, .inl h)), (m3, .inl (kA 0, 60, .inl tx)), (m4, .inl (kA 0, 72, .inl pt)), (m5, .inl (kA 0, 148, .inl kp))]) (hP.sub [0, 1, 2, 3, 4, 5] rfl) (hD.sub [0, 1, 2, 3, 4, 5] (by decide) rfl) 0 (ci := 6) (C := RX6) (T := TX6) (N := 13) rfl rfl rfl hl.1 rfl (Nat.le_of_ble_eq_true rfl) dX6_homes_52 ⟨Nat.zero_le _, Nat.zero_le _⟩) hS (aw_sub hD (isC := [0, 1, 2, 3, 4, 5]) rfl) (fun H locs hP1 hk1 hS => ?_)
          obtain ⟨hP, hD⟩ := jn (wr := []) (w1 := [(m0, .inr (6, [.ref m1, .int st, .ref m2, .int len, .ref m3, .int th, .int wo, .ref m4, .int rd, .int nu, .int du, .ref m5, .long hs])), (m1, .inl (kA 0, 148, .inl (puZ (puZ zj a 1 0) a 4 0))), (m2, .inl (kA 0, 888, .inl h)), (m3, .inl (kA 0, 60, .inl tx)), (m4, .inl (kA 0, 72, .inl pt)), (m5, .inl (kA 0, 148, .inl kp))]) hP hD [0, 1, 2, 3, 4, 5] [] rfl rfl (by decide) hk1 hP1 rfl
          have hP : va_P D vwCl [(m0, .inr (6, [.ref m1, .int st, .ref m2, .int len, .ref m3, .int th, .int wo, .ref m4, .int rd, .int nu, .int du, .ref m5, .long hs])), (m1, .inl (kA 0, 148, .inl (puZ (puZ zj a 1 0) a 4 0))), (m2, .inl (kA 0, 888, .inl h)), (m3, .inl (kA 0, 60, .inl tx)), (m4, .inl (kA 0, 72, .inl pt)), (m5, .inl (kA 0, 148, .inl kp))] H := hP
          have hD : va_D (Aw [(m0, .inr (6, [.ref m1, .int st, .ref m2, .int len, .ref m3, .int th, .int wo, .ref m4, .int rd, .int nu, .int du, .ref m5, .long hs])), (m1, .inl (kA 0, 148, .inl z)), (m2, .inl (kA 0, 888, .inl h)), (m3, .inl (kA 0, 60, .inl tx)), (m4, .inl (kA 0, 72, .inl pt)), (m5, .inl (kA 0, 148, .inl kp))]) [(m0, .inr (6, [.ref m1, .int st, .ref m2, .int len, .ref m3, .int th, .int wo, .ref m4, .int rd, .int nu, .int du, .ref m5, .long hs])), (m1, .inl (kA 0, 148, .inl (puZ (puZ zj a 1 0) a 4 0))), (m2, .inl (kA 0, 888, .inl h)), (m3, .inl (kA 0, 60, .inl tx)), (m4, .inl (kA 0, 72, .inl pt)), (m5, .inl (kA 0, 148, .inl kp))] := hD
          refine lv_aload_n hx hb dX6_homes_55 rfl (lv_at hl 0 rfl) ?_
          refine lv_iload_n hx hb dX6_homes_56 rfl (lv_at hl 1 rfl) ?_
          refine lv_iconst (v := 3) hx hb dX6_homes_57 (by decide) ?_
          refine lv_iconst (v := 0) hx hb dX6_homes_58 (by decide) ?_
          refine cs_fn (runV (As := [.int (nI a), .int 3, .int 0]) (rest := []) ⟨hx, hb, hml, hown, hts⟩ (m_X6_put l D kA m0 m1 m2 m3 m4 m5 (puZ (puZ zj a 1 0) a 4 0) h tx pt kp st len th wo rd nu du hs a 3 3 0 (rfl) (by omega) (ha)) q_837 q_839 qp_24 q_7 q_840 hd_X6_put ⟨rfl, rfl⟩ ⟨Nat.le_of_ble_eq_true rfl, Nat.le_of_ble_eq_true rfl⟩ hK (ws := [(m0, .inr (6, [.ref m1, .int st, .ref m2, .int len, .ref m3, .int th, .int wo, .ref m4, .int rd, .int nu, .int du, .ref m5, .long hs])), (m1, .inl (kA 0, 148, .inl (puZ (puZ zj a 1 0) a 4 0))), (m2, .inl (kA 0, 888, .inl h)), (m3, .inl (kA 0, 60, .inl tx)), (m4, .inl (kA 0, 72, .inl pt)), (m5, .inl (kA 0, 148, .inl kp))]) (hP.sub [0, 1, 2, 3, 4, 5] rfl) (hD.sub [0, 1, 2, 3, 4, 5] (by decide) rfl) 0 (ci := 6) (C := RX6) (T := TX6) (N := 13) rfl rfl rfl hl.1 rfl (Nat.le_of_ble_eq_true rfl) dX6_homes_59 ⟨Nat.zero_le _, Nat.zero_le _⟩) hS (aw_sub hD (isC := [0, 1, 2, 3, 4, 5]) rfl) (fun H locs hP1 hk1 hS => ?_)
          obtain ⟨hP, hD⟩ := jn (wr := []) (w1 := [(m0, .inr (6, [.ref m1, .int st, .ref m2, .int len, .ref m3, .int th, .int wo, .ref m4, .int rd, .int nu, .int du, .ref m5, .long hs])), (m1, .inl (kA 0, 148, .inl (puZ (puZ (puZ zj a 1 0) a 4 0) a 3 0))), (m2, .inl (kA 0, 888, .inl h)), (m3, .inl (kA 0, 60, .inl tx)), (m4, .inl (kA 0, 72, .inl pt)), (m5, .inl (kA 0, 148, .inl kp))]) hP hD [0, 1, 2, 3, 4, 5] [] rfl rfl (by decide) hk1 hP1 rfl
          have hP : va_P D vwCl [(m0, .inr (6, [.ref m1, .int st, .ref m2, .int len, .ref m3, .int th, .int wo, .ref m4, .int rd, .int nu, .int du, .ref m5, .long hs])), (m1, .inl (kA 0, 148, .inl (puZ (puZ (puZ zj a 1 0) a 4 0) a 3 0))), (m2, .inl (kA 0, 888, .inl h)), (m3, .inl (kA 0, 60, .inl tx)), (m4, .inl (kA 0, 72, .inl pt)), (m5, .inl (kA 0, 148, .inl kp))] H := hP
          have hD : va_D (Aw [(m0, .inr (6, [.ref m1, .int st, .ref m2, .int len, .ref m3, .int th, .int wo, .ref m4, .int rd, .int nu, .int du, .ref m5, .long hs])), (m1, .inl (kA 0, 148, .inl z)), (m2, .inl (kA 0, 888, .inl h)), (m3, .inl (kA 0, 60, .inl tx)), (m4, .inl (kA 0, 72, .inl pt)), (m5, .inl (kA 0, 148, .inl kp))]) [(m0, .inr (6, [.ref m1, .int st, .ref m2, .int len, .ref m3, .int th, .int wo, .ref m4, .int rd, .int nu, .int du, .ref m5, .long hs])), (m1, .inl (kA 0, 148, .inl (puZ (puZ (puZ zj a 1 0) a 4 0) a 3 0))), (m2, .inl (kA 0, 888, .inl h)), (m3, .inl (kA 0, 60, .inl tx)), (m4, .inl (kA 0, 72, .inl pt)), (m5, .inl (kA 0, 148, .inl kp))] := hD
          refine lv_aload_n hx hb dX6_homes_62 rfl (lv_at hl 0 rfl) ?_
          refine lv_iload_n hx hb dX6_homes_63 rfl (lv_at hl 1 rfl) ?_
          refine lv_bipush (v := 10) hx hb dX6_homes_64 (by decide) ?_
          refine lv_iconst (v := 1) hx hb dX6_homes_66 (by decide) ?_
          refine cs_fn (runV (As := [.int (nI a), .int 10, .int 1]) (rest := []) ⟨hx, hb, hml, hown, hts⟩ (m_X6_add l D kA m0 m1 m2 m3 m4 m5 (puZ (puZ (puZ zj a 1 0) a 4 0) a 3 0) h tx pt kp st len th wo rd nu du hs a 10 10 1 (rfl) (by omega) (ha)) q_886 q_888 qp_32 q_7 q_889 hd_X6_add ⟨rfl, rfl⟩ ⟨Nat.le_of_ble_eq_true rfl, Nat.le_of_ble_eq_true rfl⟩ hK (ws := [(m0, .inr (6, [.ref m1, .int st, .ref m2, .int len, .ref m3, .int th, .int wo, .ref m4, .int rd, .int nu, .int du, .ref m5, .long hs])), (m1, .inl (kA 0, 148, .inl (puZ (puZ (puZ zj a 1 0) a 4 0) a 3 0))), (m2, .inl (kA 0, 888, .inl h)), (m3, .inl (kA 0, 60, .inl tx)), (m4, .inl (kA 0, 72, .inl pt)), (m5, .inl (kA 0, 148, .inl kp))]) (hP.sub [0, 1, 2, 3, 4, 5] rfl) (hD.sub [0, 1, 2, 3, 4, 5] (by decide) rfl) 0 (ci := 6) (C := RX6) (T := TX6) (N := 13) rfl rfl rfl hl.1 rfl (Nat.le_of_ble_eq_true rfl) dX6_homes_67 ⟨Nat.zero_le _, Nat.zero_le _⟩) hS (aw_sub hD (isC := [0, 1, 2, 3, 4, 5]) rfl) (fun H locs hP1 hk1 hS => ?_)
          obtain ⟨hP, hD⟩ := jn (wr := []) (w1 := [(m0, .inr (6, [.ref m1, .int st, .ref m2, .int len, .ref m3, .int th, .int wo, .ref m4, .int rd, .int nu, .int du, .ref m5, .long hs])), (m1, .inl (kA 0, 148, .inl (puZ (puZ (puZ (puZ zj a 1 0) a 4 0) a 3 0) a 10 (sl (puZ (puZ (puZ zj a 1 0) a 4 0) a 3 0) a 10 + 1)))), (m2, .inl (kA 0, 888, .inl h)), (m3, .inl (kA 0, 60, .inl tx)), (m4, .inl (kA 0, 72, .inl pt)), (m5, .inl (kA 0, 148, .inl kp))]) hP hD [0, 1, 2, 3, 4, 5] [] rfl rfl (by decide) hk1 hP1 rfl
          have hP : va_P D vwCl [(m0, .inr (6, [.ref m1, .int st, .ref m2, .int len, .ref m3, .int th, .int wo, .ref m4, .int rd, .int nu, .int du, .ref m5, .long hs])), (m1, .inl (kA 0, 148, .inl (puZ (puZ (puZ (puZ zj a 1 0) a 4 0) a 3 0) a 10 (sl (puZ (puZ (puZ zj a 1 0) a 4 0) a 3 0) a 10 + 1)))), (m2, .inl (kA 0, 888, .inl h)), (m3, .inl (kA 0, 60, .inl tx)), (m4, .inl (kA 0, 72, .inl pt)), (m5, .inl (kA 0, 148, .inl kp))] H := hP
          have hD : va_D (Aw [(m0, .inr (6, [.ref m1, .int st, .ref m2, .int len, .ref m3, .int th, .int wo, .ref m4, .int rd, .int nu, .int du, .ref m5, .long hs])), (m1, .inl (kA 0, 148, .inl z)), (m2, .inl (kA 0, 888, .inl h)), (m3, .inl (kA 0, 60, .inl tx)), (m4, .inl (kA 0, 72, .inl pt)), (m5, .inl (kA 0, 148, .inl kp))]) [(m0, .inr (6, [.ref m1, .int st, .ref m2, .int len, .ref m3, .int th, .int wo, .ref m4, .int rd, .int nu, .int du, .ref m5, .long hs])), (m1, .inl (kA 0, 148, .inl (puZ (puZ (puZ (puZ zj a 1 0) a 4 0) a 3 0) a 10 (sl (puZ (puZ (puZ zj a 1 0) a 4 0) a 3 0) a 10 + 1)))), (m2, .inl (kA 0, 888, .inl h)), (m3, .inl (kA 0, 60, .inl tx)), (m4, .inl (kA 0, 72, .inl pt)), (m5, .inl (kA 0, 148, .inl kp))] := hD
          refine lv_iload_n hx hb dX6_homes_70 rfl (lv_at hl 2 rfl) ?_
          have hP : va_P D vwCl [(m0, .inr (6, [.ref m1, .int st, .ref m2, .int len, .ref m3, .int th, .int wo, .ref m4, .int rd, .int nu, .int du, .ref m5, .long hs])), (m1, .inl (kA 0, 148, .inl (puZ (puZ (puZ (puZ zj a 1 0) a 4 0) a 3 0) a 10 (sl (puZ (puZ (puZ zj a 1 0) a 4 0) a 3 0) a 10 + 1)))), (m2, .inl (kA 0, 888, .inl h)), (m3, .inl (kA 0, 60, .inl tx)), (m4, .inl (kA 0, 72, .inl pt)), (m5, .inl (kA 0, 148, .inl kp))] _ := hP.sub [0, 1, 2, 3, 4, 5] rfl
          exact end_fi hx hb hrt hlk hP hS (by rw [hoR, hE, if_pos c_2, hsm]; exact (sub_add _ _).symm) (fun hq => by rw [hoZ, hE, if_pos c_2]; exact hq) dX6_homes_71
      · skip
        refine lv_iload_n hx hb dX6_homes_11 rfl (lv_at hl 2 rfl) ?_
        refine lv_bipush (v := 40) hx hb dX6_homes_12 (by decide) ?_
        refine lv_icmp_ge (tgt := 32) hx hb dX6_homes_14 (by decide) (fun c_3 => ?_) (fun c_3 => ?_)
        · skip
          replace c_3 := ge_n c_3
          have hE : hzL a 40 z = zj := by rw [← hres]; rfl
          refine lv_aload_n hx hb dX6_homes_32 rfl (lv_at hl 0 rfl) ?_
          refine lv_iload_n hx hb dX6_homes_33 rfl (lv_at hl 1 rfl) ?_
          refine lv_iconst (v := 0) hx hb dX6_homes_34 (by decide) ?_
          refine cs_p (runV (As := [.int (nI a), .int 0]) (rest := []) ⟨hx, hb, hml, hown, hts⟩ (m_X6_of l D kA m0 m1 m2 m3 m4 m5 zj h tx pt kp st len th wo rd nu du hs a 0 0 (rfl) (by omega) (ha)) q_833 q_835 qp_23 q_7 q_836 hd_X6_of ⟨rfl, rfl⟩ ⟨Nat.le_of_ble_eq_true rfl, Nat.le_of_ble_eq_true rfl⟩ hK (ws := [(m0, .inr (6, [.ref m1, .int st, .ref m2, .int len, .ref m3, .int th, .int wo, .ref m4, .int rd, .int nu, .int du, .ref m5, .long hs])), (m1, .inl (kA 0, 148, .inl zj)), (m2, .inl (kA 0, 888, .inl h)), (m3, .inl (kA 0, 60, .inl tx)), (m4, .inl (kA 0, 72, .inl pt)), (m5, .inl (kA 0, 148, .inl kp))]) (hP.sub [0, 1, 2, 3, 4, 5] rfl) (hD.sub [0, 1, 2, 3, 4, 5] (by decide) rfl) 0 (ci := 6) (C := RX6) (T := TX6) (N := 13) rfl rfl rfl hl.1 rfl (Nat.le_of_ble_eq_true rfl) dX6_homes_35 ⟨Nat.zero_le _, Nat.zero_le _⟩) ?_
          refine lv_if_ne (tgt := 72) hx hb dX6_homes_38 (by decide) (fun c_4 => ?_) (fun c_4 => ?_)
          · skip
            refine lv_iconst (v := (-1)) hx hb dX6_homes_72 (by decide) ?_
            have hP : va_P D vwCl [(m0, .inr (6, [.ref m1, .int st, .ref m2, .int len, .ref m3, .int th, .int wo, .ref m4, .int rd, .int nu, .int du, .ref m5, .long hs])), (m1, .inl (kA 0, 148, .inl zj)), (m2, .inl (kA 0, 888, .inl h)), (m3, .inl (kA 0, 60, .inl tx)), (m4, .inl (kA 0, 72, .inl pt)), (m5, .inl (kA 0, 148, .inl kp))] _ := hP.sub [0, 1, 2, 3, 4, 5] rfl
            exact end_fi hx hb hrt hlk hP hS (by rw [hoR, hE, if_neg c_4]) (fun hq => by rw [hoZ, hE, if_neg c_4]; exact hq) dX6_homes_73
          · exact absurd c_4 c_1
        · exact absurd c_3 (fun hh => hh (cnt_ge (N := 40) e2 rfl (by omega) (by omega)))
    | succ n ih2 =>
      intro j zj x2 hj e2 hIj hsm hres H locs hP hD hS ls hl
      refine lv_aload_n hx hb dX6_homes_2 rfl (lv_at hl 0 rfl) ?_
      refine lv_iload_n hx hb dX6_homes_3 rfl (lv_at hl 1 rfl) ?_
      refine lv_iconst (v := 0) hx hb dX6_homes_4 (by decide) ?_
      refine cs_p (runV (As := [.int (nI a), .int 0]) (rest := []) ⟨hx, hb, hml, hown, hts⟩ (m_X6_of l D kA m0 m1 m2 m3 m4 m5 zj h tx pt kp st len th wo rd nu du hs a 0 0 (rfl) (by omega) (ha)) q_833 q_835 qp_23 q_7 q_836 hd_X6_of ⟨rfl, rfl⟩ ⟨Nat.le_of_ble_eq_true rfl, Nat.le_of_ble_eq_true rfl⟩ hK (ws := [(m0, .inr (6, [.ref m1, .int st, .ref m2, .int len, .ref m3, .int th, .int wo, .ref m4, .int rd, .int nu, .int du, .ref m5, .long hs])), (m1, .inl (kA 0, 148, .inl zj)), (m2, .inl (kA 0, 888, .inl h)), (m3, .inl (kA 0, 60, .inl tx)), (m4, .inl (kA 0, 72, .inl pt)), (m5, .inl (kA 0, 148, .inl kp))]) (hP.sub [0, 1, 2, 3, 4, 5] rfl) (hD.sub [0, 1, 2, 3, 4, 5] (by decide) rfl) 0 (ci := 6) (C := RX6) (T := TX6) (N := 13) rfl rfl rfl hl.1 rfl (Nat.le_of_ble_eq_true rfl) dX6_homes_5 ⟨Nat.zero_le _, Nat.zero_le _⟩) ?_
      refine lv_if_eq (tgt := 32) hx hb dX6_homes_8 (by decide) (fun c_5 => ?_) (fun c_5 => ?_)
      · skip
        have hE : hzL a 40 z = zj := by rw [← hres, hzL, if_pos c_5]
        refine lv_aload_n hx hb dX6_homes_32 rfl (lv_at hl 0 rfl) ?_
        refine lv_iload_n hx hb dX6_homes_33 rfl (lv_at hl 1 rfl) ?_
        refine lv_iconst (v := 0) hx hb dX6_homes_34 (by decide) ?_
        refine cs_p (runV (As := [.int (nI a), .int 0]) (rest := []) ⟨hx, hb, hml, hown, hts⟩ (m_X6_of l D kA m0 m1 m2 m3 m4 m5 zj h tx pt kp st len th wo rd nu du hs a 0 0 (rfl) (by omega) (ha)) q_833 q_835 qp_23 q_7 q_836 hd_X6_of ⟨rfl, rfl⟩ ⟨Nat.le_of_ble_eq_true rfl, Nat.le_of_ble_eq_true rfl⟩ hK (ws := [(m0, .inr (6, [.ref m1, .int st, .ref m2, .int len, .ref m3, .int th, .int wo, .ref m4, .int rd, .int nu, .int du, .ref m5, .long hs])), (m1, .inl (kA 0, 148, .inl zj)), (m2, .inl (kA 0, 888, .inl h)), (m3, .inl (kA 0, 60, .inl tx)), (m4, .inl (kA 0, 72, .inl pt)), (m5, .inl (kA 0, 148, .inl kp))]) (hP.sub [0, 1, 2, 3, 4, 5] rfl) (hD.sub [0, 1, 2, 3, 4, 5] (by decide) rfl) 0 (ci := 6) (C := RX6) (T := TX6) (N := 13) rfl rfl rfl hl.1 rfl (Nat.le_of_ble_eq_true rfl) dX6_homes_35 ⟨Nat.zero_le _, Nat.zero_le _⟩) ?_
        refine lv_if_ne (tgt := 72) hx hb dX6_homes_38 (by decide) (fun c_6 => ?_) (fun c_6 => ?_)
        · exact absurd c_5 c_6
        · skip
          refine lv_aload_n hx hb dX6_homes_41 rfl (lv_at hl 0 rfl) ?_
          refine lv_iload_n hx hb dX6_homes_42 rfl (lv_at hl 1 rfl) ?_
          refine lv_iconst (v := 1) hx hb dX6_homes_43 (by decide) ?_
          refine lv_iconst (v := 0) hx hb dX6_homes_44 (by decide) ?_
          refine cs_fn (runV (As := [.int (nI a), .int 1, .int 0]) (rest := []) ⟨hx, hb, hml, hown, hts⟩ (m_X6_put l D kA m0 m1 m2 m3 m4 m5 zj h tx pt kp st len th wo rd nu du hs a 1 1 0 (rfl) (by omega) (ha)) q_837 q_839 qp_24 q_7 q_840 hd_X6_put ⟨rfl, rfl⟩ ⟨Nat.le_of_ble_eq_true rfl, Nat.le_of_ble_eq_true rfl⟩ hK (ws := [(m0, .inr (6, [.ref m1, .int st, .ref m2, .int len, .ref m3, .int th, .int wo, .ref m4, .int rd, .int nu, .int du, .ref m5, .long hs])), (m1, .inl (kA 0, 148, .inl zj)), (m2, .inl (kA 0, 888, .inl h)), (m3, .inl (kA 0, 60, .inl tx)), (m4, .inl (kA 0, 72, .inl pt)), (m5, .inl (kA 0, 148, .inl kp))]) (hP.sub [0, 1, 2, 3, 4, 5] rfl) (hD.sub [0, 1, 2, 3, 4, 5] (by decide) rfl) 0 (ci := 6) (C := RX6) (T := TX6) (N := 13) rfl rfl rfl hl.1 rfl (Nat.le_of_ble_eq_true rfl) dX6_homes_45 ⟨Nat.zero_le _, Nat.zero_le _⟩) hS (aw_sub hD (isC := [0, 1, 2, 3, 4, 5]) rfl) (fun H locs hP1 hk1 hS => ?_)
          obtain ⟨hP, hD⟩ := jn (wr := []) (w1 := [(m0, .inr (6, [.ref m1, .int st, .ref m2, .int len, .ref m3, .int th, .int wo, .ref m4, .int rd, .int nu, .int du, .ref m5, .long hs])), (m1, .inl (kA 0, 148, .inl (puZ zj a 1 0))), (m2, .inl (kA 0, 888, .inl h)), (m3, .inl (kA 0, 60, .inl tx)), (m4, .inl (kA 0, 72, .inl pt)), (m5, .inl (kA 0, 148, .inl kp))]) hP hD [0, 1, 2, 3, 4, 5] [] rfl rfl (by decide) hk1 hP1 rfl
          have hP : va_P D vwCl [(m0, .inr (6, [.ref m1, .int st, .ref m2, .int len, .ref m3, .int th, .int wo, .ref m4, .int rd, .int nu, .int du, .ref m5, .long hs])), (m1, .inl (kA 0, 148, .inl (puZ zj a 1 0))), (m2, .inl (kA 0, 888, .inl h)), (m3, .inl (kA 0, 60, .inl tx)), (m4, .inl (kA 0, 72, .inl pt)), (m5, .inl (kA 0, 148, .inl kp))] H := hP
          have hD : va_D (Aw [(m0, .inr (6, [.ref m1, .int st, .ref m2, .int len, .ref m3, .int th, .int wo, .ref m4, .int rd, .int nu, .int du, .ref m5, .long hs])), (m1, .inl (kA 0, 148, .inl z)), (m2, .inl (kA 0, 888, .inl h)), (m3, .inl (kA 0, 60, .inl tx)), (m4, .inl (kA 0, 72, .inl pt)), (m5, .inl (kA 0, 148, .inl kp))]) [(m0, .inr (6, [.ref m1, .int st, .ref m2, .int len, .ref m3, .int th, .int wo, .ref m4, .int rd, .int nu, .int du, .ref m5, .long hs])), (m1, .inl (kA 0, 148, .inl (puZ zj a 1 0))), (m2, .inl (kA 0, 888, .inl h)), (m3, .inl (kA 0, 60, .inl tx)), (m4, .inl (kA 0, 72, .inl pt)), (m5, .inl (kA 0, 148, .inl kp))] := hD
          refine lv_aload_n hx hb dX6_homes_48 rfl (lv_at hl 0 rfl) ?_
          refine lv_iload_n hx hb dX6_homes_49 rfl (lv_at hl 1 rfl) ?_
          refine lv_iconst (v := 4) hx hb dX6_homes_50 (by decide) ?_
          refine lv_iconst (v := 0) hx hb dX6_homes_51 (by decide) ?_
          refine cs_fn (runV (As := [.int (nI a), .int 4, .int 0]) (rest := []) ⟨hx, hb, hml, hown, hts⟩ (m_X6_put l D kA m0 m1 m2 m3 m4 m5 (puZ zj a 1 0) h tx pt kp st len th wo rd nu du hs a 4 4 0 (rfl) (by omega) (ha)) q_837 q_839 qp_24 q_7 q_840 hd_X6_put ⟨rfl, rfl⟩ ⟨Nat.le_of_ble_eq_true rfl, Nat.le_of_ble_eq_true rfl⟩ hK (ws := [(m0, .inr (6, [.ref m1, .int st, .ref m2, .int len, .ref m3, .int th, .int wo, .ref m4, .int rd, .int nu, .int du, .ref m5, .long hs])), (m1, .inl (kA 0, 148, .inl (puZ zj a 1 0))), (m2, .inl (kA 0, 888, .inl h)), (m3, .inl (kA 0, 60, .inl tx)), (m4, .inl (kA 0, 72, .inl pt)), (m5, .inl (kA 0, 148, .inl kp))]) (hP.sub [0, 1, 2, 3, 4, 5] rfl) (hD.sub [0, 1, 2, 3, 4, 5] (by decide) rfl) 0 (ci := 6) (C := RX6) (T := TX6) (N := 13) rfl rfl rfl hl.1 rfl (Nat.le_of_ble_eq_true rfl) dX6_homes_52 ⟨Nat.zero_le _, Nat.zero_le _⟩) hS (aw_sub hD (isC := [0, 1, 2, 3, 4, 5]) rfl) (fun H locs hP1 hk1 hS => ?_)
          obtain ⟨hP, hD⟩ := jn (wr := []) (w1 := [(m0, .inr (6, [.ref m1, .int st, .ref m2, .int len, .ref m3, .int th, .int wo, .ref m4, .int rd, .int nu, .int du, .ref m5, .long hs])), (m1, .inl (kA 0, 148, .inl (puZ (puZ zj a 1 0) a 4 0))), (m2, .inl (kA 0, 888, .inl h)), (m3, .inl (kA 0, 60, .inl tx)), (m4, .inl (kA 0, 72, .inl pt)), (m5, .inl (kA 0, 148, .inl kp))]) hP hD [0, 1, 2, 3, 4, 5] [] rfl rfl (by decide) hk1 hP1 rfl
          have hP : va_P D vwCl [(m0, .inr (6, [.ref m1, .int st, .ref m2, .int len, .ref m3, .int th, .int wo, .ref m4, .int rd, .int nu, .int du, .ref m5, .long hs])), (m1, .inl (kA 0, 148, .inl (puZ (puZ zj a 1 0) a 4 0))), (m2, .inl (kA 0, 888, .inl h)), (m3, .inl (kA 0, 60, .inl tx)), (m4, .inl (kA 0, 72, .inl pt)), (m5, .inl (kA 0, 148, .inl kp))] H := hP
          have hD : va_D (Aw [(m0, .inr (6, [.ref m1, .int st, .ref m2, .int len, .ref m3, .int th, .int wo, .ref m4, .int rd, .int nu, .int du, .ref m5, .long hs])), (m1, .inl (kA 0, 148, .inl z)), (m2, .inl (kA 0, 888, .inl h)), (m3, .inl (kA 0, 60, .inl tx)), (m4, .inl (kA 0, 72, .inl pt)), (m5, .inl (kA 0, 148, .inl kp))]) [(m0, .inr (6, [.ref m1, .int st, .ref m2, .int len, .ref m3, .int th, .int wo, .ref m4, .int rd, .int nu, .int du, .ref m5, .long hs])), (m1, .inl (kA 0, 148, .inl (puZ (puZ zj a 1 0) a 4 0))), (m2, .inl (kA 0, 888, .inl h)), (m3, .inl (kA 0, 60, .inl tx)), (m4, .inl (kA 0, 72, .inl pt)), (m5, .inl (kA 0, 148, .inl kp))] := hD
          refine lv_aload_n hx hb dX6_homes_55 rfl (lv_at hl 0 rfl) ?_
          refine lv_iload_n hx hb dX6_homes_56 rfl (lv_at hl 1 rfl) ?_
          refine lv_iconst (v := 3) hx hb dX6_homes_57 (by decide) ?_
          refine lv_iconst (v := 0) hx hb dX6_homes_58 (by decide) ?_
          refine cs_fn (runV (As := [.int (nI a), .int 3, .int 0]) (rest := []) ⟨hx, hb, hml, hown, hts⟩ (m_X6_put l D kA m0 m1 m2 m3 m4 m5 (puZ (puZ zj a 1 0) a 4 0) h tx pt kp st len th wo rd nu du hs a 3 3 0 (rfl) (by omega) (ha)) q_837 q_839 qp_24 q_7 q_840 hd_X6_put ⟨rfl, rfl⟩ ⟨Nat.le_of_ble_eq_true rfl, Nat.le_of_ble_eq_true rfl⟩ hK (ws := [(m0, .inr (6, [.ref m1, .int st, .ref m2, .int len, .ref m3, .int th, .int wo, .ref m4, .int rd, .int nu, .int du, .ref m5, .long hs])), (m1, .inl (kA 0, 148, .inl (puZ (puZ zj a 1 0) a 4 0))), (m2, .inl (kA 0, 888, .inl h)), (m3, .inl (kA 0, 60, .inl tx)), (m4, .inl (kA 0, 72, .inl pt)), (m5, .inl (kA 0, 148, .inl kp))]) (hP.sub [0, 1, 2, 3, 4, 5] rfl) (hD.sub [0, 1, 2, 3, 4, 5] (by decide) rfl) 0 (ci := 6) (C := RX6) (T := TX6) (N := 13) rfl rfl rfl hl.1 rfl (Nat.le_of_ble_eq_true rfl) dX6_homes_59 ⟨Nat.zero_le _, Nat.zero_le _⟩) hS (aw_sub hD (isC := [0, 1, 2, 3, 4, 5]) rfl) (fun H locs hP1 hk1 hS => ?_)
          obtain ⟨hP, hD⟩ := jn (wr := []) (w1 := [(m0, .inr (6, [.ref m1, .int st, .ref m2, .int len, .ref m3, .int th, .int wo, .ref m4, .int rd, .int nu, .int du, .ref m5, .long hs])), (m1, .inl (kA 0, 148, .inl (puZ (puZ (puZ zj a 1 0) a 4 0) a 3 0))), (m2, .inl (kA 0, 888, .inl h)), (m3, .inl (kA 0, 60, .inl tx)), (m4, .inl (kA 0, 72, .inl pt)), (m5, .inl (kA 0, 148, .inl kp))]) hP hD [0, 1, 2, 3, 4, 5] [] rfl rfl (by decide) hk1 hP1 rfl
          have hP : va_P D vwCl [(m0, .inr (6, [.ref m1, .int st, .ref m2, .int len, .ref m3, .int th, .int wo, .ref m4, .int rd, .int nu, .int du, .ref m5, .long hs])), (m1, .inl (kA 0, 148, .inl (puZ (puZ (puZ zj a 1 0) a 4 0) a 3 0))), (m2, .inl (kA 0, 888, .inl h)), (m3, .inl (kA 0, 60, .inl tx)), (m4, .inl (kA 0, 72, .inl pt)), (m5, .inl (kA 0, 148, .inl kp))] H := hP
          have hD : va_D (Aw [(m0, .inr (6, [.ref m1, .int st, .ref m2, .int len, .ref m3, .int th, .int wo, .ref m4, .int rd, .int nu, .int du, .ref m5, .long hs])), (m1, .inl (kA 0, 148, .inl z)), (m2, .inl (kA 0, 888, .inl h)), (m3, .inl (kA 0, 60, .inl tx)), (m4, .inl (kA 0, 72, .inl pt)), (m5, .inl (kA 0, 148, .inl kp))]) [(m0, .inr (6, [.ref m1, .int st, .ref m2, .int len, .ref m3, .int th, .int wo, .ref m4, .int rd, .int nu, .int du, .ref m5, .long hs])), (m1, .inl (kA 0, 148, .inl (puZ (puZ (puZ zj a 1 0) a 4 0) a 3 0))), (m2, .inl (kA 0, 888, .inl h)), (m3, .inl (kA 0, 60, .inl tx)), (m4, .inl (kA 0, 72, .inl pt)), (m5, .inl (kA 0, 148, .inl kp))] := hD
          refine lv_aload_n hx hb dX6_homes_62 rfl (lv_at hl 0 rfl) ?_
          refine lv_iload_n hx hb dX6_homes_63 rfl (lv_at hl 1 rfl) ?_
          refine lv_bipush (v := 10) hx hb dX6_homes_64 (by decide) ?_
          refine lv_iconst (v := 1) hx hb dX6_homes_66 (by decide) ?_
          refine cs_fn (runV (As := [.int (nI a), .int 10, .int 1]) (rest := []) ⟨hx, hb, hml, hown, hts⟩ (m_X6_add l D kA m0 m1 m2 m3 m4 m5 (puZ (puZ (puZ zj a 1 0) a 4 0) a 3 0) h tx pt kp st len th wo rd nu du hs a 10 10 1 (rfl) (by omega) (ha)) q_886 q_888 qp_32 q_7 q_889 hd_X6_add ⟨rfl, rfl⟩ ⟨Nat.le_of_ble_eq_true rfl, Nat.le_of_ble_eq_true rfl⟩ hK (ws := [(m0, .inr (6, [.ref m1, .int st, .ref m2, .int len, .ref m3, .int th, .int wo, .ref m4, .int rd, .int nu, .int du, .ref m5, .long hs])), (m1, .inl (kA 0, 148, .inl (puZ (puZ (puZ zj a 1 0) a 4 0) a 3 0))), (m2, .inl (kA 0, 888, .inl h)), (m3, .inl (kA 0, 60, .inl tx)), (m4, .inl (kA 0, 72, .inl pt)), (m5, .inl (kA 0, 148, .inl kp))]) (hP.sub [0, 1, 2, 3, 4, 5] rfl) (hD.sub [0, 1, 2, 3, 4, 5] (by decide) rfl) 0 (ci := 6) (C := RX6) (T := TX6) (N := 13) rfl rfl rfl hl.1 rfl (Nat.le_of_ble_eq_true rfl) dX6_homes_67 ⟨Nat.zero_le _, Nat.zero_le _⟩) hS (aw_sub hD (isC := [0, 1, 2, 3, 4, 5]) rfl) (fun H locs hP1 hk1 hS => ?_)
          obtain ⟨hP, hD⟩ := jn (wr := []) (w1 := [(m0, .inr (6, [.ref m1, .int st, .ref m2, .int len, .ref m3, .int th, .int wo, .ref m4, .int rd, .int nu, .int du, .ref m5, .long hs])), (m1, .inl (kA 0, 148, .inl (puZ (puZ (puZ (puZ zj a 1 0) a 4 0) a 3 0) a 10 (sl (puZ (puZ (puZ zj a 1 0) a 4 0) a 3 0) a 10 + 1)))), (m2, .inl (kA 0, 888, .inl h)), (m3, .inl (kA 0, 60, .inl tx)), (m4, .inl (kA 0, 72, .inl pt)), (m5, .inl (kA 0, 148, .inl kp))]) hP hD [0, 1, 2, 3, 4, 5] [] rfl rfl (by decide) hk1 hP1 rfl
          have hP : va_P D vwCl [(m0, .inr (6, [.ref m1, .int st, .ref m2, .int len, .ref m3, .int th, .int wo, .ref m4, .int rd, .int nu, .int du, .ref m5, .long hs])), (m1, .inl (kA 0, 148, .inl (puZ (puZ (puZ (puZ zj a 1 0) a 4 0) a 3 0) a 10 (sl (puZ (puZ (puZ zj a 1 0) a 4 0) a 3 0) a 10 + 1)))), (m2, .inl (kA 0, 888, .inl h)), (m3, .inl (kA 0, 60, .inl tx)), (m4, .inl (kA 0, 72, .inl pt)), (m5, .inl (kA 0, 148, .inl kp))] H := hP
          have hD : va_D (Aw [(m0, .inr (6, [.ref m1, .int st, .ref m2, .int len, .ref m3, .int th, .int wo, .ref m4, .int rd, .int nu, .int du, .ref m5, .long hs])), (m1, .inl (kA 0, 148, .inl z)), (m2, .inl (kA 0, 888, .inl h)), (m3, .inl (kA 0, 60, .inl tx)), (m4, .inl (kA 0, 72, .inl pt)), (m5, .inl (kA 0, 148, .inl kp))]) [(m0, .inr (6, [.ref m1, .int st, .ref m2, .int len, .ref m3, .int th, .int wo, .ref m4, .int rd, .int nu, .int du, .ref m5, .long hs])), (m1, .inl (kA 0, 148, .inl (puZ (puZ (puZ (puZ zj a 1 0) a 4 0) a 3 0) a 10 (sl (puZ (puZ (puZ zj a 1 0) a 4 0) a 3 0) a 10 + 1)))), (m2, .inl (kA 0, 888, .inl h)), (m3, .inl (kA 0, 60, .inl tx)), (m4, .inl (kA 0, 72, .inl pt)), (m5, .inl (kA 0, 148, .inl kp))] := hD
          refine lv_iload_n hx hb dX6_homes_70 rfl (lv_at hl 2 rfl) ?_
          have hP : va_P D vwCl [(m0, .inr (6, [.ref m1, .int st, .ref m2, .int len, .ref m3, .int th, .int wo, .ref m4, .int rd, .int nu, .int du, .ref m5, .long hs])), (m1, .inl (kA 0, 148, .inl (puZ (puZ (puZ (puZ zj a 1 0) a 4 0) a 3 0) a 10 (sl (puZ (puZ (puZ zj a 1 0) a 4 0) a 3 0) a 10 + 1)))), (m2, .inl (kA 0, 888, .inl h)), (m3, .inl (kA 0, 60, .inl tx)), (m4, .inl (kA 0, 72, .inl pt)), (m5, .inl (kA 0, 148, .inl kp))] _ := hP.sub [0, 1, 2, 3, 4, 5] rfl
          exact end_fi hx hb hrt hlk hP hS (by rw [hoR, hE, if_pos c_6, hsm]; exact (sub_add _ _).symm) (fun hq => by rw [hoZ, hE, if_pos c_6]; exact hq) dX6_homes_71
      · skip
        refine lv_iload_n hx hb dX6_homes_11 rfl (lv_at hl 2 rfl) ?_
        refine lv_bipush (v := 40) hx hb dX6_homes_12 (by decide) ?_
        refine lv_icmp_ge (tgt := 32) hx hb dX6_homes_14 (by decide) (fun c_7 => ?_) (fun c_7 => ?_)
        · exact absurd c_7 (cnt_nge (N := 40) e2 rfl (by omega) (by omega))
        · skip
          replace c_7 := nge_l c_7
          refine lv_aload_n hx hb dX6_homes_17 rfl (lv_at hl 0 rfl) ?_
          refine lv_iload_n hx hb dX6_homes_18 rfl (lv_at hl 1 rfl) ?_
          refine lv_iconst (v := 0) hx hb dX6_homes_19 (by decide) ?_
          refine cs_fs (runV (As := [.int (nI a), .int (bI false)]) (rest := []) ⟨hx, hb, hml, hown, hts⟩ (m_X6_steps l D kA m0 m1 m2 m3 m4 m5 zj h tx pt kp st len th wo rd nu du hs a false (hIj) (ha)) q_878 q_880 qp_30 q_7 q_881 hd_X6_steps ⟨rfl, rfl⟩ ⟨Nat.le_of_ble_eq_true rfl, Nat.le_of_ble_eq_true rfl⟩ hK (ws := [(m0, .inr (6, [.ref m1, .int st, .ref m2, .int len, .ref m3, .int th, .int wo, .ref m4, .int rd, .int nu, .int du, .ref m5, .long hs])), (m1, .inl (kA 0, 148, .inl zj)), (m2, .inl (kA 0, 888, .inl h)), (m3, .inl (kA 0, 60, .inl tx)), (m4, .inl (kA 0, 72, .inl pt)), (m5, .inl (kA 0, 148, .inl kp))]) (hP.sub [0, 1, 2, 3, 4, 5] rfl) (hD.sub [0, 1, 2, 3, 4, 5] (by decide) rfl) 0 (ci := 6) (C := RX6) (T := TX6) (N := 13) rfl rfl rfl hl.1 rfl (Nat.le_of_ble_eq_true rfl) dX6_homes_20 ⟨Nat.zero_le _, Nat.zero_le _⟩) hS (aw_sub hD (isC := [0, 1, 2, 3, 4, 5]) rfl) (fun H locs hP1 hk1 hS => ?_)
          obtain ⟨hP, hD⟩ := jn (wr := []) (w1 := [(m0, .inr (6, [.ref m1, .int st, .ref m2, .int len, .ref m3, .int th, .int wo, .ref m4, .int rd, .int nu, .int du, .ref m5, .long hs])), (m1, .inl (kA 0, 148, .inl (stZ zj a false))), (m2, .inl (kA 0, 888, .inl h)), (m3, .inl (kA 0, 60, .inl tx)), (m4, .inl (kA 0, 72, .inl pt)), (m5, .inl (kA 0, 148, .inl kp))]) hP hD [0, 1, 2, 3, 4, 5] [] rfl rfl (by decide) hk1 hP1 rfl
          have hP : va_P D vwCl [(m0, .inr (6, [.ref m1, .int st, .ref m2, .int len, .ref m3, .int th, .int wo, .ref m4, .int rd, .int nu, .int du, .ref m5, .long hs])), (m1, .inl (kA 0, 148, .inl (stZ zj a false))), (m2, .inl (kA 0, 888, .inl h)), (m3, .inl (kA 0, 60, .inl tx)), (m4, .inl (kA 0, 72, .inl pt)), (m5, .inl (kA 0, 148, .inl kp))] H := hP
          have hD : va_D (Aw [(m0, .inr (6, [.ref m1, .int st, .ref m2, .int len, .ref m3, .int th, .int wo, .ref m4, .int rd, .int nu, .int du, .ref m5, .long hs])), (m1, .inl (kA 0, 148, .inl z)), (m2, .inl (kA 0, 888, .inl h)), (m3, .inl (kA 0, 60, .inl tx)), (m4, .inl (kA 0, 72, .inl pt)), (m5, .inl (kA 0, 148, .inl kp))]) [(m0, .inr (6, [.ref m1, .int st, .ref m2, .int len, .ref m3, .int th, .int wo, .ref m4, .int rd, .int nu, .int du, .ref m5, .long hs])), (m1, .inl (kA 0, 148, .inl (stZ zj a false))), (m2, .inl (kA 0, 888, .inl h)), (m3, .inl (kA 0, 60, .inl tx)), (m4, .inl (kA 0, 72, .inl pt)), (m5, .inl (kA 0, 148, .inl kp))] := hD
          refine lv_if_eq (tgt := 32) hx hb dX6_homes_23 (by decide) (fun c_8 => ?_) (fun c_8 => ?_)
          · skip
            replace c_8 := bI_0.mp c_8
            have hP : va_P D vwCl [(m0, .inr (6, [.ref m1, .int st, .ref m2, .int len, .ref m3, .int th, .int wo, .ref m4, .int rd, .int nu, .int du, .ref m5, .long hs])), (m1, .inl (kA 0, 148, .inl zj)), (m2, .inl (kA 0, 888, .inl h)), (m3, .inl (kA 0, 60, .inl tx)), (m4, .inl (kA 0, 72, .inl pt)), (m5, .inl (kA 0, 148, .inl kp))] _ := Pcg (by rw [stZ_f c_8]) hP
            have hD : va_D (Aw [(m0, .inr (6, [.ref m1, .int st, .ref m2, .int len, .ref m3, .int th, .int wo, .ref m4, .int rd, .int nu, .int du, .ref m5, .long hs])), (m1, .inl (kA 0, 148, .inl z)), (m2, .inl (kA 0, 888, .inl h)), (m3, .inl (kA 0, 60, .inl tx)), (m4, .inl (kA 0, 72, .inl pt)), (m5, .inl (kA 0, 148, .inl kp))]) [(m0, .inr (6, [.ref m1, .int st, .ref m2, .int len, .ref m3, .int th, .int wo, .ref m4, .int rd, .int nu, .int du, .ref m5, .long hs])), (m1, .inl (kA 0, 148, .inl zj)), (m2, .inl (kA 0, 888, .inl h)), (m3, .inl (kA 0, 60, .inl tx)), (m4, .inl (kA 0, 72, .inl pt)), (m5, .inl (kA 0, 148, .inl kp))] := Dcg (by rw [stZ_f c_8]) hD
            have hE : hzL a 40 z = zj := by rw [← hres, hzL, if_neg c_5, if_neg (by rw [c_8]; decide)]
            refine lv_aload_n hx hb dX6_homes_32 rfl (lv_at hl 0 rfl) ?_
            refine lv_iload_n hx hb dX6_homes_33 rfl (lv_at hl 1 rfl) ?_
            refine lv_iconst (v := 0) hx hb dX6_homes_34 (by decide) ?_
            refine cs_p (runV (As := [.int (nI a), .int 0]) (rest := []) ⟨hx, hb, hml, hown, hts⟩ (m_X6_of l D kA m0 m1 m2 m3 m4 m5 zj h tx pt kp st len th wo rd nu du hs a 0 0 (rfl) (by omega) (ha)) q_833 q_835 qp_23 q_7 q_836 hd_X6_of ⟨rfl, rfl⟩ ⟨Nat.le_of_ble_eq_true rfl, Nat.le_of_ble_eq_true rfl⟩ hK (ws := [(m0, .inr (6, [.ref m1, .int st, .ref m2, .int len, .ref m3, .int th, .int wo, .ref m4, .int rd, .int nu, .int du, .ref m5, .long hs])), (m1, .inl (kA 0, 148, .inl zj)), (m2, .inl (kA 0, 888, .inl h)), (m3, .inl (kA 0, 60, .inl tx)), (m4, .inl (kA 0, 72, .inl pt)), (m5, .inl (kA 0, 148, .inl kp))]) (hP.sub [0, 1, 2, 3, 4, 5] rfl) (hD.sub [0, 1, 2, 3, 4, 5] (by decide) rfl) 0 (ci := 6) (C := RX6) (T := TX6) (N := 13) rfl rfl rfl hl.1 rfl (Nat.le_of_ble_eq_true rfl) dX6_homes_35 ⟨Nat.zero_le _, Nat.zero_le _⟩) ?_
            refine lv_if_ne (tgt := 72) hx hb dX6_homes_38 (by decide) (fun c_9 => ?_) (fun c_9 => ?_)
            · skip
              refine lv_iconst (v := (-1)) hx hb dX6_homes_72 (by decide) ?_
              have hP : va_P D vwCl [(m0, .inr (6, [.ref m1, .int st, .ref m2, .int len, .ref m3, .int th, .int wo, .ref m4, .int rd, .int nu, .int du, .ref m5, .long hs])), (m1, .inl (kA 0, 148, .inl zj)), (m2, .inl (kA 0, 888, .inl h)), (m3, .inl (kA 0, 60, .inl tx)), (m4, .inl (kA 0, 72, .inl pt)), (m5, .inl (kA 0, 148, .inl kp))] _ := hP.sub [0, 1, 2, 3, 4, 5] rfl
              exact end_fi hx hb hrt hlk hP hS (by rw [hoR, hE, if_neg c_9]) (fun hq => by rw [hoZ, hE, if_neg c_9]; exact hq) dX6_homes_73
            · exact absurd c_9 c_5
          · skip
            replace c_8 := bI_n0 c_8
            have hP : va_P D vwCl [(m0, .inr (6, [.ref m1, .int st, .ref m2, .int len, .ref m3, .int th, .int wo, .ref m4, .int rd, .int nu, .int du, .ref m5, .long hs])), (m1, .inl (kA 0, 148, .inl (zS zj a (wI false)))), (m2, .inl (kA 0, 888, .inl h)), (m3, .inl (kA 0, 60, .inl tx)), (m4, .inl (kA 0, 72, .inl pt)), (m5, .inl (kA 0, 148, .inl kp))] _ := Pcg (by rw [stZ_t c_8]) hP
            have hD : va_D (Aw [(m0, .inr (6, [.ref m1, .int st, .ref m2, .int len, .ref m3, .int th, .int wo, .ref m4, .int rd, .int nu, .int du, .ref m5, .long hs])), (m1, .inl (kA 0, 148, .inl z)), (m2, .inl (kA 0, 888, .inl h)), (m3, .inl (kA 0, 60, .inl tx)), (m4, .inl (kA 0, 72, .inl pt)), (m5, .inl (kA 0, 148, .inl kp))]) [(m0, .inr (6, [.ref m1, .int st, .ref m2, .int len, .ref m3, .int th, .int wo, .ref m4, .int rd, .int nu, .int du, .ref m5, .long hs])), (m1, .inl (kA 0, 148, .inl (zS zj a (wI false)))), (m2, .inl (kA 0, 888, .inl h)), (m3, .inl (kA 0, 60, .inl tx)), (m4, .inl (kA 0, 72, .inl pt)), (m5, .inl (kA 0, 148, .inl kp))] := Dcg (by rw [stZ_t c_8]) hD
            refine lv_iinc (v := x2 + 1) (lv' := [(2, .int (x2 + 1)), (0, .ref m0), (1, .int (nI a))]) hx hb dX6_homes_26 hl (k := 2) rfl (by first | rfl | exact congrArg (_ + ·) (by decide)) (by decide) rfl (fun ls hl => ?_)
            refine lv_goto (tgt := 2) hx hb dX6_homes_29 (by decide) ?_
            exact ih2 (j + 1) (zS zj a (wI false)) (x2 + 1) (by omega) (by rw [e2]; exact nI_1 j) (Inv_S hIj ha (canF_t.mp c_8)) (st_6 hsm c_8) (by rw [← hres, hzL, if_neg c_5, if_pos c_8]) _ _ (hP.sub [0, 1, 2, 3, 4, 5] rfl) (hD.sub [0, 1, 2, 3, 4, 5] (by decide) rfl) hS ls (lv_sub hl [1, 2, 0] rfl)
  exact loop_2 40 0 z 0 (by omega) (nI_0.symm) (hI) ((add0 _).symm) (rfl) _ _ (hP.sub [0, 1, 2, 3, 4, 5] rfl) (hD.sub [0, 1, 2, 3, 4, 5] (by decide) rfl) hS ls (lv_sub hl [1, 2, 0] rfl)

theorem hd_X6_save : yX6_save.cls ≠ "java/lang/invoke/MethodHandle" ∧ yX6_save.cls ≠ "java/lang/invoke/VarHandle" ∧ (parseMethodDescriptor yX6_save.desc).map (fun d => d.parameters.length) = some 0 := by decide +kernel
set_option maxRecDepth 100000 in
set_option maxHeartbeats 4000000 in
theorem m_X6_save (l : Launch) (D : va_G) (kA : Nat → Nat) (m0 : Nat) (m1 : Nat) (m2 : Nat) (m3 : Nat) (m4 : Nat) (m5 : Nat) (z : Nat → Int32) (h : Nat → Int32) (tx : Nat → Int32) (pt : Nat → Int32) (kp : Nat → Int32) (st : Int32) (len : Int32) (th : Int32) (wo : Int32) (rd : Int32) (nu : Int32) (du : Int32) (hs : Int64) (w : Nat) (hst : st = nI w) (hw : w ≤ 6) : Met l yX6_save (Cond.code yX6_save cX6_save 2 none :: AW) ({ frames := 0, cells := 0, slots := 0, locals := 0 } : Room) (Pz [.ref m0] D (TY kA) [(m0, .inr (6, [.ref m1, .int st, .ref m2, .int len, .ref m3, .int th, .int wo, .ref m4, .int rd, .int nu, .int du, .ref m5, .long hs])), (m1, .inl (kA 0, 148, .inl z)), (m2, .inl (kA 0, 888, .inl h)), (m3, .inl (kA 0, 60, .inl tx)), (m4, .inl (kA 0, 72, .inl pt)), (m5, .inl (kA 0, 148, .inl kp))]) (fQ none D [(m0, .inr (6, [.ref m1, .int st, .ref m2, .int len, .ref m3, .int th, .int wo, .ref m4, .int rd, .int nu, .int du, .ref m5, .long hs])), (m1, .inl (kA 0, 148, .inl z)), (m2, .inl (kA 0, 888, .inl h)), (m3, .inl (kA 0, 60, .inl tx)), (m4, .inl (kA 0, 72, .inl pt)), (m5, .inl (kA 0, 148, .inl kp))] [(m0, .inr (6, [.ref m1, .int (nI (svN w)), .ref m2, .int len, .ref m3, .int th, .int wo, .ref m4, .int rd, .int nu, .int du, .ref m5, .long hs])), (m1, .inl (kA 0, 148, .inl z)), (m2, .inl (kA 0, 888, .inl (svH h z w))), (m3, .inl (kA 0, 60, .inl tx)), (m4, .inl (kA 0, 72, .inl pt)), (m5, .inl (kA 0, 148, .inl kp))]) 0 0 (Aw [(m0, .inr (6, [.ref m1, .int st, .ref m2, .int len, .ref m3, .int th, .int wo, .ref m4, .int rd, .int nu, .int du, .ref m5, .long hs])), (m1, .inl (kA 0, 148, .inl z)), (m2, .inl (kA 0, 888, .inl h)), (m3, .inl (kA 0, 60, .inl tx)), (m4, .inl (kA 0, 72, .inl pt)), (m5, .inl (kA 0, 148, .inl kp))]) := by
  refine MetZ (by decide +kernel) (Nat.le_of_ble_eq_true rfl) ?_
  intro p e s m below meth c ls hx hb hrt hts hown hml hlk hnm hP hK hD hS hl
  have hl : lv_has ls 2 [(0, .ref m0)] := hl
  refine lv_aload_n hx hb dX6_save_0 rfl (lv_at hl 0 rfl) ?_
  refine va_get (ci := 6) (v := .int st) (C := RX6) (T := TX6) (N := 13) hx hb hts inX6 hown hK hP 0 rfl rfl 1 (by decide) (hts _ q_771) (fun _ h9 => h9) rfl dX6_save_1 ?_
  refine lv_bipush (v := 6) hx hb dX6_save_4 (by decide) ?_
  refine lv_icmp_ne (tgt := 52) hx hb dX6_save_6 (by decide) (fun c_1 => ?_) (fun c_1 => ?_)
  · skip
    have h6 := six_n hst hw c_1
    refine lv_iconst (v := 0) hx hb dX6_save_52 (by decide) ?_
    refine lv_istore_n (lv' := [(1, .int 0), (0, .ref m0)]) hx hb dX6_save_53 rfl hl (by decide) rfl (fun ls hl => ?_)
    have loop_54 : ∀ (n : Nat) (i : Nat) (hi : Nat → Int32) (y1 : Int32) (hin : i + n = 148) (f1 : y1 = nI i) (hhi : hi = hL2 h z w i), ∀ (H : Heap) (locs : List Loc), va_P D vwCl [(m0, .inr (6, [.ref m1, .int st, .ref m2, .int len, .ref m3, .int th, .int wo, .ref m4, .int rd, .int nu, .int du, .ref m5, .long hs])), (m1, .inl (kA 0, 148, .inl z)), (m2, .inl (kA 0, 888, .inl hi)), (m3, .inl (kA 0, 60, .inl tx)), (m4, .inl (kA 0, 72, .inl pt)), (m5, .inl (kA 0, 148, .inl kp))] H → va_D (Aw [(m0, .inr (6, [.ref m1, .int st, .ref m2, .int len, .ref m3, .int th, .int wo, .ref m4, .int rd, .int nu, .int du, .ref m5, .long hs])), (m1, .inl (kA 0, 148, .inl z)), (m2, .inl (kA 0, 888, .inl h)), (m3, .inl (kA 0, 60, .inl tx)), (m4, .inl (kA 0, 72, .inl pt)), (m5, .inl (kA 0, 148, .inl kp))]) [(m0, .inr (6, [.ref m1, .int st, .ref m2, .int len, .ref m3, .int th, .int wo, .ref m4, .int rd, .int nu, .int du, .ref m5, .long hs])), (m1, .inl (kA 0, 148, .inl z)), (m2, .inl (kA 0, 888, .inl hi)), (m3, .inl (kA 0, 60, .inl tx)), (m4, .inl (kA 0, 72, .inl pt)), (m5, .inl (kA 0, 148, .inl kp))] → va_S (Aw [(m0, .inr (6, [.ref m1, .int st, .ref m2, .int len, .ref m3, .int th, .int wo, .ref m4, .int rd, .int nu, .int du, .ref m5, .long hs])), (m1, .inl (kA 0, 148, .inl z)), (m2, .inl (kA 0, 888, .inl h)), (m3, .inl (kA 0, 60, .inl tx)), (m4, .inl (kA 0, 72, .inl pt)), (m5, .inl (kA 0, 148, .inl kp))]) s.heap H locs → ∀ ls : Array Slot, lv_has ls 2 [(0, .ref m0), (1, .int y1)] → W p l e ({ frames := 0, cells := 0, slots := 0, locals := 0 } : Room) s m [.ref m0].toArray below meth c H locs 0 0 (MQ below (fQ none D [(m0, .inr (6, [.ref m1, .int st, .ref m2, .int len, .ref m3, .int th, .int wo, .ref m4, .int rd, .int nu, .int du, .ref m5, .long hs])), (m1, .inl (kA 0, 148, .inl z)), (m2, .inl (kA 0, 888, .inl h)), (m3, .inl (kA 0, 60, .inl tx)), (m4, .inl (kA 0, 72, .inl pt)), (m5, .inl (kA 0, 148, .inl kp))] [(m0, .inr (6, [.ref m1, .int (nI (svN w)), .ref m2, .int len, .ref m3, .int th, .int wo, .ref m4, .int rd, .int nu, .int du, .ref m5, .long hs])), (m1, .inl (kA 0, 148, .inl z)), (m2, .inl (kA 0, 888, .inl (svH h z w))), (m3, .inl (kA 0, 60, .inl tx)), (m4, .inl (kA 0, 72, .inl pt)), (m5, .inl (kA 0, 148, .inl kp))]) [.ref m0].toArray s 0 0 (Aw [(m0, .inr (6, [.ref m1, .int st, .ref m2, .int len, .ref m3, .int th, .int wo, .ref m4, .int rd, .int nu, .int du, .ref m5, .long hs])), (m1, .inl (kA 0, 148, .inl z)), (m2, .inl (kA 0, 888, .inl h)), (m3, .inl (kA 0, 60, .inl tx)), (m4, .inl (kA 0, 72, .inl pt)), (m5, .inl (kA 0, 148, .inl kp))])) (F0 m 54 ls []) := by
      clear hl
      clear hP hD hS
      intro n
      induction n with
      | zero =>
        intro i hi y1 hin f1 hhi H locs hP hD hS ls hl
        refine lv_iload_n hx hb dX6_save_54 rfl (lv_at hl 1 rfl) ?_
        refine lv_sipush (v := 148) hx hb dX6_save_55 (by decide) ?_
        refine lv_icmp_ge (tgt := 88) hx hb dX6_save_58 (by decide) (fun c_2 => ?_) (fun c_2 => ?_)
        · skip
          replace c_2 := ge_n c_2
          refine lv_aload_n hx hb dX6_save_88 rfl (lv_at hl 0 rfl) ?_
          refine lv_dup hx hb dX6_save_89 rfl ?_
          refine va_get (ci := 6) (v := .int st) (C := RX6) (T := TX6) (N := 13) hx hb hts inX6 hown hK hP 0 rfl rfl 1 (by decide) (hts _ q_771) (fun _ h9 => h9) rfl dX6_save_90 ?_
          refine lv_iconst (v := 1) hx hb dX6_save_93 (by decide) ?_
          refine lv_iadd hx hb dX6_save_94 ?_
          refine va_put (ci := 6) (v := .int (st + 1)) (ty := tyX6 1) (C := RX6) (T := TX6) (N := 13) hx hb hts inX6 tyX6 tyX6_ok nmX6 hown hK hP hD hS 0 rfl rfl 1 (by decide) (hts _ q_771) (fun _ h9 => h9) rfl (tyX6_ok 1 (by decide)) rfl rfl (Nat.le_of_ble_eq_true rfl) dX6_save_95 (fun H locs hP hD hS => ?_)
          have hP : va_P D vwCl [(m0, .inr (6, [.ref m1, .int (st + 1), .ref m2, .int len, .ref m3, .int th, .int wo, .ref m4, .int rd, .int nu, .int du, .ref m5, .long hs])), (m1, .inl (kA 0, 148, .inl z)), (m2, .inl (kA 0, 888, .inl hi)), (m3, .inl (kA 0, 60, .inl tx)), (m4, .inl (kA 0, 72, .inl pt)), (m5, .inl (kA 0, 148, .inl kp))] H := hP
          have hD : va_D (Aw [(m0, .inr (6, [.ref m1, .int st, .ref m2, .int len, .ref m3, .int th, .int wo, .ref m4, .int rd, .int nu, .int du, .ref m5, .long hs])), (m1, .inl (kA 0, 148, .inl z)), (m2, .inl (kA 0, 888, .inl h)), (m3, .inl (kA 0, 60, .inl tx)), (m4, .inl (kA 0, 72, .inl pt)), (m5, .inl (kA 0, 148, .inl kp))]) [(m0, .inr (6, [.ref m1, .int (st + 1), .ref m2, .int len, .ref m3, .int th, .int wo, .ref m4, .int rd, .int nu, .int du, .ref m5, .long hs])), (m1, .inl (kA 0, 148, .inl z)), (m2, .inl (kA 0, 888, .inl hi)), (m3, .inl (kA 0, 60, .inl tx)), (m4, .inl (kA 0, 72, .inl pt)), (m5, .inl (kA 0, 148, .inl kp))] := hD
          have hP : va_P D vwCl [(m0, .inr (6, [.ref m1, .int (st + 1), .ref m2, .int len, .ref m3, .int th, .int wo, .ref m4, .int rd, .int nu, .int du, .ref m5, .long hs])), (m1, .inl (kA 0, 148, .inl z)), (m2, .inl (kA 0, 888, .inl hi)), (m3, .inl (kA 0, 60, .inl tx)), (m4, .inl (kA 0, 72, .inl pt)), (m5, .inl (kA 0, 148, .inl kp))] _ := hP.sub [0, 1, 2, 3, 4, 5] rfl
          exact end_fv hx hb hrt hlk hP hS (fun hq => by rw [show nI (svN w) = st + 1 by rw [hst, svN, if_neg h6]; exact (nI_1 w).symm, show svH h z w = hi by rw [svH, if_neg h6, hhi, show i = 148 by omega]]; exact hq) dX6_save_98
        · exact absurd c_2 (fun q => q (cnt_ge (N := 148) f1 rfl (by omega) (by omega)))
      | succ n ih54 =>
        intro i hi y1 hin f1 hhi H locs hP hD hS ls hl
        refine lv_iload_n hx hb dX6_save_54 rfl (lv_at hl 1 rfl) ?_
        refine lv_sipush (v := 148) hx hb dX6_save_55 (by decide) ?_
        refine lv_icmp_ge (tgt := 88) hx hb dX6_save_58 (by decide) (fun c_3 => ?_) (fun c_3 => ?_)
        · exact absurd c_3 (cnt_nge (N := 148) f1 rfl (by omega) (by omega))
        · skip
          replace c_3 := nge_l c_3
          refine lv_aload_n hx hb dX6_save_61 rfl (lv_at hl 0 rfl) ?_
          refine va_get (ci := 6) (v := .ref m2) (C := RX6) (T := TX6) (N := 13) hx hb hts inX6 hown hK hP 0 rfl rfl 2 (by decide) (hts _ q_772) (fun _ h9 => h9) rfl dX6_save_62 ?_
          refine lv_sipush (v := 148) hx hb dX6_save_65 (by decide) ?_
          refine lv_aload_n hx hb dX6_save_68 rfl (lv_at hl 0 rfl) ?_
          refine va_get (ci := 6) (v := .int st) (C := RX6) (T := TX6) (N := 13) hx hb hts inX6 hown hK hP 0 rfl rfl 1 (by decide) (hts _ q_771) (fun _ h9 => h9) rfl dX6_save_69 ?_
          refine lv_imul hx hb dX6_save_72 ?_
          refine lv_iload_n hx hb dX6_save_73 rfl (lv_at hl 1 rfl) ?_
          refine lv_iadd hx hb dX6_save_74 ?_
          refine lv_aload_n hx hb dX6_save_75 rfl (lv_at hl 0 rfl) ?_
          refine va_get (ci := 6) (v := .ref m1) (C := RX6) (T := TX6) (N := 13) hx hb hts inX6 hown hK hP 0 rfl rfl 0 (by decide) (hts _ q_770) (fun _ h9 => h9) rfl dX6_save_76 ?_
          refine lv_iload_n hx hb dX6_save_79 rfl (lv_at hl 1 rfl) ?_
          refine va_iald (f := z) hx hb hK hP 1 0 rfl rfl (in_nI f1 (by omega) (by decide)) dX6_save_80 ?_
          refine va_iast (f := hi) hx hb hK hP hD hS 2 0 rfl rfl (in_nI (ix148 hst f1) (by omega) (by decide)) dX6_save_81 (fun H locs hP hD hS => ?_)
          have hP : va_P D vwCl [(m0, .inr (6, [.ref m1, .int st, .ref m2, .int len, .ref m3, .int th, .int wo, .ref m4, .int rd, .int nu, .int du, .ref m5, .long hs])), (m1, .inl (kA 0, 148, .inl z)), (m2, .inl (kA 0, 888, .inl (upd hi ((148 * st) + y1).toNatClampNeg (z y1.toNatClampNeg)))), (m3, .inl (kA 0, 60, .inl tx)), (m4, .inl (kA 0, 72, .inl pt)), (m5, .inl (kA 0, 148, .inl kp))] H := hP
          have hD : va_D (Aw [(m0, .inr (6, [.ref m1, .int st, .ref m2, .int len, .ref m3, .int th, .int wo, .ref m4, .int rd, .int nu, .int du, .ref m5, .long hs])), (m1, .inl (kA 0, 148, .inl z)), (m2, .inl (kA 0, 888, .inl h)), (m3, .inl (kA 0, 60, .inl tx)), (m4, .inl (kA 0, 72, .inl pt)), (m5, .inl (kA 0, 148, .inl kp))]) [(m0, .inr (6, [.ref m1, .int st, .ref m2, .int len, .ref m3, .int th, .int wo, .ref m4, .int rd, .int nu, .int du, .ref m5, .long hs])), (m1, .inl (kA 0, 148, .inl z)), (m2, .inl (kA 0, 888, .inl (upd hi ((148 * st) + y1).toNatClampNeg (z y1.toNatClampNeg)))), (m3, .inl (kA 0, 60, .inl tx)), (m4, .inl (kA 0, 72, .inl pt)), (m5, .inl (kA 0, 148, .inl kp))] := hD
          refine lv_iinc (v := y1 + 1) (lv' := [(1, .int (y1 + 1)), (0, .ref m0)]) hx hb dX6_save_82 hl (k := 1) rfl (by first | rfl | exact congrArg (_ + ·) (by decide)) (by decide) rfl (fun ls hl => ?_)
          refine lv_goto (tgt := 54) hx hb dX6_save_85 (by decide) ?_
          exact ih54 (i + 1) (upd hi ((148 * st) + y1).toNatClampNeg (z y1.toNatClampNeg)) (y1 + 1) (by omega) (by rw [f1]; exact nI_1 i) (by rw [clamp_j (ix148 hst f1) (by omega), clamp_j f1 (by omega)]; exact hL2_s hhi) _ _ (hP.sub [0, 1, 2, 3, 4, 5] rfl) (hD.sub [0, 1, 2, 3, 4, 5] (by decide) rfl) hS ls (lv_sub hl [1, 0] rfl)
    exact loop_54 148 0 h 0 (by omega) (nI_0.symm) (hL2_0) _ _ (hP.sub [0, 1, 2, 3, 4, 5] rfl) (hD.sub [0, 1, 2, 3, 4, 5] (by decide) rfl) hS ls (lv_sub hl [1, 0] rfl)
  · skip
    have h6 := six_y hst hw c_1
    refine lv_sipush (v := 148) hx hb dX6_save_9 (by decide) ?_
    refine lv_istore_n (lv' := [(1, .int 148), (0, .ref m0)]) hx hb dX6_save_12 rfl hl (by decide) rfl (fun ls hl => ?_)
    have loop_13 : ∀ (n : Nat) (j : Nat) (hj : Nat → Int32) (x1 : Int32) (hjn : j + n = 888) (h148 : 148 ≤ j) (e1 : x1 = nI j) (hh : hj = hL1 h j), ∀ (H : Heap) (locs : List Loc), va_P D vwCl [(m0, .inr (6, [.ref m1, .int st, .ref m2, .int len, .ref m3, .int th, .int wo, .ref m4, .int rd, .int nu, .int du, .ref m5, .long hs])), (m1, .inl (kA 0, 148, .inl z)), (m2, .inl (kA 0, 888, .inl hj)), (m3, .inl (kA 0, 60, .inl tx)), (m4, .inl (kA 0, 72, .inl pt)), (m5, .inl (kA 0, 148, .inl kp))] H → va_D (Aw [(m0, .inr (6, [.ref m1, .int st, .ref m2, .int len, .ref m3, .int th, .int wo, .ref m4, .int rd, .int nu, .int du, .ref m5, .long hs])), (m1, .inl (kA 0, 148, .inl z)), (m2, .inl (kA 0, 888, .inl h)), (m3, .inl (kA 0, 60, .inl tx)), (m4, .inl (kA 0, 72, .inl pt)), (m5, .inl (kA 0, 148, .inl kp))]) [(m0, .inr (6, [.ref m1, .int st, .ref m2, .int len, .ref m3, .int th, .int wo, .ref m4, .int rd, .int nu, .int du, .ref m5, .long hs])), (m1, .inl (kA 0, 148, .inl z)), (m2, .inl (kA 0, 888, .inl hj)), (m3, .inl (kA 0, 60, .inl tx)), (m4, .inl (kA 0, 72, .inl pt)), (m5, .inl (kA 0, 148, .inl kp))] → va_S (Aw [(m0, .inr (6, [.ref m1, .int st, .ref m2, .int len, .ref m3, .int th, .int wo, .ref m4, .int rd, .int nu, .int du, .ref m5, .long hs])), (m1, .inl (kA 0, 148, .inl z)), (m2, .inl (kA 0, 888, .inl h)), (m3, .inl (kA 0, 60, .inl tx)), (m4, .inl (kA 0, 72, .inl pt)), (m5, .inl (kA 0, 148, .inl kp))]) s.heap H locs → ∀ ls : Array Slot, lv_has ls 2 [(0, .ref m0), (1, .int x1)] → W p l e ({ frames := 0, cells := 0, slots := 0, locals := 0 } : Room) s m [.ref m0].toArray below meth c H locs 0 0 (MQ below (fQ none D [(m0, .inr (6, [.ref m1, .int st, .ref m2, .int len, .ref m3, .int th, .int wo, .ref m4, .int rd, .int nu, .int du, .ref m5, .long hs])), (m1, .inl (kA 0, 148, .inl z)), (m2, .inl (kA 0, 888, .inl h)), (m3, .inl (kA 0, 60, .inl tx)), (m4, .inl (kA 0, 72, .inl pt)), (m5, .inl (kA 0, 148, .inl kp))] [(m0, .inr (6, [.ref m1, .int (nI (svN w)), .ref m2, .int len, .ref m3, .int th, .int wo, .ref m4, .int rd, .int nu, .int du, .ref m5, .long hs])), (m1, .inl (kA 0, 148, .inl z)), (m2, .inl (kA 0, 888, .inl (svH h z w))), (m3, .inl (kA 0, 60, .inl tx)), (m4, .inl (kA 0, 72, .inl pt)), (m5, .inl (kA 0, 148, .inl kp))]) [.ref m0].toArray s 0 0 (Aw [(m0, .inr (6, [.ref m1, .int st, .ref m2, .int len, .ref m3, .int th, .int wo, .ref m4, .int rd, .int nu, .int du, .ref m5, .long hs])), (m1, .inl (kA 0, 148, .inl z)), (m2, .inl (kA 0, 888, .inl h)), (m3, .inl (kA 0, 60, .inl tx)), (m4, .inl (kA 0, 72, .inl pt)), (m5, .inl (kA 0, 148, .inl kp))])) (F0 m 13 ls []) := by
      clear hl
      clear hP hD hS
      intro n
      induction n with
      | zero =>
        intro j hj x1 hjn h148 e1 hh H locs hP hD hS ls hl
        refine lv_iload_n hx hb dX6_save_13 rfl (lv_at hl 1 rfl) ?_
        refine lv_sipush (v := 888) hx hb dX6_save_14 (by decide) ?_
        refine lv_icmp_ge (tgt := 42) hx hb dX6_save_17 (by decide) (fun c_4 => ?_) (fun c_4 => ?_)
        · skip
          replace c_4 := ge_n c_4
          have est : st - 1 = nI 5 := by rw [hst, h6]; rfl
          refine lv_aload_n hx hb dX6_save_42 rfl (lv_at hl 0 rfl) ?_
          refine lv_dup hx hb dX6_save_43 rfl ?_
          refine va_get (ci := 6) (v := .int st) (C := RX6) (T := TX6) (N := 13) hx hb hts inX6 hown hK hP 0 rfl rfl 1 (by decide) (hts _ q_771) (fun _ h9 => h9) rfl dX6_save_44 ?_
          refine lv_iconst (v := 1) hx hb dX6_save_47 (by decide) ?_
          refine lv_isub hx hb dX6_save_48 ?_
          refine va_put (ci := 6) (v := .int (st - 1)) (ty := tyX6 1) (C := RX6) (T := TX6) (N := 13) hx hb hts inX6 tyX6 tyX6_ok nmX6 hown hK hP hD hS 0 rfl rfl 1 (by decide) (hts _ q_771) (fun _ h9 => h9) rfl (tyX6_ok 1 (by decide)) rfl rfl (Nat.le_of_ble_eq_true rfl) dX6_save_49 (fun H locs hP hD hS => ?_)
          have hP : va_P D vwCl [(m0, .inr (6, [.ref m1, .int (st - 1), .ref m2, .int len, .ref m3, .int th, .int wo, .ref m4, .int rd, .int nu, .int du, .ref m5, .long hs])), (m1, .inl (kA 0, 148, .inl z)), (m2, .inl (kA 0, 888, .inl hj)), (m3, .inl (kA 0, 60, .inl tx)), (m4, .inl (kA 0, 72, .inl pt)), (m5, .inl (kA 0, 148, .inl kp))] H := hP
          have hD : va_D (Aw [(m0, .inr (6, [.ref m1, .int st, .ref m2, .int len, .ref m3, .int th, .int wo, .ref m4, .int rd, .int nu, .int du, .ref m5, .long hs])), (m1, .inl (kA 0, 148, .inl z)), (m2, .inl (kA 0, 888, .inl h)), (m3, .inl (kA 0, 60, .inl tx)), (m4, .inl (kA 0, 72, .inl pt)), (m5, .inl (kA 0, 148, .inl kp))]) [(m0, .inr (6, [.ref m1, .int (st - 1), .ref m2, .int len, .ref m3, .int th, .int wo, .ref m4, .int rd, .int nu, .int du, .ref m5, .long hs])), (m1, .inl (kA 0, 148, .inl z)), (m2, .inl (kA 0, 888, .inl hj)), (m3, .inl (kA 0, 60, .inl tx)), (m4, .inl (kA 0, 72, .inl pt)), (m5, .inl (kA 0, 148, .inl kp))] := hD
          refine lv_iconst (v := 0) hx hb dX6_save_52 (by decide) ?_
          refine lv_istore_n (lv' := [(1, .int 0), (0, .ref m0)]) hx hb dX6_save_53 rfl hl (by decide) rfl (fun ls hl => ?_)
          have loop_54 : ∀ (n : Nat) (i : Nat) (hi : Nat → Int32) (y1 : Int32) (hin : i + n = 148) (f1 : y1 = nI i) (hhi : hi = hL2 hj z 5 i), ∀ (H : Heap) (locs : List Loc), va_P D vwCl [(m0, .inr (6, [.ref m1, .int (st - 1), .ref m2, .int len, .ref m3, .int th, .int wo, .ref m4, .int rd, .int nu, .int du, .ref m5, .long hs])), (m1, .inl (kA 0, 148, .inl z)), (m2, .inl (kA 0, 888, .inl hi)), (m3, .inl (kA 0, 60, .inl tx)), (m4, .inl (kA 0, 72, .inl pt)), (m5, .inl (kA 0, 148, .inl kp))] H → va_D (Aw [(m0, .inr (6, [.ref m1, .int st, .ref m2, .int len, .ref m3, .int th, .int wo, .ref m4, .int rd, .int nu, .int du, .ref m5, .long hs])), (m1, .inl (kA 0, 148, .inl z)), (m2, .inl (kA 0, 888, .inl h)), (m3, .inl (kA 0, 60, .inl tx)), (m4, .inl (kA 0, 72, .inl pt)), (m5, .inl (kA 0, 148, .inl kp))]) [(m0, .inr (6, [.ref m1, .int (st - 1), .ref m2, .int len, .ref m3, .int th, .int wo, .ref m4, .int rd, .int nu, .int du, .ref m5, .long hs])), (m1, .inl (kA 0, 148, .inl z)), (m2, .inl (kA 0, 888, .inl hi)), (m3, .inl (kA 0, 60, .inl tx)), (m4, .inl (kA 0, 72, .inl pt)), (m5, .inl (kA 0, 148, .inl kp))] → va_S (Aw [(m0, .inr (6, [.ref m1, .int st, .ref m2, .int len, .ref m3, .int th, .int wo, .ref m4, .int rd, .int nu, .int du, .ref m5, .long hs])), (m1, .inl (kA 0, 148, .inl z)), (m2, .inl (kA 0, 888, .inl h)), (m3, .inl (kA 0, 60, .inl tx)), (m4, .inl (kA 0, 72, .inl pt)), (m5, .inl (kA 0, 148, .inl kp))]) s.heap H locs → ∀ ls : Array Slot, lv_has ls 2 [(0, .ref m0), (1, .int y1)] → W p l e ({ frames := 0, cells := 0, slots := 0, locals := 0 } : Room) s m [.ref m0].toArray below meth c H locs 0 0 (MQ below (fQ none D [(m0, .inr (6, [.ref m1, .int st, .ref m2, .int len, .ref m3, .int th, .int wo, .ref m4, .int rd, .int nu, .int du, .ref m5, .long hs])), (m1, .inl (kA 0, 148, .inl z)), (m2, .inl (kA 0, 888, .inl h)), (m3, .inl (kA 0, 60, .inl tx)), (m4, .inl (kA 0, 72, .inl pt)), (m5, .inl (kA 0, 148, .inl kp))] [(m0, .inr (6, [.ref m1, .int (nI (svN w)), .ref m2, .int len, .ref m3, .int th, .int wo, .ref m4, .int rd, .int nu, .int du, .ref m5, .long hs])), (m1, .inl (kA 0, 148, .inl z)), (m2, .inl (kA 0, 888, .inl (svH h z w))), (m3, .inl (kA 0, 60, .inl tx)), (m4, .inl (kA 0, 72, .inl pt)), (m5, .inl (kA 0, 148, .inl kp))]) [.ref m0].toArray s 0 0 (Aw [(m0, .inr (6, [.ref m1, .int st, .ref m2, .int len, .ref m3, .int th, .int wo, .ref m4, .int rd, .int nu, .int du, .ref m5, .long hs])), (m1, .inl (kA 0, 148, .inl z)), (m2, .inl (kA 0, 888, .inl h)), (m3, .inl (kA 0, 60, .inl tx)), (m4, .inl (kA 0, 72, .inl pt)), (m5, .inl (kA 0, 148, .inl kp))])) (F0 m 54 ls []) := by
            clear hl
            clear hP hD hS
            intro n
            induction n with
            | zero =>
              intro i hi y1 hin f1 hhi H locs hP hD hS ls hl
              refine lv_iload_n hx hb dX6_save_54 rfl (lv_at hl 1 rfl) ?_
              refine lv_sipush (v := 148) hx hb dX6_save_55 (by decide) ?_
              refine lv_icmp_ge (tgt := 88) hx hb dX6_save_58 (by decide) (fun c_5 => ?_) (fun c_5 => ?_)
              · skip
                replace c_5 := ge_n c_5
                refine lv_aload_n hx hb dX6_save_88 rfl (lv_at hl 0 rfl) ?_
                refine lv_dup hx hb dX6_save_89 rfl ?_
                refine va_get (ci := 6) (v := .int (st - 1)) (C := RX6) (T := TX6) (N := 13) hx hb hts inX6 hown hK hP 0 rfl rfl 1 (by decide) (hts _ q_771) (fun _ h9 => h9) rfl dX6_save_90 ?_
                refine lv_iconst (v := 1) hx hb dX6_save_93 (by decide) ?_
                refine lv_iadd hx hb dX6_save_94 ?_
                refine va_put (ci := 6) (v := .int ((st - 1) + 1)) (ty := tyX6 1) (C := RX6) (T := TX6) (N := 13) hx hb hts inX6 tyX6 tyX6_ok nmX6 hown hK hP hD hS 0 rfl rfl 1 (by decide) (hts _ q_771) (fun _ h9 => h9) rfl (tyX6_ok 1 (by decide)) rfl rfl (Nat.le_of_ble_eq_true rfl) dX6_save_95 (fun H locs hP hD hS => ?_)
                have hP : va_P D vwCl [(m0, .inr (6, [.ref m1, .int ((st - 1) + 1), .ref m2, .int len, .ref m3, .int th, .int wo, .ref m4, .int rd, .int nu, .int du, .ref m5, .long hs])), (m1, .inl (kA 0, 148, .inl z)), (m2, .inl (kA 0, 888, .inl hi)), (m3, .inl (kA 0, 60, .inl tx)), (m4, .inl (kA 0, 72, .inl pt)), (m5, .inl (kA 0, 148, .inl kp))] H := hP
                have hD : va_D (Aw [(m0, .inr (6, [.ref m1, .int st, .ref m2, .int len, .ref m3, .int th, .int wo, .ref m4, .int rd, .int nu, .int du, .ref m5, .long hs])), (m1, .inl (kA 0, 148, .inl z)), (m2, .inl (kA 0, 888, .inl h)), (m3, .inl (kA 0, 60, .inl tx)), (m4, .inl (kA 0, 72, .inl pt)), (m5, .inl (kA 0, 148, .inl kp))]) [(m0, .inr (6, [.ref m1, .int ((st - 1) + 1), .ref m2, .int len, .ref m3, .int th, .int wo, .ref m4, .int rd, .int nu, .int du, .ref m5, .long hs])), (m1, .inl (kA 0, 148, .inl z)), (m2, .inl (kA 0, 888, .inl hi)), (m3, .inl (kA 0, 60, .inl tx)), (m4, .inl (kA 0, 72, .inl pt)), (m5, .inl (kA 0, 148, .inl kp))] := hD
                have hP : va_P D vwCl [(m0, .inr (6, [.ref m1, .int ((st - 1) + 1), .ref m2, .int len, .ref m3, .int th, .int wo, .ref m4, .int rd, .int nu, .int du, .ref m5, .long hs])), (m1, .inl (kA 0, 148, .inl z)), (m2, .inl (kA 0, 888, .inl hi)), (m3, .inl (kA 0, 60, .inl tx)), (m4, .inl (kA 0, 72, .inl pt)), (m5, .inl (kA 0, 148, .inl kp))] _ := hP.sub [0, 1, 2, 3, 4, 5] rfl
                exact end_fv hx hb hrt hlk hP hS (fun hq => by rw [show nI (svN w) = st - 1 + 1 by rw [est, svN, if_pos h6]; rfl, show svH h z w = hi by rw [svH, if_pos h6, hhi, hh, show j = 888 by omega, show i = 148 by omega]]; exact hq) dX6_save_98
              · exact absurd c_5 (fun q => q (cnt_ge (N := 148) f1 rfl (by omega) (by omega)))
            | succ n ih54 =>
              intro i hi y1 hin f1 hhi H locs hP hD hS ls hl
              refine lv_iload_n hx hb dX6_save_54 rfl (lv_at hl 1 rfl) ?_
              refine lv_sipush (v := 148) hx hb dX6_save_55 (by decide) ?_
              refine lv_icmp_ge (tgt := 88) hx hb dX6_save_58 (by decide) (fun c_6 => ?_) (fun c_6 => ?_)
              · exact absurd c_6 (cnt_nge (N := 148) f1 rfl (by omega) (by omega))
              · skip
                replace c_6 := nge_l c_6
                refine lv_aload_n hx hb dX6_save_61 rfl (lv_at hl 0 rfl) ?_
                refine va_get (ci := 6) (v := .ref m2) (C := RX6) (T := TX6) (N := 13) hx hb hts inX6 hown hK hP 0 rfl rfl 2 (by decide) (hts _ q_772) (fun _ h9 => h9) rfl dX6_save_62 ?_
                refine lv_sipush (v := 148) hx hb dX6_save_65 (by decide) ?_
                refine lv_aload_n hx hb dX6_save_68 rfl (lv_at hl 0 rfl) ?_
                refine va_get (ci := 6) (v := .int (st - 1)) (C := RX6) (T := TX6) (N := 13) hx hb hts inX6 hown hK hP 0 rfl rfl 1 (by decide) (hts _ q_771) (fun _ h9 => h9) rfl dX6_save_69 ?_
                refine lv_imul hx hb dX6_save_72 ?_
                refine lv_iload_n hx hb dX6_save_73 rfl (lv_at hl 1 rfl) ?_
                refine lv_iadd hx hb dX6_save_74 ?_
                refine lv_aload_n hx hb dX6_save_75 rfl (lv_at hl 0 rfl) ?_
                refine va_get (ci := 6) (v := .ref m1) (C := RX6) (T := TX6) (N := 13) hx hb hts inX6 hown hK hP 0 rfl rfl 0 (by decide) (hts _ q_770) (fun _ h9 => h9) rfl dX6_save_76 ?_
                refine lv_iload_n hx hb dX6_save_79 rfl (lv_at hl 1 rfl) ?_
                refine va_iald (f := z) hx hb hK hP 1 0 rfl rfl (in_nI f1 (by omega) (by decide)) dX6_save_80 ?_
                refine va_iast (f := hi) hx hb hK hP hD hS 2 0 rfl rfl (in_nI (ix148 est f1) (by omega) (by decide)) dX6_save_81 (fun H locs hP hD hS => ?_)
                have hP : va_P D vwCl [(m0, .inr (6, [.ref m1, .int (st - 1), .ref m2, .int len, .ref m3, .int th, .int wo, .ref m4, .int rd, .int nu, .int du, .ref m5, .long hs])), (m1, .inl (kA 0, 148, .inl z)), (m2, .inl (kA 0, 888, .inl (upd hi ((148 * (st - 1)) + y1).toNatClampNeg (z y1.toNatClampNeg)))), (m3, .inl (kA 0, 60, .inl tx)), (m4, .inl (kA 0, 72, .inl pt)), (m5, .inl (kA 0, 148, .inl kp))] H := hP
                have hD : va_D (Aw [(m0, .inr (6, [.ref m1, .int st, .ref m2, .int len, .ref m3, .int th, .int wo, .ref m4, .int rd, .int nu, .int du, .ref m5, .long hs])), (m1, .inl (kA 0, 148, .inl z)), (m2, .inl (kA 0, 888, .inl h)), (m3, .inl (kA 0, 60, .inl tx)), (m4, .inl (kA 0, 72, .inl pt)), (m5, .inl (kA 0, 148, .inl kp))]) [(m0, .inr (6, [.ref m1, .int (st - 1), .ref m2, .int len, .ref m3, .int th, .int wo, .ref m4, .int rd, .int nu, .int du, .ref m5, .long hs])), (m1, .inl (kA 0, 148, .inl z)), (m2, .inl (kA 0, 888, .inl (upd hi ((148 * (st - 1)) + y1).toNatClampNeg (z y1.toNatClampNeg)))), (m3, .inl (kA 0, 60, .inl tx)), (m4, .inl (kA 0, 72, .inl pt)), (m5, .inl (kA 0, 148, .inl kp))] := hD
                refine lv_iinc (v := y1 + 1) (lv' := [(1, .int (y1 + 1)), (0, .ref m0)]) hx hb dX6_save_82 hl (k := 1) rfl (by first | rfl | exact congrArg (_ + ·) (by decide)) (by decide) rfl (fun ls hl => ?_)
                refine lv_goto (tgt := 54) hx hb dX6_save_85 (by decide) ?_
                exact ih54 (i + 1) (upd hi ((148 * (st - 1)) + y1).toNatClampNeg (z y1.toNatClampNeg)) (y1 + 1) (by omega) (by rw [f1]; exact nI_1 i) (by rw [clamp_j (ix148 est f1) (by omega), clamp_j f1 (by omega)]; exact hL2_s hhi) _ _ (hP.sub [0, 1, 2, 3, 4, 5] rfl) (hD.sub [0, 1, 2, 3, 4, 5] (by decide) rfl) hS ls (lv_sub hl [1, 0] rfl)
          exact loop_54 148 0 hj 0 (by omega) (nI_0.symm) (hL2_0) _ _ (hP.sub [0, 1, 2, 3, 4, 5] rfl) (hD.sub [0, 1, 2, 3, 4, 5] (by decide) rfl) hS ls (lv_sub hl [1, 0] rfl)
        · exact absurd c_4 (fun q => q (cnt_ge (N := 888) e1 rfl (by omega) (by omega)))
      | succ n ih13 =>
        intro j hj x1 hjn h148 e1 hh H locs hP hD hS ls hl
        refine lv_iload_n hx hb dX6_save_13 rfl (lv_at hl 1 rfl) ?_
        refine lv_sipush (v := 888) hx hb dX6_save_14 (by decide) ?_
        refine lv_icmp_ge (tgt := 42) hx hb dX6_save_17 (by decide) (fun c_7 => ?_) (fun c_7 => ?_)
        · exact absurd c_7 (cnt_nge (N := 888) e1 rfl (by omega) (by omega))
        · skip
          replace c_7 := nge_l c_7
          refine lv_aload_n hx hb dX6_save_20 rfl (lv_at hl 0 rfl) ?_
          refine va_get (ci := 6) (v := .ref m2) (C := RX6) (T := TX6) (N := 13) hx hb hts inX6 hown hK hP 0 rfl rfl 2 (by decide) (hts _ q_772) (fun _ h9 => h9) rfl dX6_save_21 ?_
          refine lv_iload_n hx hb dX6_save_24 rfl (lv_at hl 1 rfl) ?_
          refine lv_sipush (v := 148) hx hb dX6_save_25 (by decide) ?_
          refine lv_isub hx hb dX6_save_28 ?_
          refine lv_aload_n hx hb dX6_save_29 rfl (lv_at hl 0 rfl) ?_
          refine va_get (ci := 6) (v := .ref m2) (C := RX6) (T := TX6) (N := 13) hx hb hts inX6 hown hK hP 0 rfl rfl 2 (by decide) (hts _ q_772) (fun _ h9 => h9) rfl dX6_save_30 ?_
          refine lv_iload_n hx hb dX6_save_33 rfl (lv_at hl 1 rfl) ?_
          refine va_iald (f := hj) hx hb hK hP 2 0 rfl rfl (in_nI e1 (by omega) (by decide)) dX6_save_34 ?_
          refine va_iast (f := hj) hx hb hK hP hD hS 2 0 rfl rfl (in_nI (ix_m e1 h148) (by omega) (by decide)) dX6_save_35 (fun H locs hP hD hS => ?_)
          have hP : va_P D vwCl [(m0, .inr (6, [.ref m1, .int st, .ref m2, .int len, .ref m3, .int th, .int wo, .ref m4, .int rd, .int nu, .int du, .ref m5, .long hs])), (m1, .inl (kA 0, 148, .inl z)), (m2, .inl (kA 0, 888, .inl (upd hj (x1 - 148).toNatClampNeg (hj x1.toNatClampNeg)))), (m3, .inl (kA 0, 60, .inl tx)), (m4, .inl (kA 0, 72, .inl pt)), (m5, .inl (kA 0, 148, .inl kp))] H := hP
          have hD : va_D (Aw [(m0, .inr (6, [.ref m1, .int st, .ref m2, .int len, .ref m3, .int th, .int wo, .ref m4, .int rd, .int nu, .int du, .ref m5, .long hs])), (m1, .inl (kA 0, 148, .inl z)), (m2, .inl (kA 0, 888, .inl h)), (m3, .inl (kA 0, 60, .inl tx)), (m4, .inl (kA 0, 72, .inl pt)), (m5, .inl (kA 0, 148, .inl kp))]) [(m0, .inr (6, [.ref m1, .int st, .ref m2, .int len, .ref m3, .int th, .int wo, .ref m4, .int rd, .int nu, .int du, .ref m5, .long hs])), (m1, .inl (kA 0, 148, .inl z)), (m2, .inl (kA 0, 888, .inl (upd hj (x1 - 148).toNatClampNeg (hj x1.toNatClampNeg)))), (m3, .inl (kA 0, 60, .inl tx)), (m4, .inl (kA 0, 72, .inl pt)), (m5, .inl (kA 0, 148, .inl kp))] := hD
          refine lv_iinc (v := x1 + 1) (lv' := [(1, .int (x1 + 1)), (0, .ref m0)]) hx hb dX6_save_36 hl (k := 1) rfl (by first | rfl | exact congrArg (_ + ·) (by decide)) (by decide) rfl (fun ls hl => ?_)
          refine lv_goto (tgt := 13) hx hb dX6_save_39 (by decide) ?_
          exact ih13 (j + 1) (upd hj (x1 - 148).toNatClampNeg (hj x1.toNatClampNeg)) (x1 + 1) (by omega) (by omega) (by rw [e1]; exact nI_1 j) (by rw [clamp_j (ix_m e1 h148) (by omega), clamp_j e1 (by omega)]; exact hL1_s hh h148) _ _ (hP.sub [0, 1, 2, 3, 4, 5] rfl) (hD.sub [0, 1, 2, 3, 4, 5] (by decide) rfl) hS ls (lv_sub hl [1, 0] rfl)
    exact loop_13 740 148 h 148 (by omega) (by omega) (rfl) (hL1_0) _ _ (hP.sub [0, 1, 2, 3, 4, 5] rfl) (hD.sub [0, 1, 2, 3, 4, 5] (by decide) rfl) hS ls (lv_sub hl [1, 0] rfl)
