
def apxT (p q : Int32) : Int32 := if wiF p 0 3 = true then (if wiF q 0 11 = true then 0 else 2) else 1
def weT (p t : Int32) : Int32 := if wiF p 0 3 = true then (if wiF t 0 23 = true then 0 else 1) else 1
def couT (p : Int32) : Int32 := if wiF p 0 8 = true then 0 else 1
def stgT (p : Int32) : Int32 := if wiF p 0 5 = true then 0 else 1
def coT (p q : Int32) : Int32 := if wiF p 0 3 = true then (if wiF q 0 23 = true then 0 else 2) else 1
def ihT (p q : Int32) : Int32 := if wiF p 0 3 = true then (if wiF q 0 2 = true then 0 else 2) else 1
def apU (x y : Int32) : Int32 := y - x + 24 - (y - x + 24) / 24 * 24
theorem ap_eq {x y : Int32} {i j : Nat} (h1 : x = nI i) (hi : i < 24) (h2 : y = nI j) (hj : j < 24) : (if 24 - apU x y < apU x y then 24 - apU x y else apU x y) = dist x y := by
  subst h1; subst h2
  have hall : ∀ i, i < 24 → ∀ j, j < 24 → (if 24 - apU (nI i) (nI j) < apU (nI i) (nI j) then 24 - apU (nI i) (nI j) else apU (nI i) (nI j)) = dist (nI i) (nI j) := by decide +kernel
  exact hall i hi j hj
theorem prop_lo {G : Nat → Int32} {p : Int32} {w : Nat} (e : p = nI w) (hw : w < 9) : propG G p = G w := by
  subst e
  rcases (show w = 0 ∨ w = 1 ∨ w = 2 ∨ w = 3 ∨ w = 4 ∨ w = 5 ∨ w = 6 ∨ w = 7 ∨ w = 8 by omega) with rfl | rfl | rfl | rfl | rfl | rfl | rfl | rfl | rfl <;> rfl
theorem ne_n {p c : Int32} {w k : Nat} (e : p = nI w) (h : ¬ p = c) (hc : c = nI k) : ¬ w = k := fun q => h (by subst q; rw [e, hc])
def wfX (z : Nat → Int32) (up : Bool) : Int32 := if up = true then wornX z (z 2) else wearX z
def wfS (z : Nat → Int32) (up : Bool) (k : Nat) (s : Int32) : Int32 := s + (if up = true then (if gwr (sl z (k / 24)) (nI (k % 24)) < z 2 then 0 else 1) else gwr (sl z (k / 24)) (nI (k % 24)))
theorem fold_cg {f g : Nat → Int32 → Int32} (h : ∀ k s, f k s = g k s) : ∀ (n j : Nat) (s : Int32), foldL f n j s = foldL g n j s
  | 0, _, _ => rfl
  | n + 1, j, s => by rw [foldL, foldL, h j s]; exact fold_cg h n (j + 1) (g j s)
theorem fold_add (f : Nat → Int32 → Int32) (n : Nat) : ∀ (m j : Nat) (s : Int32), foldL f (m + n) j s = foldL f n (j + m) (foldL f m j s)
  | 0, j, s => by rw [Nat.zero_add]; rfl
  | m + 1, j, s => by
    rw [show m + 1 + n = (m + n) + 1 by omega]
    show foldL f (m + n) (j + 1) (f j s) = foldL f n (j + (m + 1)) (foldL f m (j + 1) (f j s))
    rw [fold_add f n m (j + 1) (f j s), show j + (m + 1) = j + 1 + m by omega]
theorem fold_row (g : Nat → Nat → Int32 → Int32) (a : Nat) : ∀ (n t : Nat) (s : Int32), t + n ≤ 24 → foldL (fun k s => g (k / 24) (k % 24) s) n (24 * a + t) s = foldL (fun t s => g a t s) n t s
  | 0, t, s, h => rfl
  | n + 1, t, s, h => by
    show foldL (fun k s => g (k / 24) (k % 24) s) n (24 * a + (t + 1)) (g ((24 * a + t) / 24) ((24 * a + t) % 24) s) = foldL (fun t s => g a t s) n (t + 1) (g a t s)
    rw [show (24 * a + t) / 24 = a by omega, show (24 * a + t) % 24 = t by omega]
    exact fold_row g a n (t + 1) _ (by omega)
theorem fold_rows (g : Nat → Nat → Int32 → Int32) : ∀ (m a : Nat) (s : Int32), foldL (fun k s => g (k / 24) (k % 24) s) (24 * m) (24 * a) s = foldL (fun a s => foldL (fun t s => g a t s) 24 0 s) m a s
  | 0, a, s => rfl
  | m + 1, a, s => by
    rw [show 24 * (m + 1) = 24 + 24 * m by omega, fold_add]
    have h := fold_row g a 24 0 s (by omega)
    rw [Nat.add_zero] at h
    rw [h]
    exact fold_rows g m (a + 1) _
theorem fold_96 (g : Nat → Nat → Int32 → Int32) (s : Int32) : foldL (fun k s => g (k / 24) (k % 24) s) 96 0 s = foldL (fun a s => foldL (fun t s => g a t s) 24 0 s) 4 0 s := fold_rows g 4 0 s
theorem prop_9 {G : Nat → Int32} : propG G 9 = dist (G 0) (G 1) := by
  unfold propG
  rw [if_neg (by decide), if_neg (by decide), if_neg (by decide), if_neg (by decide), if_neg (by decide), if_neg (by decide), if_neg (by decide), if_neg (by decide), if_neg (by decide), if_pos rfl]
theorem prop_10 {G : Nat → Int32} : propG G 10 = G 9 := by
  unfold propG
  rw [if_neg (by decide), if_neg (by decide), if_neg (by decide), if_neg (by decide), if_neg (by decide), if_neg (by decide), if_neg (by decide), if_neg (by decide), if_neg (by decide), if_neg (by decide), if_pos rfl]
theorem prop_11 {G : Nat → Int32} : propG G 11 = G 10 := by
  unfold propG
  rw [if_neg (by decide), if_neg (by decide), if_neg (by decide), if_neg (by decide), if_neg (by decide), if_neg (by decide), if_neg (by decide), if_neg (by decide), if_neg (by decide), if_neg (by decide), if_neg (by decide)]
theorem wf_eq {z : Nat → Int32} {up : Bool} : foldL (wfS z up) 96 0 0 = wfX z up := by
  unfold wfX
  cases up with
  | false =>
    rw [if_neg (by decide)]
    exact (fold_cg (fun k s => by unfold wfS; rw [if_neg (by decide)]) 96 0 0).trans (fold_96 (fun a t s => s + gwr (sl z a) (nI t)) 0)
  | true =>
    rw [if_pos rfl]
    refine (fold_cg (fun k s => ?_) 96 0 0).trans (fold_96 (fun a t s => if gwr (sl z a) (nI t) < z 2 then s else s + 1) 0)
    unfold wfS
    rw [if_pos rfl]
    by_cases h : gwr (sl z (k / 24)) (nI (k % 24)) < z 2
    · rw [if_pos h, if_pos h, add0]
    · rw [if_neg h, if_neg h]
theorem d24 {x : Int32} {j : Nat} (e : x = nI j) (hj : j < 96) : x / 24 = nI (j / 24) := by
  subst e
  have e24 : (24 : Int32) = nI 24 := rfl
  rw [e24, pk_div (by omega) (by omega) (by omega)]
theorem m24 {x : Int32} {j : Nat} (e : x = nI j) (hj : j < 96) : x - x / 24 * 24 = nI (j % 24) := by
  rw [d24 e hj]; subst e
  have e24 : (24 : Int32) = nI 24 := rfl
  have hm := Nat.div_add_mod j 24
  rw [e24, pk_mul, pk_sub (by omega)]
  congr 1
  omega
def coM (z : Nat → Int32) (st k : Int32) : Int32 :=
  if k = 0 then z 6 else if k = 1 then sumX z 6 else if k = 2 then sumX z 8 else if k = 3 then sumX z 7 else if k = 4 then z 7 else if k = 5 then wearX z else if k = 6 then wornX z (z 2) else if k = 7 then belX z else st
def keL (z k : Nat → Int32) (j : Nat) : Nat → Int32 := fun i => if i < j then z i else k i
theorem ke_0 {z k : Nat → Int32} : k = keL z k 0 := funext fun i => (if_neg (by omega)).symm
theorem ke_s {z k k' : Nat → Int32} {j : Nat} (e : k' = keL z k j) : upd k' j (z j) = keL z k (j + 1) := funext fun i => by
  subst e
  unfold upd keL
  by_cases hi : i = j
  · subst hi; rw [if_pos rfl, if_pos (by omega)]
  · rw [if_neg hi]
    by_cases h2 : i < j
    · rw [if_pos h2, if_pos (by omega)]
    · rw [if_neg h2, if_neg (by omega)]
theorem ke_in {z k k' : Nat → Int32} {j i : Nat} (e : k' = keL z k j) (h : i < j) : k' i = z i := by subst e; exact if_pos h
def htF (z : Nat → Int32) (a : Nat) (k : Int32) : Int32 := if k = 0 then sl (hoZ z a) a 6 - sl z a 6 else if k = 1 then sl (hoZ z a) a 8 - sl z a 8 else if hoR z a = -1 then 0 else 1
theorem le_mm {u d : Int32} : (if u < d then u else d) = (if d < u then d else u) := by
  by_cases h : u < d
  · rw [if_pos h, if_neg (fun q => by rw [Int32.lt_iff_toInt_lt] at h q; omega)]
  · rw [if_neg h]
    by_cases h2 : d < u
    · rw [if_pos h2]
    · rw [if_neg h2]
      apply Int32.toInt_inj.mp
      rw [Int32.lt_iff_toInt_lt] at h h2
      omega
theorem hd_X6_apart : yX6_apart.cls ≠ "java/lang/invoke/MethodHandle" ∧ yX6_apart.cls ≠ "java/lang/invoke/VarHandle" ∧ (parseMethodDescriptor yX6_apart.desc).map (fun d => d.parameters.length) = some 2 := by decide +kernel
set_option maxRecDepth 100000 in
set_option maxHeartbeats 4000000 in
theorem m_X6_apart (l : Launch) (D : va_G) (kA : Nat → Nat) (p0 : Int32) (p1 : Int32) (i : Nat) (k : Nat) (h0 : p0 = nI i) (hi : i < 24) (h1 : p1 = nI k) (hk : k < 24) : Met l yX6_apart (Cond.code yX6_apart cX6_apart 3 (some .int) :: AW) ({ frames := 0, cells := 0, slots := 0, locals := 0 } : Room) (Pz [.int p0, .int p1] D (TY kA) []) (pQ (some (.int (dist p0 p1)))) 0 0 (fun _ => False) := by
  refine MetZ (by decide +kernel) (Nat.le_of_ble_eq_true rfl) ?_
  intro p e s m below meth c ls hx hb hrt hts hown hml hlk hnm hP hK hD hS hl
  have hl : lv_has ls 3 [(0, .int p0), (1, .int p1)] := hl
  refine lv_iload_n hx hb dX6_apart_0 rfl (lv_at hl 1 rfl) ?_
  refine lv_iload_n hx hb dX6_apart_1 rfl (lv_at hl 0 rfl) ?_
  refine lv_isub hx hb dX6_apart_2 ?_
  refine lv_bipush (v := 24) hx hb dX6_apart_3 (by decide) ?_
  refine lv_iadd hx hb dX6_apart_5 ?_
  refine lv_bipush (v := 24) hx hb dX6_apart_6 (by decide) ?_
  refine lv_irem hx hb dX6_apart_8 (by decide) ?_
  refine lv_istore_n (lv' := [(2, .int (((p1 - p0) + 24) - ((p1 - p0) + 24) / 24 * 24)), (0, .int p0), (1, .int p1)]) hx hb dX6_apart_9 rfl hl (by decide) rfl (fun ls hl => ?_)
  refine lv_iload_n hx hb dX6_apart_10 rfl (lv_at hl 0 rfl) ?_
  refine lv_bipush (v := 24) hx hb dX6_apart_11 (by decide) ?_
  refine lv_iload_n hx hb dX6_apart_13 rfl (lv_at hl 0 rfl) ?_
  refine lv_isub hx hb dX6_apart_14 ?_
  refine lv_icmp_le (tgt := 25) hx hb dX6_apart_15 (by decide) (fun c_1 => ?_) (fun c_1 => ?_)
  · skip
    replace c_1 := ge_n c_1
    refine lv_iload_n hx hb dX6_apart_25 rfl (lv_at hl 0 rfl) ?_
    exact end_pi hx hb hrt hlk (by rw [← ap_eq h0 hi h1 hk]; exact (if_neg c_1).symm) dX6_apart_26
  · skip
    replace c_1 := nge_l c_1
    refine lv_bipush (v := 24) hx hb dX6_apart_18 (by decide) ?_
    refine lv_iload_n hx hb dX6_apart_20 rfl (lv_at hl 0 rfl) ?_
    refine lv_isub hx hb dX6_apart_21 ?_
    refine lv_goto (tgt := 26) hx hb dX6_apart_22 (by decide) ?_
    exact end_pi hx hb hrt hlk (by rw [← ap_eq h0 hi h1 hk]; exact (if_pos c_1).symm) dX6_apart_26

theorem hd_X6_axisNow : yX6_axisNow.cls ≠ "java/lang/invoke/MethodHandle" ∧ yX6_axisNow.cls ≠ "java/lang/invoke/VarHandle" ∧ (parseMethodDescriptor yX6_axisNow.desc).map (fun d => d.parameters.length) = some 2 := by decide +kernel
set_option maxRecDepth 100000 in
set_option maxHeartbeats 4000000 in
theorem m_X6_axisNow (l : Launch) (D : va_G) (kA : Nat → Nat) (m0 : Nat) (m1 : Nat) (m2 : Nat) (m3 : Nat) (m4 : Nat) (m5 : Nat) (z : Nat → Int32) (h : Nat → Int32) (tx : Nat → Int32) (pt : Nat → Int32) (kp : Nat → Int32) (st : Int32) (len : Int32) (th : Int32) (wo : Int32) (rd : Int32) (nu : Int32) (du : Int32) (hs : Int64) (a : Nat) (p1 : Int32) (w : Nat) (hI : Inv z) (ha : a < 4) (hp1 : p1 = nI w) (hw : w < 12) : Met l yX6_axisNow (Cond.code yX6_axisNow cX6_axisNow 3 (some .int) :: AW) ({ frames := 1, cells := 0, slots := 0, locals := 22 } : Room) (Pz [.ref m0, .int (nI a), .int p1] D (TY kA) [(m0, .inr (6, [.ref m1, .int st, .ref m2, .int len, .ref m3, .int th, .int wo, .ref m4, .int rd, .int nu, .int du, .ref m5, .long hs])), (m1, .inl (kA 0, 148, .inl z)), (m2, .inl (kA 0, 888, .inl h)), (m3, .inl (kA 0, 60, .inl tx)), (m4, .inl (kA 0, 72, .inl pt)), (m5, .inl (kA 0, 148, .inl kp))]) (pQ (some (.int (propG (sl z a) p1)))) 0 0 (fun _ => False) := by
  refine MetZ (by decide +kernel) (Nat.le_of_ble_eq_true rfl) ?_
  intro p e s m below meth c ls hx hb hrt hts hown hml hlk hnm hP hK hD hS hl
  have hl : lv_has ls 3 [(0, .ref m0), (1, .int (nI a)), (2, .int p1)] := hl
  refine lv_iload_n hx hb dX6_axisNow_0 rfl (lv_at hl 2 rfl) ?_
  by_cases c_1 : p1 = 9
  · skip
    refine lv_tableIn (off := 27) (tgt := 28) hx hb dX6_axisNow_1 (by rw [c_1]; decide) (by rw [c_1]; decide) (by rw [c_1]; decide +kernel) (by decide) ?_
    refine lv_aload_n hx hb dX6_axisNow_28 rfl (lv_at hl 0 rfl) ?_
    refine lv_iload_n hx hb dX6_axisNow_29 rfl (lv_at hl 1 rfl) ?_
    refine lv_iconst (v := 0) hx hb dX6_axisNow_30 (by decide) ?_
    refine cs_p (runV (As := [.int (nI a), .int 0]) (rest := []) ⟨hx, hb, hml, hown, hts⟩ (m_X6_of l D kA m0 m1 m2 m3 m4 m5 z h tx pt kp st len th wo rd nu du hs a 0 0 (rfl) (by omega) (ha)) q_833 q_835 qp_23 q_7 q_836 hd_X6_of ⟨rfl, rfl⟩ ⟨Nat.le_of_ble_eq_true rfl, Nat.le_of_ble_eq_true rfl⟩ hK (ws := [(m0, .inr (6, [.ref m1, .int st, .ref m2, .int len, .ref m3, .int th, .int wo, .ref m4, .int rd, .int nu, .int du, .ref m5, .long hs])), (m1, .inl (kA 0, 148, .inl z)), (m2, .inl (kA 0, 888, .inl h)), (m3, .inl (kA 0, 60, .inl tx)), (m4, .inl (kA 0, 72, .inl pt)), (m5, .inl (kA 0, 148, .inl kp))]) (hP.sub [0, 1, 2, 3, 4, 5] rfl) (hD.sub [0, 1, 2, 3, 4, 5] (by decide) rfl) 0 (ci := 6) (C := RX6) (T := TX6) (N := 13) rfl rfl rfl hl.1 rfl (Nat.le_of_ble_eq_true rfl) dX6_axisNow_31 ⟨Nat.zero_le _, Nat.zero_le _⟩) ?_
    refine lv_aload_n hx hb dX6_axisNow_34 rfl (lv_at hl 0 rfl) ?_
    refine lv_iload_n hx hb dX6_axisNow_35 rfl (lv_at hl 1 rfl) ?_
    refine lv_iconst (v := 1) hx hb dX6_axisNow_36 (by decide) ?_
    refine cs_p (runV (As := [.int (nI a), .int 1]) (rest := [.int (sl z a 0)]) ⟨hx, hb, hml, hown, hts⟩ (m_X6_of l D kA m0 m1 m2 m3 m4 m5 z h tx pt kp st len th wo rd nu du hs a 1 1 (rfl) (by omega) (ha)) q_833 q_835 qp_23 q_7 q_836 hd_X6_of ⟨rfl, rfl⟩ ⟨Nat.le_of_ble_eq_true rfl, Nat.le_of_ble_eq_true rfl⟩ hK (ws := [(m0, .inr (6, [.ref m1, .int st, .ref m2, .int len, .ref m3, .int th, .int wo, .ref m4, .int rd, .int nu, .int du, .ref m5, .long hs])), (m1, .inl (kA 0, 148, .inl z)), (m2, .inl (kA 0, 888, .inl h)), (m3, .inl (kA 0, 60, .inl tx)), (m4, .inl (kA 0, 72, .inl pt)), (m5, .inl (kA 0, 148, .inl kp))]) (hP.sub [0, 1, 2, 3, 4, 5] rfl) (hD.sub [0, 1, 2, 3, 4, 5] (by decide) rfl) 0 (ci := 6) (C := RX6) (T := TX6) (N := 13) rfl rfl rfl hl.1 rfl (Nat.le_of_ble_eq_true rfl) dX6_axisNow_37 ⟨Nat.zero_le _, Nat.zero_le _⟩) ?_
    refine cs_p (runS (As := [.int (sl z a 0), .int (sl z a 1)]) (rest := []) ⟨hx, hb, hml, hown, hts⟩ (m_X6_apart l D kA (sl z a 0) (sl z a 1) ((sl z a 0).toNatClampNeg) ((sl z a 1).toNatClampNeg) ((hI.p0 ha).1) ((hI.p0 ha).2) ((hI.p1 ha).1) ((hI.p1 ha).2)) q_1000 q_1001 q_7 q_1002 hd_X6_apart ⟨rfl, rfl⟩ ⟨Nat.le_of_ble_eq_true rfl, Nat.le_of_ble_eq_true rfl⟩ hK (ws := []) (hP.sub [] rfl) (hD.sub [] (by decide) rfl) rfl hl.1 rfl (Nat.le_of_ble_eq_true rfl) dX6_axisNow_40 ⟨Nat.zero_le _, Nat.zero_le _⟩) ?_
    exact end_pi hx hb hrt hlk (by rw [c_1, prop_9]) dX6_axisNow_43
  by_cases c_2 : p1 = 10
  · skip
    refine lv_tableIn (off := 43) (tgt := 44) hx hb dX6_axisNow_1 (by rw [c_2]; decide) (by rw [c_2]; decide) (by rw [c_2]; decide +kernel) (by decide) ?_
    refine lv_aload_n hx hb dX6_axisNow_44 rfl (lv_at hl 0 rfl) ?_
    refine lv_iload_n hx hb dX6_axisNow_45 rfl (lv_at hl 1 rfl) ?_
    refine lv_bipush (v := 9) hx hb dX6_axisNow_46 (by decide) ?_
    refine cs_p (runV (As := [.int (nI a), .int 9]) (rest := []) ⟨hx, hb, hml, hown, hts⟩ (m_X6_of l D kA m0 m1 m2 m3 m4 m5 z h tx pt kp st len th wo rd nu du hs a 9 9 (rfl) (by omega) (ha)) q_833 q_835 qp_23 q_7 q_836 hd_X6_of ⟨rfl, rfl⟩ ⟨Nat.le_of_ble_eq_true rfl, Nat.le_of_ble_eq_true rfl⟩ hK (ws := [(m0, .inr (6, [.ref m1, .int st, .ref m2, .int len, .ref m3, .int th, .int wo, .ref m4, .int rd, .int nu, .int du, .ref m5, .long hs])), (m1, .inl (kA 0, 148, .inl z)), (m2, .inl (kA 0, 888, .inl h)), (m3, .inl (kA 0, 60, .inl tx)), (m4, .inl (kA 0, 72, .inl pt)), (m5, .inl (kA 0, 148, .inl kp))]) (hP.sub [0, 1, 2, 3, 4, 5] rfl) (hD.sub [0, 1, 2, 3, 4, 5] (by decide) rfl) 0 (ci := 6) (C := RX6) (T := TX6) (N := 13) rfl rfl rfl hl.1 rfl (Nat.le_of_ble_eq_true rfl) dX6_axisNow_48 ⟨Nat.zero_le _, Nat.zero_le _⟩) ?_
    exact end_pi hx hb hrt hlk (by rw [c_2, prop_10]) dX6_axisNow_51
  by_cases c_3 : p1 = 11
  · skip
    refine lv_tableIn (off := 51) (tgt := 52) hx hb dX6_axisNow_1 (by rw [c_3]; decide) (by rw [c_3]; decide) (by rw [c_3]; decide +kernel) (by decide) ?_
    refine lv_aload_n hx hb dX6_axisNow_52 rfl (lv_at hl 0 rfl) ?_
    refine lv_iload_n hx hb dX6_axisNow_53 rfl (lv_at hl 1 rfl) ?_
    refine lv_bipush (v := 10) hx hb dX6_axisNow_54 (by decide) ?_
    refine cs_p (runV (As := [.int (nI a), .int 10]) (rest := []) ⟨hx, hb, hml, hown, hts⟩ (m_X6_of l D kA m0 m1 m2 m3 m4 m5 z h tx pt kp st len th wo rd nu du hs a 10 10 (rfl) (by omega) (ha)) q_833 q_835 qp_23 q_7 q_836 hd_X6_of ⟨rfl, rfl⟩ ⟨Nat.le_of_ble_eq_true rfl, Nat.le_of_ble_eq_true rfl⟩ hK (ws := [(m0, .inr (6, [.ref m1, .int st, .ref m2, .int len, .ref m3, .int th, .int wo, .ref m4, .int rd, .int nu, .int du, .ref m5, .long hs])), (m1, .inl (kA 0, 148, .inl z)), (m2, .inl (kA 0, 888, .inl h)), (m3, .inl (kA 0, 60, .inl tx)), (m4, .inl (kA 0, 72, .inl pt)), (m5, .inl (kA 0, 148, .inl kp))]) (hP.sub [0, 1, 2, 3, 4, 5] rfl) (hD.sub [0, 1, 2, 3, 4, 5] (by decide) rfl) 0 (ci := 6) (C := RX6) (T := TX6) (N := 13) rfl rfl rfl hl.1 rfl (Nat.le_of_ble_eq_true rfl) dX6_axisNow_56 ⟨Nat.zero_le _, Nat.zero_le _⟩) ?_
    exact end_pi hx hb hrt hlk (by rw [c_3, prop_11]) dX6_axisNow_59
  refine lv_tableOut (tgt := 60) hx hb dX6_axisNow_1 (sw_out 9 11 (by intro k h1 h2; rcases (show k = 9 ∨ k = 10 ∨ k = 11 by omega) with rfl | rfl | rfl <;> first | exact lv_neT c_1 (by decide) | exact lv_neT c_2 (by decide) | exact lv_neT c_3 (by decide))) (by decide) ?_
  refine lv_aload_n hx hb dX6_axisNow_60 rfl (lv_at hl 0 rfl) ?_
  refine lv_iload_n hx hb dX6_axisNow_61 rfl (lv_at hl 1 rfl) ?_
  refine lv_iload_n hx hb dX6_axisNow_62 rfl (lv_at hl 2 rfl) ?_
  refine cs_p (runV (As := [.int (nI a), .int p1]) (rest := []) ⟨hx, hb, hml, hown, hts⟩ (m_X6_of l D kA m0 m1 m2 m3 m4 m5 z h tx pt kp st len th wo rd nu du hs a w p1 (hp1) (by omega) (ha)) q_833 q_835 qp_23 q_7 q_836 hd_X6_of ⟨rfl, rfl⟩ ⟨Nat.le_of_ble_eq_true rfl, Nat.le_of_ble_eq_true rfl⟩ hK (ws := [(m0, .inr (6, [.ref m1, .int st, .ref m2, .int len, .ref m3, .int th, .int wo, .ref m4, .int rd, .int nu, .int du, .ref m5, .long hs])), (m1, .inl (kA 0, 148, .inl z)), (m2, .inl (kA 0, 888, .inl h)), (m3, .inl (kA 0, 60, .inl tx)), (m4, .inl (kA 0, 72, .inl pt)), (m5, .inl (kA 0, 148, .inl kp))]) (hP.sub [0, 1, 2, 3, 4, 5] rfl) (hD.sub [0, 1, 2, 3, 4, 5] (by decide) rfl) 0 (ci := 6) (C := RX6) (T := TX6) (N := 13) rfl rfl rfl hl.1 rfl (Nat.le_of_ble_eq_true rfl) dX6_axisNow_63 ⟨Nat.zero_le _, Nat.zero_le _⟩) ?_
  exact end_pi hx hb hrt hlk ((prop_lo hp1 (by have h9 := ne_n (k := 9) hp1 c_1 rfl; have h10 := ne_n (k := 10) hp1 c_2 rfl; have h11 := ne_n (k := 11) hp1 c_3 rfl; omega)).symm) dX6_axisNow_66

theorem hd_X6_axis : yX6_axis.cls ≠ "java/lang/invoke/MethodHandle" ∧ yX6_axis.cls ≠ "java/lang/invoke/VarHandle" ∧ (parseMethodDescriptor yX6_axis.desc).map (fun d => d.parameters.length) = some 2 := by decide +kernel
set_option maxRecDepth 100000 in
set_option maxHeartbeats 4000000 in
theorem m_X6_axis (l : Launch) (D : va_G) (kA : Nat → Nat) (m0 : Nat) (m1 : Nat) (m2 : Nat) (m3 : Nat) (m4 : Nat) (m5 : Nat) (z : Nat → Int32) (h : Nat → Int32) (tx : Nat → Int32) (pt : Nat → Int32) (kp : Nat → Int32) (st : Int32) (len : Int32) (th : Int32) (wo : Int32) (rd : Int32) (nu : Int32) (du : Int32) (hs : Int64) (p0 : Int32) (p1 : Int32) (hI : Inv z) : Met l yX6_axis (Cond.code yX6_axis cX6_axis 3 (some .int) :: AW) ({ frames := 2, cells := 0, slots := 0, locals := 44 } : Room) (Pz [.ref m0, .int p0, .int p1] D (TY kA) [(m0, .inr (6, [.ref m1, .int st, .ref m2, .int len, .ref m3, .int th, .int wo, .ref m4, .int rd, .int nu, .int du, .ref m5, .long hs])), (m1, .inl (kA 0, 148, .inl z)), (m2, .inl (kA 0, 888, .inl h)), (m3, .inl (kA 0, 60, .inl tx)), (m4, .inl (kA 0, 72, .inl pt)), (m5, .inl (kA 0, 148, .inl kp))]) (fQ (some (.int (if apxT p0 p1 = 0 then propG (sl z p0.toNatClampNeg) p1 else 0))) D [(m0, .inr (6, [.ref m1, .int st, .ref m2, .int len, .ref m3, .int th, .int wo, .ref m4, .int rd, .int nu, .int du, .ref m5, .long hs])), (m1, .inl (kA 0, 148, .inl z)), (m2, .inl (kA 0, 888, .inl h)), (m3, .inl (kA 0, 60, .inl tx)), (m4, .inl (kA 0, 72, .inl pt)), (m5, .inl (kA 0, 148, .inl kp))] [(m0, .inr (6, [.ref m1, .int st, .ref m2, .int len, .ref m3, .int (apxT p0 p1), .int wo, .ref m4, .int rd, .int nu, .int du, .ref m5, .long hs])), (m1, .inl (kA 0, 148, .inl z)), (m2, .inl (kA 0, 888, .inl h)), (m3, .inl (kA 0, 60, .inl tx)), (m4, .inl (kA 0, 72, .inl pt)), (m5, .inl (kA 0, 148, .inl kp))]) 0 0 (Aw [(m0, .inr (6, [.ref m1, .int st, .ref m2, .int len, .ref m3, .int th, .int wo, .ref m4, .int rd, .int nu, .int du, .ref m5, .long hs])), (m1, .inl (kA 0, 148, .inl z)), (m2, .inl (kA 0, 888, .inl h)), (m3, .inl (kA 0, 60, .inl tx)), (m4, .inl (kA 0, 72, .inl pt)), (m5, .inl (kA 0, 148, .inl kp))]) := by
  refine MetZ (by decide +kernel) (Nat.le_of_ble_eq_true rfl) ?_
  intro p e s m below meth c ls hx hb hrt hts hown hml hlk hnm hP hK hD hS hl
  have hl : lv_has ls 3 [(0, .ref m0), (1, .int p0), (2, .int p1)] := hl
  refine lv_aload_n hx hb dX6_axis_0 rfl (lv_at hl 0 rfl) ?_
  refine lv_iload_n hx hb dX6_axis_1 rfl (lv_at hl 1 rfl) ?_
  refine cs_p (runS (As := [.int p0]) (rest := [.ref m0]) ⟨hx, hb, hml, hown, hts⟩ (m_X6_isAxis l D kA p0 ) q_830 q_831 q_7 q_832 hd_X6_isAxis ⟨rfl, rfl⟩ ⟨Nat.le_of_ble_eq_true rfl, Nat.le_of_ble_eq_true rfl⟩ hK (ws := []) (hP.sub [] rfl) (hD.sub [] (by decide) rfl) rfl hl.1 rfl (Nat.le_of_ble_eq_true rfl) dX6_axis_2 ⟨Nat.zero_le _, Nat.zero_le _⟩) ?_
  refine lv_if_ne (tgt := 12) hx hb dX6_axis_5 (by decide) (fun c_1 => ?_) (fun c_1 => ?_)
  · skip
    replace c_1 := bI_n0 c_1
    obtain ⟨a, haa, epa, eca⟩ := wi_ex c_1 (N := 3) rfl
    rw [epa] at hl
    have ha : a < 4 := haa
    refine lv_iload_n hx hb dX6_axis_12 rfl (lv_at hl 2 rfl) ?_
    refine lv_iconst (v := 0) hx hb dX6_axis_13 (by decide) ?_
    refine lv_bipush (v := 11) hx hb dX6_axis_14 (by decide) ?_
    refine cs_p (runS (As := [.int p1, .int 0, .int 11]) (rest := [.ref m0]) ⟨hx, hb, hml, hown, hts⟩ (m_X6_within l D kA p1 0 11 ) q_818 q_819 q_7 q_820 hd_X6_within ⟨rfl, rfl⟩ ⟨Nat.le_of_ble_eq_true rfl, Nat.le_of_ble_eq_true rfl⟩ hK (ws := []) (hP.sub [] rfl) (hD.sub [] (by decide) rfl) rfl hl.1 rfl (Nat.le_of_ble_eq_true rfl) dX6_axis_16 ⟨Nat.zero_le _, Nat.zero_le _⟩) ?_
    refine lv_if_eq (tgt := 26) hx hb dX6_axis_19 (by decide) (fun c_2 => ?_) (fun c_2 => ?_)
    · skip
      replace c_2 := bI_0.mp c_2
      refine lv_iconst (v := 2) hx hb dX6_axis_26 (by decide) ?_
      refine va_put (ci := 6) (v := .int 2) (ty := tyX6 5) (C := RX6) (T := TX6) (N := 13) hx hb hts inX6 tyX6 tyX6_ok nmX6 hown hK hP hD hS 0 rfl rfl 5 (by decide) (hts _ q_775) (fun _ h9 => h9) rfl (tyX6_ok 5 (by decide)) rfl rfl (Nat.le_of_ble_eq_true rfl) dX6_axis_27 (fun H locs hP hD hS => ?_)
      have hP : va_P D vwCl [(m0, .inr (6, [.ref m1, .int st, .ref m2, .int len, .ref m3, .int 2, .int wo, .ref m4, .int rd, .int nu, .int du, .ref m5, .long hs])), (m1, .inl (kA 0, 148, .inl z)), (m2, .inl (kA 0, 888, .inl h)), (m3, .inl (kA 0, 60, .inl tx)), (m4, .inl (kA 0, 72, .inl pt)), (m5, .inl (kA 0, 148, .inl kp))] H := hP
      have hD : va_D (Aw [(m0, .inr (6, [.ref m1, .int st, .ref m2, .int len, .ref m3, .int th, .int wo, .ref m4, .int rd, .int nu, .int du, .ref m5, .long hs])), (m1, .inl (kA 0, 148, .inl z)), (m2, .inl (kA 0, 888, .inl h)), (m3, .inl (kA 0, 60, .inl tx)), (m4, .inl (kA 0, 72, .inl pt)), (m5, .inl (kA 0, 148, .inl kp))]) [(m0, .inr (6, [.ref m1, .int st, .ref m2, .int len, .ref m3, .int 2, .int wo, .ref m4, .int rd, .int nu, .int du, .ref m5, .long hs])), (m1, .inl (kA 0, 148, .inl z)), (m2, .inl (kA 0, 888, .inl h)), (m3, .inl (kA 0, 60, .inl tx)), (m4, .inl (kA 0, 72, .inl pt)), (m5, .inl (kA 0, 148, .inl kp))] := hD
      refine lv_aload_n hx hb dX6_axis_30 rfl (lv_at hl 0 rfl) ?_
      refine va_get (ci := 6) (v := .int 2) (C := RX6) (T := TX6) (N := 13) hx hb hts inX6 hown hK hP 0 rfl rfl 5 (by decide) (hts _ q_775) (fun _ h9 => h9) rfl dX6_axis_31 ?_
      refine lv_if_le (tgt := 41) hx hb dX6_axis_34 (by decide) (fun c_3 => ?_) (fun c_3 => ?_)
      · exact absurd c_3 (by decide)
      · skip
        replace c_3 := nge_l c_3
        refine lv_iconst (v := 0) hx hb dX6_axis_37 (by decide) ?_
        refine lv_goto (tgt := 47) hx hb dX6_axis_38 (by decide) ?_
        have hP : va_P D vwCl [(m0, .inr (6, [.ref m1, .int st, .ref m2, .int len, .ref m3, .int 2, .int wo, .ref m4, .int rd, .int nu, .int du, .ref m5, .long hs])), (m1, .inl (kA 0, 148, .inl z)), (m2, .inl (kA 0, 888, .inl h)), (m3, .inl (kA 0, 60, .inl tx)), (m4, .inl (kA 0, 72, .inl pt)), (m5, .inl (kA 0, 148, .inl kp))] _ := hP.sub [0, 1, 2, 3, 4, 5] rfl
        exact end_fi hx hb hrt hlk hP hS (by have hT : apxT p0 p1 = 2 := (by rw [apxT, if_pos c_1, if_neg (by rw [c_2]; decide)]); rw [hT, if_neg (by decide)]) (fun hq => by have hT : apxT p0 p1 = 2 := (by rw [apxT, if_pos c_1, if_neg (by rw [c_2]; decide)]); rw [hT]; exact hq) dX6_axis_47
    · skip
      replace c_2 := bI_n0 c_2
      obtain ⟨w, haw, epw, ecw⟩ := wi_ex c_2 (N := 11) rfl
      rw [epw] at hl
      refine lv_iconst (v := 0) hx hb dX6_axis_22 (by decide) ?_
      refine lv_goto (tgt := 27) hx hb dX6_axis_23 (by decide) ?_
      refine va_put (ci := 6) (v := .int 0) (ty := tyX6 5) (C := RX6) (T := TX6) (N := 13) hx hb hts inX6 tyX6 tyX6_ok nmX6 hown hK hP hD hS 0 rfl rfl 5 (by decide) (hts _ q_775) (fun _ h9 => h9) rfl (tyX6_ok 5 (by decide)) rfl rfl (Nat.le_of_ble_eq_true rfl) dX6_axis_27 (fun H locs hP hD hS => ?_)
      have hP : va_P D vwCl [(m0, .inr (6, [.ref m1, .int st, .ref m2, .int len, .ref m3, .int 0, .int wo, .ref m4, .int rd, .int nu, .int du, .ref m5, .long hs])), (m1, .inl (kA 0, 148, .inl z)), (m2, .inl (kA 0, 888, .inl h)), (m3, .inl (kA 0, 60, .inl tx)), (m4, .inl (kA 0, 72, .inl pt)), (m5, .inl (kA 0, 148, .inl kp))] H := hP
      have hD : va_D (Aw [(m0, .inr (6, [.ref m1, .int st, .ref m2, .int len, .ref m3, .int th, .int wo, .ref m4, .int rd, .int nu, .int du, .ref m5, .long hs])), (m1, .inl (kA 0, 148, .inl z)), (m2, .inl (kA 0, 888, .inl h)), (m3, .inl (kA 0, 60, .inl tx)), (m4, .inl (kA 0, 72, .inl pt)), (m5, .inl (kA 0, 148, .inl kp))]) [(m0, .inr (6, [.ref m1, .int st, .ref m2, .int len, .ref m3, .int 0, .int wo, .ref m4, .int rd, .int nu, .int du, .ref m5, .long hs])), (m1, .inl (kA 0, 148, .inl z)), (m2, .inl (kA 0, 888, .inl h)), (m3, .inl (kA 0, 60, .inl tx)), (m4, .inl (kA 0, 72, .inl pt)), (m5, .inl (kA 0, 148, .inl kp))] := hD
      refine lv_aload_n hx hb dX6_axis_30 rfl (lv_at hl 0 rfl) ?_
      refine va_get (ci := 6) (v := .int 0) (C := RX6) (T := TX6) (N := 13) hx hb hts inX6 hown hK hP 0 rfl rfl 5 (by decide) (hts _ q_775) (fun _ h9 => h9) rfl dX6_axis_31 ?_
      refine lv_if_le (tgt := 41) hx hb dX6_axis_34 (by decide) (fun c_4 => ?_) (fun c_4 => ?_)
      · skip
        replace c_4 := ge_n c_4
        refine lv_aload_n hx hb dX6_axis_41 rfl (lv_at hl 0 rfl) ?_
        refine lv_iload_n hx hb dX6_axis_42 rfl (lv_at hl 1 rfl) ?_
        refine lv_iload_n hx hb dX6_axis_43 rfl (lv_at hl 2 rfl) ?_
        refine cs_p (runV (As := [.int (nI a), .int (nI w)]) (rest := []) ⟨hx, hb, hml, hown, hts⟩ (m_X6_axisNow l D kA m0 m1 m2 m3 m4 m5 z h tx pt kp st len 0 wo rd nu du hs a (nI w) w (hI) (ha) (rfl) (haw)) q_996 q_998 qp_48 q_7 q_999 hd_X6_axisNow ⟨rfl, rfl⟩ ⟨Nat.le_of_ble_eq_true rfl, Nat.le_of_ble_eq_true rfl⟩ hK (ws := [(m0, .inr (6, [.ref m1, .int st, .ref m2, .int len, .ref m3, .int 0, .int wo, .ref m4, .int rd, .int nu, .int du, .ref m5, .long hs])), (m1, .inl (kA 0, 148, .inl z)), (m2, .inl (kA 0, 888, .inl h)), (m3, .inl (kA 0, 60, .inl tx)), (m4, .inl (kA 0, 72, .inl pt)), (m5, .inl (kA 0, 148, .inl kp))]) (hP.sub [0, 1, 2, 3, 4, 5] rfl) (hD.sub [0, 1, 2, 3, 4, 5] (by decide) rfl) 0 (ci := 6) (C := RX6) (T := TX6) (N := 13) rfl rfl rfl hl.1 rfl (Nat.le_of_ble_eq_true rfl) dX6_axis_44 ⟨Nat.zero_le _, Nat.zero_le _⟩) ?_
        have hP : va_P D vwCl [(m0, .inr (6, [.ref m1, .int st, .ref m2, .int len, .ref m3, .int 0, .int wo, .ref m4, .int rd, .int nu, .int du, .ref m5, .long hs])), (m1, .inl (kA 0, 148, .inl z)), (m2, .inl (kA 0, 888, .inl h)), (m3, .inl (kA 0, 60, .inl tx)), (m4, .inl (kA 0, 72, .inl pt)), (m5, .inl (kA 0, 148, .inl kp))] _ := hP.sub [0, 1, 2, 3, 4, 5] rfl
        exact end_fi hx hb hrt hlk hP hS (by have hT : apxT p0 p1 = 0 := (by rw [apxT, if_pos c_1, if_pos c_2]); rw [hT, if_pos rfl, eca, epw]) (fun hq => by have hT : apxT p0 p1 = 0 := (by rw [apxT, if_pos c_1, if_pos c_2]); rw [hT]; exact hq) dX6_axis_47
      · exact absurd c_4 (by decide)
  · skip
    replace c_1 := bI_0.mp c_1
    refine lv_iconst (v := 1) hx hb dX6_axis_8 (by decide) ?_
    refine lv_goto (tgt := 27) hx hb dX6_axis_9 (by decide) ?_
    refine va_put (ci := 6) (v := .int 1) (ty := tyX6 5) (C := RX6) (T := TX6) (N := 13) hx hb hts inX6 tyX6 tyX6_ok nmX6 hown hK hP hD hS 0 rfl rfl 5 (by decide) (hts _ q_775) (fun _ h9 => h9) rfl (tyX6_ok 5 (by decide)) rfl rfl (Nat.le_of_ble_eq_true rfl) dX6_axis_27 (fun H locs hP hD hS => ?_)
    have hP : va_P D vwCl [(m0, .inr (6, [.ref m1, .int st, .ref m2, .int len, .ref m3, .int 1, .int wo, .ref m4, .int rd, .int nu, .int du, .ref m5, .long hs])), (m1, .inl (kA 0, 148, .inl z)), (m2, .inl (kA 0, 888, .inl h)), (m3, .inl (kA 0, 60, .inl tx)), (m4, .inl (kA 0, 72, .inl pt)), (m5, .inl (kA 0, 148, .inl kp))] H := hP
    have hD : va_D (Aw [(m0, .inr (6, [.ref m1, .int st, .ref m2, .int len, .ref m3, .int th, .int wo, .ref m4, .int rd, .int nu, .int du, .ref m5, .long hs])), (m1, .inl (kA 0, 148, .inl z)), (m2, .inl (kA 0, 888, .inl h)), (m3, .inl (kA 0, 60, .inl tx)), (m4, .inl (kA 0, 72, .inl pt)), (m5, .inl (kA 0, 148, .inl kp))]) [(m0, .inr (6, [.ref m1, .int st, .ref m2, .int len, .ref m3, .int 1, .int wo, .ref m4, .int rd, .int nu, .int du, .ref m5, .long hs])), (m1, .inl (kA 0, 148, .inl z)), (m2, .inl (kA 0, 888, .inl h)), (m3, .inl (kA 0, 60, .inl tx)), (m4, .inl (kA 0, 72, .inl pt)), (m5, .inl (kA 0, 148, .inl kp))] := hD
    refine lv_aload_n hx hb dX6_axis_30 rfl (lv_at hl 0 rfl) ?_
    refine va_get (ci := 6) (v := .int 1) (C := RX6) (T := TX6) (N := 13) hx hb hts inX6 hown hK hP 0 rfl rfl 5 (by decide) (hts _ q_775) (fun _ h9 => h9) rfl dX6_axis_31 ?_
    refine lv_if_le (tgt := 41) hx hb dX6_axis_34 (by decide) (fun c_5 => ?_) (fun c_5 => ?_)
    · exact absurd c_5 (by decide)
    · skip
      replace c_5 := nge_l c_5
      refine lv_iconst (v := 0) hx hb dX6_axis_37 (by decide) ?_
      refine lv_goto (tgt := 47) hx hb dX6_axis_38 (by decide) ?_
      have hP : va_P D vwCl [(m0, .inr (6, [.ref m1, .int st, .ref m2, .int len, .ref m3, .int 1, .int wo, .ref m4, .int rd, .int nu, .int du, .ref m5, .long hs])), (m1, .inl (kA 0, 148, .inl z)), (m2, .inl (kA 0, 888, .inl h)), (m3, .inl (kA 0, 60, .inl tx)), (m4, .inl (kA 0, 72, .inl pt)), (m5, .inl (kA 0, 148, .inl kp))] _ := hP.sub [0, 1, 2, 3, 4, 5] rfl
      exact end_fi hx hb hrt hlk hP hS (by have hT : apxT p0 p1 = 1 := (by rw [apxT, if_neg (by rw [c_1]; decide)]); rw [hT, if_neg (by decide)]) (fun hq => by have hT : apxT p0 p1 = 1 := (by rw [apxT, if_neg (by rw [c_1]; decide)]); rw [hT]; exact hq) dX6_axis_47

theorem hd_X6_wear : yX6_wear.cls ≠ "java/lang/invoke/MethodHandle" ∧ yX6_wear.cls ≠ "java/lang/invoke/VarHandle" ∧ (parseMethodDescriptor yX6_wear.desc).map (fun d => d.parameters.length) = some 2 := by decide +kernel
set_option maxRecDepth 100000 in
set_option maxHeartbeats 4000000 in
theorem m_X6_wear (l : Launch) (D : va_G) (kA : Nat → Nat) (m0 : Nat) (m1 : Nat) (m2 : Nat) (m3 : Nat) (m4 : Nat) (m5 : Nat) (z : Nat → Int32) (h : Nat → Int32) (tx : Nat → Int32) (pt : Nat → Int32) (kp : Nat → Int32) (st : Int32) (len : Int32) (th : Int32) (wo : Int32) (rd : Int32) (nu : Int32) (du : Int32) (hs : Int64) (p0 : Int32) (p1 : Int32) : Met l yX6_wear (Cond.code yX6_wear cX6_wear 3 (some .int) :: AW) ({ frames := 2, cells := 0, slots := 0, locals := 42 } : Room) (Pz [.ref m0, .int p0, .int p1] D (TY kA) [(m0, .inr (6, [.ref m1, .int st, .ref m2, .int len, .ref m3, .int th, .int wo, .ref m4, .int rd, .int nu, .int du, .ref m5, .long hs])), (m1, .inl (kA 0, 148, .inl z)), (m2, .inl (kA 0, 888, .inl h)), (m3, .inl (kA 0, 60, .inl tx)), (m4, .inl (kA 0, 72, .inl pt)), (m5, .inl (kA 0, 148, .inl kp))]) (fQ (some (.int (if weT p0 p1 = 0 then gwr (sl z p0.toNatClampNeg) p1 else 0))) D [(m0, .inr (6, [.ref m1, .int st, .ref m2, .int len, .ref m3, .int th, .int wo, .ref m4, .int rd, .int nu, .int du, .ref m5, .long hs])), (m1, .inl (kA 0, 148, .inl z)), (m2, .inl (kA 0, 888, .inl h)), (m3, .inl (kA 0, 60, .inl tx)), (m4, .inl (kA 0, 72, .inl pt)), (m5, .inl (kA 0, 148, .inl kp))] [(m0, .inr (6, [.ref m1, .int st, .ref m2, .int len, .ref m3, .int (weT p0 p1), .int wo, .ref m4, .int rd, .int nu, .int du, .ref m5, .long hs])), (m1, .inl (kA 0, 148, .inl z)), (m2, .inl (kA 0, 888, .inl h)), (m3, .inl (kA 0, 60, .inl tx)), (m4, .inl (kA 0, 72, .inl pt)), (m5, .inl (kA 0, 148, .inl kp))]) 0 0 (Aw [(m0, .inr (6, [.ref m1, .int st, .ref m2, .int len, .ref m3, .int th, .int wo, .ref m4, .int rd, .int nu, .int du, .ref m5, .long hs])), (m1, .inl (kA 0, 148, .inl z)), (m2, .inl (kA 0, 888, .inl h)), (m3, .inl (kA 0, 60, .inl tx)), (m4, .inl (kA 0, 72, .inl pt)), (m5, .inl (kA 0, 148, .inl kp))]) := by
  refine MetZ (by decide +kernel) (Nat.le_of_ble_eq_true rfl) ?_
  intro p e s m below meth c ls hx hb hrt hts hown hml hlk hnm hP hK hD hS hl
  have hl : lv_has ls 3 [(0, .ref m0), (1, .int p0), (2, .int p1)] := hl
  refine lv_aload_n hx hb dX6_wear_0 rfl (lv_at hl 0 rfl) ?_
  refine lv_iload_n hx hb dX6_wear_1 rfl (lv_at hl 1 rfl) ?_
  refine cs_p (runS (As := [.int p0]) (rest := [.ref m0]) ⟨hx, hb, hml, hown, hts⟩ (m_X6_isAxis l D kA p0 ) q_830 q_831 q_7 q_832 hd_X6_isAxis ⟨rfl, rfl⟩ ⟨Nat.le_of_ble_eq_true rfl, Nat.le_of_ble_eq_true rfl⟩ hK (ws := []) (hP.sub [] rfl) (hD.sub [] (by decide) rfl) rfl hl.1 rfl (Nat.le_of_ble_eq_true rfl) dX6_wear_2 ⟨Nat.zero_le _, Nat.zero_le _⟩) ?_
  refine lv_if_eq (tgt := 19) hx hb dX6_wear_5 (by decide) (fun c_1 => ?_) (fun c_1 => ?_)
  · skip
    replace c_1 := bI_0.mp c_1
    refine lv_iconst (v := 1) hx hb dX6_wear_19 (by decide) ?_
    refine va_put (ci := 6) (v := .int 1) (ty := tyX6 5) (C := RX6) (T := TX6) (N := 13) hx hb hts inX6 tyX6 tyX6_ok nmX6 hown hK hP hD hS 0 rfl rfl 5 (by decide) (hts _ q_775) (fun _ h9 => h9) rfl (tyX6_ok 5 (by decide)) rfl rfl (Nat.le_of_ble_eq_true rfl) dX6_wear_20 (fun H locs hP hD hS => ?_)
    have hP : va_P D vwCl [(m0, .inr (6, [.ref m1, .int st, .ref m2, .int len, .ref m3, .int 1, .int wo, .ref m4, .int rd, .int nu, .int du, .ref m5, .long hs])), (m1, .inl (kA 0, 148, .inl z)), (m2, .inl (kA 0, 888, .inl h)), (m3, .inl (kA 0, 60, .inl tx)), (m4, .inl (kA 0, 72, .inl pt)), (m5, .inl (kA 0, 148, .inl kp))] H := hP
    have hD : va_D (Aw [(m0, .inr (6, [.ref m1, .int st, .ref m2, .int len, .ref m3, .int th, .int wo, .ref m4, .int rd, .int nu, .int du, .ref m5, .long hs])), (m1, .inl (kA 0, 148, .inl z)), (m2, .inl (kA 0, 888, .inl h)), (m3, .inl (kA 0, 60, .inl tx)), (m4, .inl (kA 0, 72, .inl pt)), (m5, .inl (kA 0, 148, .inl kp))]) [(m0, .inr (6, [.ref m1, .int st, .ref m2, .int len, .ref m3, .int 1, .int wo, .ref m4, .int rd, .int nu, .int du, .ref m5, .long hs])), (m1, .inl (kA 0, 148, .inl z)), (m2, .inl (kA 0, 888, .inl h)), (m3, .inl (kA 0, 60, .inl tx)), (m4, .inl (kA 0, 72, .inl pt)), (m5, .inl (kA 0, 148, .inl kp))] := hD
    refine lv_aload_n hx hb dX6_wear_23 rfl (lv_at hl 0 rfl) ?_
    refine va_get (ci := 6) (v := .int 1) (C := RX6) (T := TX6) (N := 13) hx hb hts inX6 hown hK hP 0 rfl rfl 5 (by decide) (hts _ q_775) (fun _ h9 => h9) rfl dX6_wear_24 ?_
    refine lv_if_le (tgt := 34) hx hb dX6_wear_27 (by decide) (fun c_2 => ?_) (fun c_2 => ?_)
    · exact absurd c_2 (by decide)
    · skip
      replace c_2 := nge_l c_2
      refine lv_iconst (v := 0) hx hb dX6_wear_30 (by decide) ?_
      refine lv_goto (tgt := 43) hx hb dX6_wear_31 (by decide) ?_
      have hP : va_P D vwCl [(m0, .inr (6, [.ref m1, .int st, .ref m2, .int len, .ref m3, .int 1, .int wo, .ref m4, .int rd, .int nu, .int du, .ref m5, .long hs])), (m1, .inl (kA 0, 148, .inl z)), (m2, .inl (kA 0, 888, .inl h)), (m3, .inl (kA 0, 60, .inl tx)), (m4, .inl (kA 0, 72, .inl pt)), (m5, .inl (kA 0, 148, .inl kp))] _ := hP.sub [0, 1, 2, 3, 4, 5] rfl
      exact end_fi hx hb hrt hlk hP hS (by have hT : weT p0 p1 = 1 := (by rw [weT, if_neg (by rw [c_1]; decide)]); rw [hT, if_neg (by decide)]) (fun hq => by have hT : weT p0 p1 = 1 := (by rw [weT, if_neg (by rw [c_1]; decide)]); rw [hT]; exact hq) dX6_wear_43
  · skip
    replace c_1 := bI_n0 c_1
    obtain ⟨a, haa, epa, eca⟩ := wi_ex c_1 (N := 3) rfl
    rw [epa] at hl
    have ha : a < 4 := haa
    refine lv_iload_n hx hb dX6_wear_8 rfl (lv_at hl 2 rfl) ?_
    refine cs_p (runS (As := [.int p1]) (rest := [.ref m0]) ⟨hx, hb, hml, hown, hts⟩ (m_X6_isPlace l D kA p1 ) q_897 q_898 q_7 q_899 hd_X6_isPlace ⟨rfl, rfl⟩ ⟨Nat.le_of_ble_eq_true rfl, Nat.le_of_ble_eq_true rfl⟩ hK (ws := []) (hP.sub [] rfl) (hD.sub [] (by decide) rfl) rfl hl.1 rfl (Nat.le_of_ble_eq_true rfl) dX6_wear_9 ⟨Nat.zero_le _, Nat.zero_le _⟩) ?_
    refine lv_if_eq (tgt := 19) hx hb dX6_wear_12 (by decide) (fun c_3 => ?_) (fun c_3 => ?_)
    · skip
      replace c_3 := bI_0.mp c_3
      refine lv_iconst (v := 1) hx hb dX6_wear_19 (by decide) ?_
      refine va_put (ci := 6) (v := .int 1) (ty := tyX6 5) (C := RX6) (T := TX6) (N := 13) hx hb hts inX6 tyX6 tyX6_ok nmX6 hown hK hP hD hS 0 rfl rfl 5 (by decide) (hts _ q_775) (fun _ h9 => h9) rfl (tyX6_ok 5 (by decide)) rfl rfl (Nat.le_of_ble_eq_true rfl) dX6_wear_20 (fun H locs hP hD hS => ?_)
      have hP : va_P D vwCl [(m0, .inr (6, [.ref m1, .int st, .ref m2, .int len, .ref m3, .int 1, .int wo, .ref m4, .int rd, .int nu, .int du, .ref m5, .long hs])), (m1, .inl (kA 0, 148, .inl z)), (m2, .inl (kA 0, 888, .inl h)), (m3, .inl (kA 0, 60, .inl tx)), (m4, .inl (kA 0, 72, .inl pt)), (m5, .inl (kA 0, 148, .inl kp))] H := hP
      have hD : va_D (Aw [(m0, .inr (6, [.ref m1, .int st, .ref m2, .int len, .ref m3, .int th, .int wo, .ref m4, .int rd, .int nu, .int du, .ref m5, .long hs])), (m1, .inl (kA 0, 148, .inl z)), (m2, .inl (kA 0, 888, .inl h)), (m3, .inl (kA 0, 60, .inl tx)), (m4, .inl (kA 0, 72, .inl pt)), (m5, .inl (kA 0, 148, .inl kp))]) [(m0, .inr (6, [.ref m1, .int st, .ref m2, .int len, .ref m3, .int 1, .int wo, .ref m4, .int rd, .int nu, .int du, .ref m5, .long hs])), (m1, .inl (kA 0, 148, .inl z)), (m2, .inl (kA 0, 888, .inl h)), (m3, .inl (kA 0, 60, .inl tx)), (m4, .inl (kA 0, 72, .inl pt)), (m5, .inl (kA 0, 148, .inl kp))] := hD
      refine lv_aload_n hx hb dX6_wear_23 rfl (lv_at hl 0 rfl) ?_
      refine va_get (ci := 6) (v := .int 1) (C := RX6) (T := TX6) (N := 13) hx hb hts inX6 hown hK hP 0 rfl rfl 5 (by decide) (hts _ q_775) (fun _ h9 => h9) rfl dX6_wear_24 ?_
      refine lv_if_le (tgt := 34) hx hb dX6_wear_27 (by decide) (fun c_4 => ?_) (fun c_4 => ?_)
      · exact absurd c_4 (by decide)
      · skip
        replace c_4 := nge_l c_4
        refine lv_iconst (v := 0) hx hb dX6_wear_30 (by decide) ?_
        refine lv_goto (tgt := 43) hx hb dX6_wear_31 (by decide) ?_
        have hP : va_P D vwCl [(m0, .inr (6, [.ref m1, .int st, .ref m2, .int len, .ref m3, .int 1, .int wo, .ref m4, .int rd, .int nu, .int du, .ref m5, .long hs])), (m1, .inl (kA 0, 148, .inl z)), (m2, .inl (kA 0, 888, .inl h)), (m3, .inl (kA 0, 60, .inl tx)), (m4, .inl (kA 0, 72, .inl pt)), (m5, .inl (kA 0, 148, .inl kp))] _ := hP.sub [0, 1, 2, 3, 4, 5] rfl
        exact end_fi hx hb hrt hlk hP hS (by have hT : weT p0 p1 = 1 := (by rw [weT, if_pos c_1, if_neg (by rw [c_3]; decide)]); rw [hT, if_neg (by decide)]) (fun hq => by have hT : weT p0 p1 = 1 := (by rw [weT, if_pos c_1, if_neg (by rw [c_3]; decide)]); rw [hT]; exact hq) dX6_wear_43
    · skip
      replace c_3 := bI_n0 c_3
      obtain ⟨t, hat, ept, ect⟩ := wi_ex c_3 (N := 23) rfl
      rw [ept] at hl
      refine lv_iconst (v := 0) hx hb dX6_wear_15 (by decide) ?_
      refine lv_goto (tgt := 20) hx hb dX6_wear_16 (by decide) ?_
      refine va_put (ci := 6) (v := .int 0) (ty := tyX6 5) (C := RX6) (T := TX6) (N := 13) hx hb hts inX6 tyX6 tyX6_ok nmX6 hown hK hP hD hS 0 rfl rfl 5 (by decide) (hts _ q_775) (fun _ h9 => h9) rfl (tyX6_ok 5 (by decide)) rfl rfl (Nat.le_of_ble_eq_true rfl) dX6_wear_20 (fun H locs hP hD hS => ?_)
      have hP : va_P D vwCl [(m0, .inr (6, [.ref m1, .int st, .ref m2, .int len, .ref m3, .int 0, .int wo, .ref m4, .int rd, .int nu, .int du, .ref m5, .long hs])), (m1, .inl (kA 0, 148, .inl z)), (m2, .inl (kA 0, 888, .inl h)), (m3, .inl (kA 0, 60, .inl tx)), (m4, .inl (kA 0, 72, .inl pt)), (m5, .inl (kA 0, 148, .inl kp))] H := hP
      have hD : va_D (Aw [(m0, .inr (6, [.ref m1, .int st, .ref m2, .int len, .ref m3, .int th, .int wo, .ref m4, .int rd, .int nu, .int du, .ref m5, .long hs])), (m1, .inl (kA 0, 148, .inl z)), (m2, .inl (kA 0, 888, .inl h)), (m3, .inl (kA 0, 60, .inl tx)), (m4, .inl (kA 0, 72, .inl pt)), (m5, .inl (kA 0, 148, .inl kp))]) [(m0, .inr (6, [.ref m1, .int st, .ref m2, .int len, .ref m3, .int 0, .int wo, .ref m4, .int rd, .int nu, .int du, .ref m5, .long hs])), (m1, .inl (kA 0, 148, .inl z)), (m2, .inl (kA 0, 888, .inl h)), (m3, .inl (kA 0, 60, .inl tx)), (m4, .inl (kA 0, 72, .inl pt)), (m5, .inl (kA 0, 148, .inl kp))] := hD
      refine lv_aload_n hx hb dX6_wear_23 rfl (lv_at hl 0 rfl) ?_
      refine va_get (ci := 6) (v := .int 0) (C := RX6) (T := TX6) (N := 13) hx hb hts inX6 hown hK hP 0 rfl rfl 5 (by decide) (hts _ q_775) (fun _ h9 => h9) rfl dX6_wear_24 ?_
      refine lv_if_le (tgt := 34) hx hb dX6_wear_27 (by decide) (fun c_5 => ?_) (fun c_5 => ?_)
      · skip
        replace c_5 := ge_n c_5
        refine lv_aload_n hx hb dX6_wear_34 rfl (lv_at hl 0 rfl) ?_
        refine lv_iload_n hx hb dX6_wear_35 rfl (lv_at hl 1 rfl) ?_
        refine lv_bipush (v := 11) hx hb dX6_wear_36 (by decide) ?_
        refine lv_iload_n hx hb dX6_wear_38 rfl (lv_at hl 2 rfl) ?_
        refine lv_iadd hx hb dX6_wear_39 ?_
        refine cs_p (runV (As := [.int (nI a), .int (11 + (nI t))]) (rest := []) ⟨hx, hb, hml, hown, hts⟩ (m_X6_of_w l D kA m0 m1 m2 m3 m4 m5 z h tx pt kp st len 0 wo rd nu du hs a (nI t) t (rfl) (hat) (ha)) q_833 q_835 qp_23 q_7 q_836 hd_X6_of ⟨rfl, rfl⟩ ⟨Nat.le_of_ble_eq_true rfl, Nat.le_of_ble_eq_true rfl⟩ hK (ws := [(m0, .inr (6, [.ref m1, .int st, .ref m2, .int len, .ref m3, .int 0, .int wo, .ref m4, .int rd, .int nu, .int du, .ref m5, .long hs])), (m1, .inl (kA 0, 148, .inl z)), (m2, .inl (kA 0, 888, .inl h)), (m3, .inl (kA 0, 60, .inl tx)), (m4, .inl (kA 0, 72, .inl pt)), (m5, .inl (kA 0, 148, .inl kp))]) (hP.sub [0, 1, 2, 3, 4, 5] rfl) (hD.sub [0, 1, 2, 3, 4, 5] (by decide) rfl) 0 (ci := 6) (C := RX6) (T := TX6) (N := 13) rfl rfl rfl hl.1 rfl (Nat.le_of_ble_eq_true rfl) dX6_wear_40 ⟨Nat.zero_le _, Nat.zero_le _⟩) ?_
        have hP : va_P D vwCl [(m0, .inr (6, [.ref m1, .int st, .ref m2, .int len, .ref m3, .int 0, .int wo, .ref m4, .int rd, .int nu, .int du, .ref m5, .long hs])), (m1, .inl (kA 0, 148, .inl z)), (m2, .inl (kA 0, 888, .inl h)), (m3, .inl (kA 0, 60, .inl tx)), (m4, .inl (kA 0, 72, .inl pt)), (m5, .inl (kA 0, 148, .inl kp))] _ := hP.sub [0, 1, 2, 3, 4, 5] rfl
        exact end_fi hx hb hrt hlk hP hS (by have hT : weT p0 p1 = 0 := (by rw [weT, if_pos c_1, if_pos c_3]); rw [hT, if_pos rfl, eca, ept]) (fun hq => by have hT : weT p0 p1 = 0 := (by rw [weT, if_pos c_1, if_pos c_3]); rw [hT]; exact hq) dX6_wear_43
      · exact absurd c_5 (by decide)

theorem hd_X6_sumOf : yX6_sumOf.cls ≠ "java/lang/invoke/MethodHandle" ∧ yX6_sumOf.cls ≠ "java/lang/invoke/VarHandle" ∧ (parseMethodDescriptor yX6_sumOf.desc).map (fun d => d.parameters.length) = some 1 := by decide +kernel
set_option maxRecDepth 100000 in
set_option maxHeartbeats 4000000 in
theorem m_X6_sumOf (l : Launch) (D : va_G) (kA : Nat → Nat) (m0 : Nat) (m1 : Nat) (m2 : Nat) (m3 : Nat) (m4 : Nat) (m5 : Nat) (z : Nat → Int32) (h : Nat → Int32) (tx : Nat → Int32) (pt : Nat → Int32) (kp : Nat → Int32) (st : Int32) (len : Int32) (th : Int32) (wo : Int32) (rd : Int32) (nu : Int32) (du : Int32) (hs : Int64) (p0 : Int32) (w : Nat) (hp : p0 = nI w) (hw : w < 9) : Met l yX6_sumOf (Cond.code yX6_sumOf cX6_sumOf 4 (some .int) :: AW) ({ frames := 1, cells := 0, slots := 0, locals := 22 } : Room) (Pz [.ref m0, .int p0] D (TY kA) [(m0, .inr (6, [.ref m1, .int st, .ref m2, .int len, .ref m3, .int th, .int wo, .ref m4, .int rd, .int nu, .int du, .ref m5, .long hs])), (m1, .inl (kA 0, 148, .inl z)), (m2, .inl (kA 0, 888, .inl h)), (m3, .inl (kA 0, 60, .inl tx)), (m4, .inl (kA 0, 72, .inl pt)), (m5, .inl (kA 0, 148, .inl kp))]) (pQ (some (.int (sumX z p0)))) 0 0 (fun _ => False) := by
  refine MetZ (by decide +kernel) (Nat.le_of_ble_eq_true rfl) ?_
  intro p e s m below meth c ls hx hb hrt hts hown hml hlk hnm hP hK hD hS hl
  have hl : lv_has ls 4 [(0, .ref m0), (1, .int p0)] := hl
  refine lv_iconst (v := 0) hx hb dX6_sumOf_0 (by decide) ?_
  refine lv_istore_n (lv' := [(2, .int 0), (0, .ref m0), (1, .int p0)]) hx hb dX6_sumOf_1 rfl hl (by decide) rfl (fun ls hl => ?_)
  refine lv_iconst (v := 0) hx hb dX6_sumOf_2 (by decide) ?_
  refine lv_istore_n (lv' := [(3, .int 0), (2, .int 0), (0, .ref m0), (1, .int p0)]) hx hb dX6_sumOf_3 rfl hl (by decide) rfl (fun ls hl => ?_)
  have loop_4 : ∀ (n : Nat) (j : Nat) (x2 : Int32) (x3 : Int32) (hj : j + n = 4) (e3 : x3 = nI j) (hres : foldL (fun a s => s + propG (sl z a) p0) n j x2 = sumX z p0), ∀ ls : Array Slot, lv_has ls 4 [(0, .ref m0), (1, .int p0), (2, .int x2), (3, .int x3)] → W p l e ({ frames := 1, cells := 0, slots := 0, locals := 22 } : Room) s m [.ref m0, .int p0].toArray below meth c s.heap [] 0 0 (MQ below (pQ (some (.int (sumX z p0)))) [.ref m0, .int p0].toArray s 0 0 (fun _ => False)) (F0 m 4 ls []) := by
    clear hl
    intro n
    induction n with
    | zero =>
      intro j x2 x3 hj e3 hres  ls hl
      refine lv_iload_n hx hb dX6_sumOf_4 rfl (lv_at hl 3 rfl) ?_
      refine lv_iconst (v := 4) hx hb dX6_sumOf_5 (by decide) ?_
      refine lv_icmp_ge (tgt := 24) hx hb dX6_sumOf_6 (by decide) (fun c_1 => ?_) (fun c_1 => ?_)
      · skip
        replace c_1 := ge_n c_1
        refine lv_iload_n hx hb dX6_sumOf_24 rfl (lv_at hl 2 rfl) ?_
        exact end_pi hx hb hrt hlk (hres) dX6_sumOf_25
      · exact absurd c_1 (fun q => q (cnt_ge (N := 4) e3 rfl (by omega) (by omega)))
    | succ n ih4 =>
      intro j x2 x3 hj e3 hres  ls hl
      refine lv_iload_n hx hb dX6_sumOf_4 rfl (lv_at hl 3 rfl) ?_
      refine lv_iconst (v := 4) hx hb dX6_sumOf_5 (by decide) ?_
      refine lv_icmp_ge (tgt := 24) hx hb dX6_sumOf_6 (by decide) (fun c_2 => ?_) (fun c_2 => ?_)
      · exact absurd c_2 (cnt_nge (N := 4) e3 rfl (by omega) (by omega))
      · skip
        replace c_2 := nge_l c_2
        refine lv_iload_n hx hb dX6_sumOf_9 rfl (lv_at hl 2 rfl) ?_
        refine lv_aload_n hx hb dX6_sumOf_10 rfl (lv_at hl 0 rfl) ?_
        refine lv_iload_n hx hb dX6_sumOf_11 rfl (lv_at hl 3 rfl) ?_
        refine W_top (v' := .int (nI j)) (congrArg Value.int (e3)) ?_
        refine lv_iload_n hx hb dX6_sumOf_12 rfl (lv_at hl 1 rfl) ?_
        refine cs_p (runV (As := [.int (nI j), .int p0]) (rest := [.int x2]) ⟨hx, hb, hml, hown, hts⟩ (m_X6_of l D kA m0 m1 m2 m3 m4 m5 z h tx pt kp st len th wo rd nu du hs j w p0 (hp) (by omega) (by omega)) q_833 q_835 qp_23 q_7 q_836 hd_X6_of ⟨rfl, rfl⟩ ⟨Nat.le_of_ble_eq_true rfl, Nat.le_of_ble_eq_true rfl⟩ hK (ws := [(m0, .inr (6, [.ref m1, .int st, .ref m2, .int len, .ref m3, .int th, .int wo, .ref m4, .int rd, .int nu, .int du, .ref m5, .long hs])), (m1, .inl (kA 0, 148, .inl z)), (m2, .inl (kA 0, 888, .inl h)), (m3, .inl (kA 0, 60, .inl tx)), (m4, .inl (kA 0, 72, .inl pt)), (m5, .inl (kA 0, 148, .inl kp))]) (hP.sub [0, 1, 2, 3, 4, 5] rfl) (hD.sub [0, 1, 2, 3, 4, 5] (by decide) rfl) 0 (ci := 6) (C := RX6) (T := TX6) (N := 13) rfl rfl rfl hl.1 rfl (Nat.le_of_ble_eq_true rfl) dX6_sumOf_13 ⟨Nat.zero_le _, Nat.zero_le _⟩) ?_
        refine lv_iadd hx hb dX6_sumOf_16 ?_
        refine lv_istore_n (lv' := [(2, .int (x2 + (sl z j w))), (0, .ref m0), (1, .int p0), (3, .int x3)]) hx hb dX6_sumOf_17 rfl hl (by decide) rfl (fun ls hl => ?_)
        refine lv_iinc (v := x3 + 1) (lv' := [(3, .int (x3 + 1)), (2, .int (x2 + (sl z j w))), (0, .ref m0), (1, .int p0)]) hx hb dX6_sumOf_18 hl (k := 3) rfl (by first | rfl | exact congrArg (_ + ·) (by decide)) (by decide) rfl (fun ls hl => ?_)
        refine lv_goto (tgt := 4) hx hb dX6_sumOf_21 (by decide) ?_
        exact ih4 (j + 1) (x2 + (sl z j w)) (x3 + 1) (by omega) (by rw [e3]; exact nI_1 j) (by rw [← prop_lo (G := sl z j) hp hw]; exact hres) ls (lv_sub hl [2, 3, 1, 0] rfl)
  exact loop_4 4 0 0 0 (by omega) (nI_0.symm) (rfl) ls (lv_sub hl [2, 3, 1, 0] rfl)

theorem hd_X6_wearOf : yX6_wearOf.cls ≠ "java/lang/invoke/MethodHandle" ∧ yX6_wearOf.cls ≠ "java/lang/invoke/VarHandle" ∧ (parseMethodDescriptor yX6_wearOf.desc).map (fun d => d.parameters.length) = some 1 := by decide +kernel
set_option maxRecDepth 100000 in
set_option maxHeartbeats 4000000 in
theorem m_X6_wearOf (l : Launch) (D : va_G) (kA : Nat → Nat) (m0 : Nat) (m1 : Nat) (m2 : Nat) (m3 : Nat) (m4 : Nat) (m5 : Nat) (z : Nat → Int32) (h : Nat → Int32) (tx : Nat → Int32) (pt : Nat → Int32) (kp : Nat → Int32) (st : Int32) (len : Int32) (th : Int32) (wo : Int32) (rd : Int32) (nu : Int32) (du : Int32) (hs : Int64) (up : Bool) : Met l yX6_wearOf (Cond.code yX6_wearOf cX6_wearOf 5 (some .int) :: AW) ({ frames := 1, cells := 0, slots := 0, locals := 22 } : Room) (Pz [.ref m0, .int (bI up)] D (TY kA) [(m0, .inr (6, [.ref m1, .int st, .ref m2, .int len, .ref m3, .int th, .int wo, .ref m4, .int rd, .int nu, .int du, .ref m5, .long hs])), (m1, .inl (kA 0, 148, .inl z)), (m2, .inl (kA 0, 888, .inl h)), (m3, .inl (kA 0, 60, .inl tx)), (m4, .inl (kA 0, 72, .inl pt)), (m5, .inl (kA 0, 148, .inl kp))]) (pQ (some (.int (wfX z up)))) 0 0 (fun _ => False) := by
  refine MetZ (by decide +kernel) (Nat.le_of_ble_eq_true rfl) ?_
  intro p e s m below meth c ls hx hb hrt hts hown hml hlk hnm hP hK hD hS hl
  have hl : lv_has ls 5 [(0, .ref m0), (1, .int (bI up))] := hl
  refine lv_iconst (v := 0) hx hb dX6_wearOf_0 (by decide) ?_
  refine lv_istore_n (lv' := [(2, .int 0), (0, .ref m0), (1, .int (bI up))]) hx hb dX6_wearOf_1 rfl hl (by decide) rfl (fun ls hl => ?_)
  refine lv_iconst (v := 0) hx hb dX6_wearOf_2 (by decide) ?_
  refine lv_istore_n (lv' := [(3, .int 0), (2, .int 0), (0, .ref m0), (1, .int (bI up))]) hx hb dX6_wearOf_3 rfl hl (by decide) rfl (fun ls hl => ?_)
  have loop_4 : ∀ (n : Nat) (j : Nat) (x2 : Int32) (x3 : Int32) (hj : j + n = 96) (e3 : x3 = nI j) (hres : foldL (wfS z up) n j x2 = wfX z up), ∀ ls : Array Slot, lv_has ls 5 [(0, .ref m0), (1, .int (bI up)), (2, .int x2), (3, .int x3)] → W p l e ({ frames := 1, cells := 0, slots := 0, locals := 22 } : Room) s m [.ref m0, .int (bI up)].toArray below meth c s.heap [] 0 0 (MQ below (pQ (some (.int (wfX z up)))) [.ref m0, .int (bI up)].toArray s 0 0 (fun _ => False)) (F0 m 4 ls []) := by
    clear hl
    intro n
    induction n with
    | zero =>
      intro j x2 x3 hj e3 hres  ls hl
      refine lv_iload_n hx hb dX6_wearOf_4 rfl (lv_at hl 3 rfl) ?_
      refine lv_bipush (v := 96) hx hb dX6_wearOf_5 (by decide) ?_
      refine lv_icmp_ge (tgt := 61) hx hb dX6_wearOf_7 (by decide) (fun c_1 => ?_) (fun c_1 => ?_)
      · skip
        replace c_1 := ge_n c_1
        refine lv_iload_n hx hb dX6_wearOf_61 rfl (lv_at hl 2 rfl) ?_
        exact end_pi hx hb hrt hlk (hres) dX6_wearOf_62
      · exact absurd c_1 (fun q => q (cnt_ge (N := 96) e3 rfl (by omega) (by omega)))
    | succ n ih4 =>
      intro j x2 x3 hj e3 hres  ls hl
      refine lv_iload_n hx hb dX6_wearOf_4 rfl (lv_at hl 3 rfl) ?_
      refine lv_bipush (v := 96) hx hb dX6_wearOf_5 (by decide) ?_
      refine lv_icmp_ge (tgt := 61) hx hb dX6_wearOf_7 (by decide) (fun c_2 => ?_) (fun c_2 => ?_)
      · exact absurd c_2 (cnt_nge (N := 96) e3 rfl (by omega) (by omega))
      · skip
        replace c_2 := nge_l c_2
        refine lv_aload_n hx hb dX6_wearOf_10 rfl (lv_at hl 0 rfl) ?_
        refine lv_iload_n hx hb dX6_wearOf_11 rfl (lv_at hl 3 rfl) ?_
        refine lv_bipush (v := 24) hx hb dX6_wearOf_12 (by decide) ?_
        refine lv_idiv hx hb dX6_wearOf_14 (by decide) ?_
        refine W_top (v' := .int (nI (j / 24))) (congrArg Value.int (d24 e3 (by omega))) ?_
        refine lv_bipush (v := 11) hx hb dX6_wearOf_15 (by decide) ?_
        refine lv_iload_n hx hb dX6_wearOf_17 rfl (lv_at hl 3 rfl) ?_
        refine lv_bipush (v := 24) hx hb dX6_wearOf_18 (by decide) ?_
        refine lv_irem hx hb dX6_wearOf_20 (by decide) ?_
        refine lv_iadd hx hb dX6_wearOf_21 ?_
        refine cs_p (runV (As := [.int (nI (j / 24)), .int (11 + (x3 - x3 / 24 * 24))]) (rest := []) ⟨hx, hb, hml, hown, hts⟩ (m_X6_of_w l D kA m0 m1 m2 m3 m4 m5 z h tx pt kp st len th wo rd nu du hs (j / 24) (x3 - x3 / 24 * 24) (j % 24) (m24 e3 (by omega)) (by omega) (by omega)) q_833 q_835 qp_23 q_7 q_836 hd_X6_of ⟨rfl, rfl⟩ ⟨Nat.le_of_ble_eq_true rfl, Nat.le_of_ble_eq_true rfl⟩ hK (ws := [(m0, .inr (6, [.ref m1, .int st, .ref m2, .int len, .ref m3, .int th, .int wo, .ref m4, .int rd, .int nu, .int du, .ref m5, .long hs])), (m1, .inl (kA 0, 148, .inl z)), (m2, .inl (kA 0, 888, .inl h)), (m3, .inl (kA 0, 60, .inl tx)), (m4, .inl (kA 0, 72, .inl pt)), (m5, .inl (kA 0, 148, .inl kp))]) (hP.sub [0, 1, 2, 3, 4, 5] rfl) (hD.sub [0, 1, 2, 3, 4, 5] (by decide) rfl) 0 (ci := 6) (C := RX6) (T := TX6) (N := 13) rfl rfl rfl hl.1 rfl (Nat.le_of_ble_eq_true rfl) dX6_wearOf_22 ⟨Nat.zero_le _, Nat.zero_le _⟩) ?_
        refine lv_istore (lv' := [(4, .int (gwr (sl z (j / 24)) (x3 - x3 / 24 * 24))), (0, .ref m0), (1, .int (bI up)), (2, .int x2), (3, .int x3)]) hx hb dX6_wearOf_25 hl (by decide) rfl (fun ls hl => ?_)
        refine lv_iload_n hx hb dX6_wearOf_27 rfl (lv_at hl 3 rfl) ?_
        refine lv_iload_n hx hb dX6_wearOf_28 rfl (lv_at hl 2 rfl) ?_
        have jn_29_2 : ∀ v : Int32, v = (if up = true then if (gwr (sl z (j / 24)) (x3 - x3 / 24 * 24)) < (z 2) then 0 else 1 else gwr (sl z (j / 24)) (x3 - x3 / 24 * 24)) → W p l e ({ frames := 1, cells := 0, slots := 0, locals := 22 } : Room) s m [.ref m0, .int (bI up)].toArray below meth c s.heap [] 0 0 (MQ below (pQ (some (.int (wfX z up)))) [.ref m0, .int (bI up)].toArray s 0 0 (fun _ => False)) (F0 m 53 ls (.int v :: [.int x2])) := by
          intro v ev
          subst ev
          refine lv_iadd hx hb dX6_wearOf_53 ?_
          refine lv_istore_n (lv' := [(2, .int (x2 + (if up = true then if (gwr (sl z (j / 24)) (x3 - x3 / 24 * 24)) < (z 2) then 0 else 1 else gwr (sl z (j / 24)) (x3 - x3 / 24 * 24)))), (4, .int (gwr (sl z (j / 24)) (x3 - x3 / 24 * 24))), (0, .ref m0), (1, .int (bI up)), (3, .int x3)]) hx hb dX6_wearOf_54 rfl hl (by decide) rfl (fun ls hl => ?_)
          refine lv_iinc (v := x3 + 1) (lv' := [(3, .int (x3 + 1)), (2, .int (x2 + (if up = true then if (gwr (sl z (j / 24)) (x3 - x3 / 24 * 24)) < (z 2) then 0 else 1 else gwr (sl z (j / 24)) (x3 - x3 / 24 * 24)))), (4, .int (gwr (sl z (j / 24)) (x3 - x3 / 24 * 24))), (0, .ref m0), (1, .int (bI up))]) hx hb dX6_wearOf_55 hl (k := 4) rfl (by first | rfl | exact congrArg (_ + ·) (by decide)) (by decide) rfl (fun ls hl => ?_)
          refine lv_goto (tgt := 4) hx hb dX6_wearOf_58 (by decide) ?_
          exact ih4 (j + 1) (x2 + (if up = true then if (gwr (sl z (j / 24)) (x3 - x3 / 24 * 24)) < (z 2) then 0 else 1 else gwr (sl z (j / 24)) (x3 - x3 / 24 * 24))) (x3 + 1) (by omega) (by rw [e3]; exact nI_1 j) (by rw [m24 e3 (by omega)]; exact hres) ls (lv_sub hl [3, 4, 1, 0] rfl)
        refine lv_if_ne (tgt := 37) hx hb dX6_wearOf_29 (by decide) (fun c_4 => ?_) (fun c_4 => ?_)
        · skip
          replace c_4 := bI_n0 c_4
          refine lv_iload hx hb dX6_wearOf_37 (lv_at hl 0 rfl) ?_
          refine lv_aload_n hx hb dX6_wearOf_39 rfl (lv_at hl 1 rfl) ?_
          refine va_get (ci := 6) (v := .ref m1) (C := RX6) (T := TX6) (N := 13) hx hb hts inX6 hown hK hP 0 rfl rfl 0 (by decide) (hts _ q_770) (fun _ h9 => h9) rfl dX6_wearOf_40 ?_
          refine lv_iconst (v := 2) hx hb dX6_wearOf_43 (by decide) ?_
          refine va_iald (f := z) hx hb hK hP 1 0 rfl rfl (in_nI (j := 2) rfl (by omega) (by decide)) dX6_wearOf_44 ?_
          refine W_top (v' := .int (z 2)) rfl ?_
          refine lv_icmp_lt (tgt := 52) hx hb dX6_wearOf_45 (by decide) (fun c_5 => ?_) (fun c_5 => ?_)
          · skip
            refine lv_iconst (v := 0) hx hb dX6_wearOf_52 (by decide) ?_
            exact jn_29_2 _ (by rw [if_pos c_4, if_pos c_5])
          · skip
            refine lv_iconst (v := 1) hx hb dX6_wearOf_48 (by decide) ?_
            refine lv_goto (tgt := 53) hx hb dX6_wearOf_49 (by decide) ?_
            exact jn_29_2 _ (by rw [if_pos c_4, if_neg c_5])
        · skip
          replace c_4 := bI_0.mp c_4
          refine lv_iload hx hb dX6_wearOf_32 (lv_at hl 0 rfl) ?_
          refine lv_goto (tgt := 53) hx hb dX6_wearOf_34 (by decide) ?_
          exact jn_29_2 _ (by rw [if_neg (by rw [c_4]; decide)])
  exact loop_4 96 0 0 0 (by omega) (nI_0.symm) (wf_eq) ls (lv_sub hl [2, 3, 1, 0] rfl)

theorem hd_X6_rightAxes : yX6_rightAxes.cls ≠ "java/lang/invoke/MethodHandle" ∧ yX6_rightAxes.cls ≠ "java/lang/invoke/VarHandle" ∧ (parseMethodDescriptor yX6_rightAxes.desc).map (fun d => d.parameters.length) = some 0 := by decide +kernel
set_option maxRecDepth 100000 in
set_option maxHeartbeats 4000000 in
theorem m_X6_rightAxes (l : Launch) (D : va_G) (kA : Nat → Nat) (m0 : Nat) (m1 : Nat) (m2 : Nat) (m3 : Nat) (m4 : Nat) (m5 : Nat) (z : Nat → Int32) (h : Nat → Int32) (tx : Nat → Int32) (pt : Nat → Int32) (kp : Nat → Int32) (st : Int32) (len : Int32) (th : Int32) (wo : Int32) (rd : Int32) (nu : Int32) (du : Int32) (hs : Int64) : Met l yX6_rightAxes (Cond.code yX6_rightAxes cX6_rightAxes 3 (some .int) :: AW) ({ frames := 1, cells := 0, slots := 0, locals := 22 } : Room) (Pz [.ref m0] D (TY kA) [(m0, .inr (6, [.ref m1, .int st, .ref m2, .int len, .ref m3, .int th, .int wo, .ref m4, .int rd, .int nu, .int du, .ref m5, .long hs])), (m1, .inl (kA 0, 148, .inl z)), (m2, .inl (kA 0, 888, .inl h)), (m3, .inl (kA 0, 60, .inl tx)), (m4, .inl (kA 0, 72, .inl pt)), (m5, .inl (kA 0, 148, .inl kp))]) (pQ (some (.int (belX z)))) 0 0 (fun _ => False) := by
  refine MetZ (by decide +kernel) (Nat.le_of_ble_eq_true rfl) ?_
  intro p e s m below meth c ls hx hb hrt hts hown hml hlk hnm hP hK hD hS hl
  have hl : lv_has ls 3 [(0, .ref m0)] := hl
  refine lv_iconst (v := 0) hx hb dX6_rightAxes_0 (by decide) ?_
  refine lv_istore_n (lv' := [(1, .int 0), (0, .ref m0)]) hx hb dX6_rightAxes_1 rfl hl (by decide) rfl (fun ls hl => ?_)
  refine lv_iconst (v := 0) hx hb dX6_rightAxes_2 (by decide) ?_
  refine lv_istore_n (lv' := [(2, .int 0), (1, .int 0), (0, .ref m0)]) hx hb dX6_rightAxes_3 rfl hl (by decide) rfl (fun ls hl => ?_)
  have loop_4 : ∀ (n : Nat) (j : Nat) (x1 : Int32) (x2 : Int32) (hj : j + n = 4) (e3 : x2 = nI j) (hres : foldL (fun a s => if sl z a 0 = sl z a 1 then s + 1 else s) n j x1 = belX z), ∀ ls : Array Slot, lv_has ls 3 [(0, .ref m0), (1, .int x1), (2, .int x2)] → W p l e ({ frames := 1, cells := 0, slots := 0, locals := 22 } : Room) s m [.ref m0].toArray below meth c s.heap [] 0 0 (MQ below (pQ (some (.int (belX z)))) [.ref m0].toArray s 0 0 (fun _ => False)) (F0 m 4 ls []) := by
    clear hl
    intro n
    induction n with
    | zero =>
      intro j x1 x2 hj e3 hres  ls hl
      refine lv_iload_n hx hb dX6_rightAxes_4 rfl (lv_at hl 2 rfl) ?_
      refine lv_iconst (v := 4) hx hb dX6_rightAxes_5 (by decide) ?_
      refine lv_icmp_ge (tgt := 38) hx hb dX6_rightAxes_6 (by decide) (fun c_1 => ?_) (fun c_1 => ?_)
      · skip
        replace c_1 := ge_n c_1
        refine lv_iload_n hx hb dX6_rightAxes_38 rfl (lv_at hl 1 rfl) ?_
        exact end_pi hx hb hrt hlk (hres) dX6_rightAxes_39
      · exact absurd c_1 (fun q => q (cnt_ge (N := 4) e3 rfl (by omega) (by omega)))
    | succ n ih4 =>
      intro j x1 x2 hj e3 hres  ls hl
      refine lv_iload_n hx hb dX6_rightAxes_4 rfl (lv_at hl 2 rfl) ?_
      refine lv_iconst (v := 4) hx hb dX6_rightAxes_5 (by decide) ?_
      refine lv_icmp_ge (tgt := 38) hx hb dX6_rightAxes_6 (by decide) (fun c_2 => ?_) (fun c_2 => ?_)
      · exact absurd c_2 (cnt_nge (N := 4) e3 rfl (by omega) (by omega))
      · skip
        replace c_2 := nge_l c_2
        refine lv_iload_n hx hb dX6_rightAxes_9 rfl (lv_at hl 1 rfl) ?_
        refine lv_aload_n hx hb dX6_rightAxes_10 rfl (lv_at hl 0 rfl) ?_
        refine lv_iload_n hx hb dX6_rightAxes_11 rfl (lv_at hl 2 rfl) ?_
        refine W_top (v' := .int (nI j)) (congrArg Value.int (e3)) ?_
        refine lv_iconst (v := 0) hx hb dX6_rightAxes_12 (by decide) ?_
        refine cs_p (runV (As := [.int (nI j), .int 0]) (rest := [.int x1]) ⟨hx, hb, hml, hown, hts⟩ (m_X6_of l D kA m0 m1 m2 m3 m4 m5 z h tx pt kp st len th wo rd nu du hs j 0 0 (rfl) (by omega) (by omega)) q_833 q_835 qp_23 q_7 q_836 hd_X6_of ⟨rfl, rfl⟩ ⟨Nat.le_of_ble_eq_true rfl, Nat.le_of_ble_eq_true rfl⟩ hK (ws := [(m0, .inr (6, [.ref m1, .int st, .ref m2, .int len, .ref m3, .int th, .int wo, .ref m4, .int rd, .int nu, .int du, .ref m5, .long hs])), (m1, .inl (kA 0, 148, .inl z)), (m2, .inl (kA 0, 888, .inl h)), (m3, .inl (kA 0, 60, .inl tx)), (m4, .inl (kA 0, 72, .inl pt)), (m5, .inl (kA 0, 148, .inl kp))]) (hP.sub [0, 1, 2, 3, 4, 5] rfl) (hD.sub [0, 1, 2, 3, 4, 5] (by decide) rfl) 0 (ci := 6) (C := RX6) (T := TX6) (N := 13) rfl rfl rfl hl.1 rfl (Nat.le_of_ble_eq_true rfl) dX6_rightAxes_13 ⟨Nat.zero_le _, Nat.zero_le _⟩) ?_
        refine lv_aload_n hx hb dX6_rightAxes_16 rfl (lv_at hl 0 rfl) ?_
        refine lv_iload_n hx hb dX6_rightAxes_17 rfl (lv_at hl 2 rfl) ?_
        refine W_top (v' := .int (nI j)) (congrArg Value.int (e3)) ?_
        refine lv_iconst (v := 1) hx hb dX6_rightAxes_18 (by decide) ?_
        refine cs_p (runV (As := [.int (nI j), .int 1]) (rest := [.int (sl z j 0), .int x1]) ⟨hx, hb, hml, hown, hts⟩ (m_X6_of l D kA m0 m1 m2 m3 m4 m5 z h tx pt kp st len th wo rd nu du hs j 1 1 (rfl) (by omega) (by omega)) q_833 q_835 qp_23 q_7 q_836 hd_X6_of ⟨rfl, rfl⟩ ⟨Nat.le_of_ble_eq_true rfl, Nat.le_of_ble_eq_true rfl⟩ hK (ws := [(m0, .inr (6, [.ref m1, .int st, .ref m2, .int len, .ref m3, .int th, .int wo, .ref m4, .int rd, .int nu, .int du, .ref m5, .long hs])), (m1, .inl (kA 0, 148, .inl z)), (m2, .inl (kA 0, 888, .inl h)), (m3, .inl (kA 0, 60, .inl tx)), (m4, .inl (kA 0, 72, .inl pt)), (m5, .inl (kA 0, 148, .inl kp))]) (hP.sub [0, 1, 2, 3, 4, 5] rfl) (hD.sub [0, 1, 2, 3, 4, 5] (by decide) rfl) 0 (ci := 6) (C := RX6) (T := TX6) (N := 13) rfl rfl rfl hl.1 rfl (Nat.le_of_ble_eq_true rfl) dX6_rightAxes_19 ⟨Nat.zero_le _, Nat.zero_le _⟩) ?_
        have jn_22_2 : ∀ v : Int32, v = (if (sl z j 0) = (sl z j 1) then 1 else 0) → W p l e ({ frames := 1, cells := 0, slots := 0, locals := 22 } : Room) s m [.ref m0].toArray below meth c s.heap [] 0 0 (MQ below (pQ (some (.int (belX z)))) [.ref m0].toArray s 0 0 (fun _ => False)) (F0 m 30 ls (.int v :: [.int x1])) := by
          intro v ev
          subst ev
          refine lv_iadd hx hb dX6_rightAxes_30 ?_
          refine lv_istore_n (lv' := [(1, .int (x1 + (if (sl z j 0) = (sl z j 1) then 1 else 0))), (0, .ref m0), (2, .int x2)]) hx hb dX6_rightAxes_31 rfl hl (by decide) rfl (fun ls hl => ?_)
          refine lv_iinc (v := x2 + 1) (lv' := [(2, .int (x2 + 1)), (1, .int (x1 + (if (sl z j 0) = (sl z j 1) then 1 else 0))), (0, .ref m0)]) hx hb dX6_rightAxes_32 hl (k := 2) rfl (by first | rfl | exact congrArg (_ + ·) (by decide)) (by decide) rfl (fun ls hl => ?_)
          refine lv_goto (tgt := 4) hx hb dX6_rightAxes_35 (by decide) ?_
          exact ih4 (j + 1) (x1 + (if (sl z j 0) = (sl z j 1) then 1 else 0)) (x2 + 1) (by omega) (by rw [e3]; exact nI_1 j) (by rw [show x1 + (if sl z j 0 = sl z j 1 then 1 else 0) = if sl z j 0 = sl z j 1 then x1 + 1 else x1 by split <;> first | rfl | exact add0 _]; exact hres) ls (lv_sub hl [2, 1, 0] rfl)
        refine lv_icmp_ne (tgt := 29) hx hb dX6_rightAxes_22 (by decide) (fun c_4 => ?_) (fun c_4 => ?_)
        · skip
          refine lv_iconst (v := 0) hx hb dX6_rightAxes_29 (by decide) ?_
          exact jn_22_2 _ (by rw [if_neg c_4])
        · skip
          refine lv_iconst (v := 1) hx hb dX6_rightAxes_25 (by decide) ?_
          refine lv_goto (tgt := 30) hx hb dX6_rightAxes_26 (by decide) ?_
          exact jn_22_2 _ (by rw [if_pos c_4])
  exact loop_4 4 0 0 0 (by omega) (nI_0.symm) (rfl) ls (lv_sub hl [2, 1, 0] rfl)

theorem hd_X6_counted : yX6_counted.cls ≠ "java/lang/invoke/MethodHandle" ∧ yX6_counted.cls ≠ "java/lang/invoke/VarHandle" ∧ (parseMethodDescriptor yX6_counted.desc).map (fun d => d.parameters.length) = some 1 := by decide +kernel
set_option maxRecDepth 100000 in
set_option maxHeartbeats 4000000 in
theorem m_X6_counted (l : Launch) (D : va_G) (kA : Nat → Nat) (m0 : Nat) (m1 : Nat) (m2 : Nat) (m3 : Nat) (m4 : Nat) (m5 : Nat) (z : Nat → Int32) (h : Nat → Int32) (tx : Nat → Int32) (pt : Nat → Int32) (kp : Nat → Int32) (st : Int32) (len : Int32) (th : Int32) (wo : Int32) (rd : Int32) (nu : Int32) (du : Int32) (hs : Int64) (p0 : Int32) : Met l yX6_counted (Cond.code yX6_counted cX6_counted 2 (some .int) :: AW) ({ frames := 2, cells := 0, slots := 0, locals := 46 } : Room) (Pz [.ref m0, .int p0] D (TY kA) [(m0, .inr (6, [.ref m1, .int st, .ref m2, .int len, .ref m3, .int th, .int wo, .ref m4, .int rd, .int nu, .int du, .ref m5, .long hs])), (m1, .inl (kA 0, 148, .inl z)), (m2, .inl (kA 0, 888, .inl h)), (m3, .inl (kA 0, 60, .inl tx)), (m4, .inl (kA 0, 72, .inl pt)), (m5, .inl (kA 0, 148, .inl kp))]) (pQ (some (.int (coM z st p0)))) 0 0 (fun _ => False) := by
  refine MetZ (by decide +kernel) (Nat.le_of_ble_eq_true rfl) ?_
  intro p e s m below meth c ls hx hb hrt hts hown hml hlk hnm hP hK hD hS hl
  have hl : lv_has ls 2 [(0, .ref m0), (1, .int p0)] := hl
  refine lv_iload_n hx hb dX6_counted_0 rfl (lv_at hl 1 rfl) ?_
  by_cases c_1 : p0 = 0
  · skip
    refine lv_tableIn (off := 47) (tgt := 48) hx hb dX6_counted_1 (by rw [c_1]; decide) (by rw [c_1]; decide) (by rw [c_1]; decide +kernel) (by decide) ?_
    refine lv_aload_n hx hb dX6_counted_48 rfl (lv_at hl 0 rfl) ?_
    refine va_get (ci := 6) (v := .ref m1) (C := RX6) (T := TX6) (N := 13) hx hb hts inX6 hown hK hP 0 rfl rfl 0 (by decide) (hts _ q_770) (fun _ h9 => h9) rfl dX6_counted_49 ?_
    refine lv_bipush (v := 6) hx hb dX6_counted_52 (by decide) ?_
    refine va_iald (f := z) hx hb hK hP 1 0 rfl rfl (in_nI (j := 6) rfl (by omega) (by decide)) dX6_counted_54 ?_
    refine W_top (v' := .int (z 6)) rfl ?_
    exact end_pi hx hb hrt hlk (by rw [coM, if_pos c_1]) dX6_counted_55
  by_cases c_2 : p0 = 1
  · skip
    refine lv_tableIn (off := 55) (tgt := 56) hx hb dX6_counted_1 (by rw [c_2]; decide) (by rw [c_2]; decide) (by rw [c_2]; decide +kernel) (by decide) ?_
    refine lv_aload_n hx hb dX6_counted_56 rfl (lv_at hl 0 rfl) ?_
    refine lv_bipush (v := 6) hx hb dX6_counted_57 (by decide) ?_
    refine cs_p (runV (As := [.int 6]) (rest := []) ⟨hx, hb, hml, hown, hts⟩ (m_X6_sumOf l D kA m0 m1 m2 m3 m4 m5 z h tx pt kp st len th wo rd nu du hs 6 6 (rfl) (by omega)) q_1015 q_1017 qp_50 q_7 q_1018 hd_X6_sumOf ⟨rfl, rfl⟩ ⟨Nat.le_of_ble_eq_true rfl, Nat.le_of_ble_eq_true rfl⟩ hK (ws := [(m0, .inr (6, [.ref m1, .int st, .ref m2, .int len, .ref m3, .int th, .int wo, .ref m4, .int rd, .int nu, .int du, .ref m5, .long hs])), (m1, .inl (kA 0, 148, .inl z)), (m2, .inl (kA 0, 888, .inl h)), (m3, .inl (kA 0, 60, .inl tx)), (m4, .inl (kA 0, 72, .inl pt)), (m5, .inl (kA 0, 148, .inl kp))]) (hP.sub [0, 1, 2, 3, 4, 5] rfl) (hD.sub [0, 1, 2, 3, 4, 5] (by decide) rfl) 0 (ci := 6) (C := RX6) (T := TX6) (N := 13) rfl rfl rfl hl.1 rfl (Nat.le_of_ble_eq_true rfl) dX6_counted_59 ⟨Nat.zero_le _, Nat.zero_le _⟩) ?_
    exact end_pi hx hb hrt hlk (by rw [coM, if_neg c_1, if_pos c_2]) dX6_counted_62
  by_cases c_3 : p0 = 2
  · skip
    refine lv_tableIn (off := 62) (tgt := 63) hx hb dX6_counted_1 (by rw [c_3]; decide) (by rw [c_3]; decide) (by rw [c_3]; decide +kernel) (by decide) ?_
    refine lv_aload_n hx hb dX6_counted_63 rfl (lv_at hl 0 rfl) ?_
    refine lv_bipush (v := 8) hx hb dX6_counted_64 (by decide) ?_
    refine cs_p (runV (As := [.int 8]) (rest := []) ⟨hx, hb, hml, hown, hts⟩ (m_X6_sumOf l D kA m0 m1 m2 m3 m4 m5 z h tx pt kp st len th wo rd nu du hs 8 8 (rfl) (by omega)) q_1015 q_1017 qp_50 q_7 q_1018 hd_X6_sumOf ⟨rfl, rfl⟩ ⟨Nat.le_of_ble_eq_true rfl, Nat.le_of_ble_eq_true rfl⟩ hK (ws := [(m0, .inr (6, [.ref m1, .int st, .ref m2, .int len, .ref m3, .int th, .int wo, .ref m4, .int rd, .int nu, .int du, .ref m5, .long hs])), (m1, .inl (kA 0, 148, .inl z)), (m2, .inl (kA 0, 888, .inl h)), (m3, .inl (kA 0, 60, .inl tx)), (m4, .inl (kA 0, 72, .inl pt)), (m5, .inl (kA 0, 148, .inl kp))]) (hP.sub [0, 1, 2, 3, 4, 5] rfl) (hD.sub [0, 1, 2, 3, 4, 5] (by decide) rfl) 0 (ci := 6) (C := RX6) (T := TX6) (N := 13) rfl rfl rfl hl.1 rfl (Nat.le_of_ble_eq_true rfl) dX6_counted_66 ⟨Nat.zero_le _, Nat.zero_le _⟩) ?_
    exact end_pi hx hb hrt hlk (by rw [coM, if_neg c_1, if_neg c_2, if_pos c_3]) dX6_counted_69
  by_cases c_4 : p0 = 3
  · skip
    refine lv_tableIn (off := 69) (tgt := 70) hx hb dX6_counted_1 (by rw [c_4]; decide) (by rw [c_4]; decide) (by rw [c_4]; decide +kernel) (by decide) ?_
    refine lv_aload_n hx hb dX6_counted_70 rfl (lv_at hl 0 rfl) ?_
    refine lv_bipush (v := 7) hx hb dX6_counted_71 (by decide) ?_
    refine cs_p (runV (As := [.int 7]) (rest := []) ⟨hx, hb, hml, hown, hts⟩ (m_X6_sumOf l D kA m0 m1 m2 m3 m4 m5 z h tx pt kp st len th wo rd nu du hs 7 7 (rfl) (by omega)) q_1015 q_1017 qp_50 q_7 q_1018 hd_X6_sumOf ⟨rfl, rfl⟩ ⟨Nat.le_of_ble_eq_true rfl, Nat.le_of_ble_eq_true rfl⟩ hK (ws := [(m0, .inr (6, [.ref m1, .int st, .ref m2, .int len, .ref m3, .int th, .int wo, .ref m4, .int rd, .int nu, .int du, .ref m5, .long hs])), (m1, .inl (kA 0, 148, .inl z)), (m2, .inl (kA 0, 888, .inl h)), (m3, .inl (kA 0, 60, .inl tx)), (m4, .inl (kA 0, 72, .inl pt)), (m5, .inl (kA 0, 148, .inl kp))]) (hP.sub [0, 1, 2, 3, 4, 5] rfl) (hD.sub [0, 1, 2, 3, 4, 5] (by decide) rfl) 0 (ci := 6) (C := RX6) (T := TX6) (N := 13) rfl rfl rfl hl.1 rfl (Nat.le_of_ble_eq_true rfl) dX6_counted_73 ⟨Nat.zero_le _, Nat.zero_le _⟩) ?_
    exact end_pi hx hb hrt hlk (by rw [coM, if_neg c_1, if_neg c_2, if_neg c_3, if_pos c_4]) dX6_counted_76
  by_cases c_5 : p0 = 4
  · skip
    refine lv_tableIn (off := 76) (tgt := 77) hx hb dX6_counted_1 (by rw [c_5]; decide) (by rw [c_5]; decide) (by rw [c_5]; decide +kernel) (by decide) ?_
    refine lv_aload_n hx hb dX6_counted_77 rfl (lv_at hl 0 rfl) ?_
    refine va_get (ci := 6) (v := .ref m1) (C := RX6) (T := TX6) (N := 13) hx hb hts inX6 hown hK hP 0 rfl rfl 0 (by decide) (hts _ q_770) (fun _ h9 => h9) rfl dX6_counted_78 ?_
    refine lv_bipush (v := 7) hx hb dX6_counted_81 (by decide) ?_
    refine va_iald (f := z) hx hb hK hP 1 0 rfl rfl (in_nI (j := 7) rfl (by omega) (by decide)) dX6_counted_83 ?_
    refine W_top (v' := .int (z 7)) rfl ?_
    exact end_pi hx hb hrt hlk (by rw [coM, if_neg c_1, if_neg c_2, if_neg c_3, if_neg c_4, if_pos c_5]) dX6_counted_84
  by_cases c_6 : p0 = 5
  · skip
    refine lv_tableIn (off := 84) (tgt := 85) hx hb dX6_counted_1 (by rw [c_6]; decide) (by rw [c_6]; decide) (by rw [c_6]; decide +kernel) (by decide) ?_
    refine lv_aload_n hx hb dX6_counted_85 rfl (lv_at hl 0 rfl) ?_
    refine lv_iconst (v := 0) hx hb dX6_counted_86 (by decide) ?_
    refine cs_p (runV (As := [.int (bI false)]) (rest := []) ⟨hx, hb, hml, hown, hts⟩ (m_X6_wearOf l D kA m0 m1 m2 m3 m4 m5 z h tx pt kp st len th wo rd nu du hs false ) q_1019 q_1021 qp_51 q_7 q_1022 hd_X6_wearOf ⟨rfl, rfl⟩ ⟨Nat.le_of_ble_eq_true rfl, Nat.le_of_ble_eq_true rfl⟩ hK (ws := [(m0, .inr (6, [.ref m1, .int st, .ref m2, .int len, .ref m3, .int th, .int wo, .ref m4, .int rd, .int nu, .int du, .ref m5, .long hs])), (m1, .inl (kA 0, 148, .inl z)), (m2, .inl (kA 0, 888, .inl h)), (m3, .inl (kA 0, 60, .inl tx)), (m4, .inl (kA 0, 72, .inl pt)), (m5, .inl (kA 0, 148, .inl kp))]) (hP.sub [0, 1, 2, 3, 4, 5] rfl) (hD.sub [0, 1, 2, 3, 4, 5] (by decide) rfl) 0 (ci := 6) (C := RX6) (T := TX6) (N := 13) rfl rfl rfl hl.1 rfl (Nat.le_of_ble_eq_true rfl) dX6_counted_87 ⟨Nat.zero_le _, Nat.zero_le _⟩) ?_
    exact end_pi hx hb hrt hlk (by rw [coM, if_neg c_1, if_neg c_2, if_neg c_3, if_neg c_4, if_neg c_5, if_pos c_6]; rfl) dX6_counted_90
  by_cases c_7 : p0 = 6
  · skip
    refine lv_tableIn (off := 90) (tgt := 91) hx hb dX6_counted_1 (by rw [c_7]; decide) (by rw [c_7]; decide) (by rw [c_7]; decide +kernel) (by decide) ?_
    refine lv_aload_n hx hb dX6_counted_91 rfl (lv_at hl 0 rfl) ?_
    refine lv_iconst (v := 1) hx hb dX6_counted_92 (by decide) ?_
    refine cs_p (runV (As := [.int (bI true)]) (rest := []) ⟨hx, hb, hml, hown, hts⟩ (m_X6_wearOf l D kA m0 m1 m2 m3 m4 m5 z h tx pt kp st len th wo rd nu du hs true ) q_1019 q_1021 qp_51 q_7 q_1022 hd_X6_wearOf ⟨rfl, rfl⟩ ⟨Nat.le_of_ble_eq_true rfl, Nat.le_of_ble_eq_true rfl⟩ hK (ws := [(m0, .inr (6, [.ref m1, .int st, .ref m2, .int len, .ref m3, .int th, .int wo, .ref m4, .int rd, .int nu, .int du, .ref m5, .long hs])), (m1, .inl (kA 0, 148, .inl z)), (m2, .inl (kA 0, 888, .inl h)), (m3, .inl (kA 0, 60, .inl tx)), (m4, .inl (kA 0, 72, .inl pt)), (m5, .inl (kA 0, 148, .inl kp))]) (hP.sub [0, 1, 2, 3, 4, 5] rfl) (hD.sub [0, 1, 2, 3, 4, 5] (by decide) rfl) 0 (ci := 6) (C := RX6) (T := TX6) (N := 13) rfl rfl rfl hl.1 rfl (Nat.le_of_ble_eq_true rfl) dX6_counted_93 ⟨Nat.zero_le _, Nat.zero_le _⟩) ?_
    exact end_pi hx hb hrt hlk (by rw [coM, if_neg c_1, if_neg c_2, if_neg c_3, if_neg c_4, if_neg c_5, if_neg c_6, if_pos c_7]; rfl) dX6_counted_96
  by_cases c_8 : p0 = 7
  · skip
    refine lv_tableIn (off := 96) (tgt := 97) hx hb dX6_counted_1 (by rw [c_8]; decide) (by rw [c_8]; decide) (by rw [c_8]; decide +kernel) (by decide) ?_
    refine lv_aload_n hx hb dX6_counted_97 rfl (lv_at hl 0 rfl) ?_
    refine cs_p (runV (As := []) (rest := []) ⟨hx, hb, hml, hown, hts⟩ (m_X6_rightAxes l D kA m0 m1 m2 m3 m4 m5 z h tx pt kp st len th wo rd nu du hs ) q_1023 q_1025 qp_52 q_7 q_1026 hd_X6_rightAxes ⟨rfl, rfl⟩ ⟨Nat.le_of_ble_eq_true rfl, Nat.le_of_ble_eq_true rfl⟩ hK (ws := [(m0, .inr (6, [.ref m1, .int st, .ref m2, .int len, .ref m3, .int th, .int wo, .ref m4, .int rd, .int nu, .int du, .ref m5, .long hs])), (m1, .inl (kA 0, 148, .inl z)), (m2, .inl (kA 0, 888, .inl h)), (m3, .inl (kA 0, 60, .inl tx)), (m4, .inl (kA 0, 72, .inl pt)), (m5, .inl (kA 0, 148, .inl kp))]) (hP.sub [0, 1, 2, 3, 4, 5] rfl) (hD.sub [0, 1, 2, 3, 4, 5] (by decide) rfl) 0 (ci := 6) (C := RX6) (T := TX6) (N := 13) rfl rfl rfl hl.1 rfl (Nat.le_of_ble_eq_true rfl) dX6_counted_98 ⟨Nat.zero_le _, Nat.zero_le _⟩) ?_
    exact end_pi hx hb hrt hlk (by rw [coM, if_neg c_1, if_neg c_2, if_neg c_3, if_neg c_4, if_neg c_5, if_neg c_6, if_neg c_7, if_pos c_8]) dX6_counted_101
  refine lv_tableOut (tgt := 102) hx hb dX6_counted_1 (sw_out 0 7 (by intro k h1 h2; rcases (show k = 0 ∨ k = 1 ∨ k = 2 ∨ k = 3 ∨ k = 4 ∨ k = 5 ∨ k = 6 ∨ k = 7 by omega) with rfl | rfl | rfl | rfl | rfl | rfl | rfl | rfl <;> first | exact lv_neT c_1 (by decide) | exact lv_neT c_2 (by decide) | exact lv_neT c_3 (by decide) | exact lv_neT c_4 (by decide) | exact lv_neT c_5 (by decide) | exact lv_neT c_6 (by decide) | exact lv_neT c_7 (by decide) | exact lv_neT c_8 (by decide))) (by decide) ?_
  refine lv_aload_n hx hb dX6_counted_102 rfl (lv_at hl 0 rfl) ?_
  refine va_get (ci := 6) (v := .int st) (C := RX6) (T := TX6) (N := 13) hx hb hts inX6 hown hK hP 0 rfl rfl 1 (by decide) (hts _ q_771) (fun _ h9 => h9) rfl dX6_counted_103 ?_
  exact end_pi hx hb hrt hlk (by rw [coM, if_neg c_1, if_neg c_2, if_neg c_3, if_neg c_4, if_neg c_5, if_neg c_6, if_neg c_7, if_neg c_8]) dX6_counted_106

theorem hd_X6_count : yX6_count.cls ≠ "java/lang/invoke/MethodHandle" ∧ yX6_count.cls ≠ "java/lang/invoke/VarHandle" ∧ (parseMethodDescriptor yX6_count.desc).map (fun d => d.parameters.length) = some 1 := by decide +kernel
set_option maxRecDepth 100000 in
set_option maxHeartbeats 4000000 in
theorem m_X6_count (l : Launch) (D : va_G) (kA : Nat → Nat) (m0 : Nat) (m1 : Nat) (m2 : Nat) (m3 : Nat) (m4 : Nat) (m5 : Nat) (z : Nat → Int32) (h : Nat → Int32) (tx : Nat → Int32) (pt : Nat → Int32) (kp : Nat → Int32) (st : Int32) (len : Int32) (th : Int32) (wo : Int32) (rd : Int32) (nu : Int32) (du : Int32) (hs : Int64) (p0 : Int32) : Met l yX6_count (Cond.code yX6_count cX6_count 2 (some .int) :: AW) ({ frames := 3, cells := 0, slots := 0, locals := 67 } : Room) (Pz [.ref m0, .int p0] D (TY kA) [(m0, .inr (6, [.ref m1, .int st, .ref m2, .int len, .ref m3, .int th, .int wo, .ref m4, .int rd, .int nu, .int du, .ref m5, .long hs])), (m1, .inl (kA 0, 148, .inl z)), (m2, .inl (kA 0, 888, .inl h)), (m3, .inl (kA 0, 60, .inl tx)), (m4, .inl (kA 0, 72, .inl pt)), (m5, .inl (kA 0, 148, .inl kp))]) (fQ (some (.int (if couT p0 = 0 then coM z st p0 else 0))) D [(m0, .inr (6, [.ref m1, .int st, .ref m2, .int len, .ref m3, .int th, .int wo, .ref m4, .int rd, .int nu, .int du, .ref m5, .long hs])), (m1, .inl (kA 0, 148, .inl z)), (m2, .inl (kA 0, 888, .inl h)), (m3, .inl (kA 0, 60, .inl tx)), (m4, .inl (kA 0, 72, .inl pt)), (m5, .inl (kA 0, 148, .inl kp))] [(m0, .inr (6, [.ref m1, .int st, .ref m2, .int len, .ref m3, .int (couT p0), .int wo, .ref m4, .int rd, .int nu, .int du, .ref m5, .long hs])), (m1, .inl (kA 0, 148, .inl z)), (m2, .inl (kA 0, 888, .inl h)), (m3, .inl (kA 0, 60, .inl tx)), (m4, .inl (kA 0, 72, .inl pt)), (m5, .inl (kA 0, 148, .inl kp))]) 0 0 (Aw [(m0, .inr (6, [.ref m1, .int st, .ref m2, .int len, .ref m3, .int th, .int wo, .ref m4, .int rd, .int nu, .int du, .ref m5, .long hs])), (m1, .inl (kA 0, 148, .inl z)), (m2, .inl (kA 0, 888, .inl h)), (m3, .inl (kA 0, 60, .inl tx)), (m4, .inl (kA 0, 72, .inl pt)), (m5, .inl (kA 0, 148, .inl kp))]) := by
  refine MetZ (by decide +kernel) (Nat.le_of_ble_eq_true rfl) ?_
  intro p e s m below meth c ls hx hb hrt hts hown hml hlk hnm hP hK hD hS hl
  have hl : lv_has ls 2 [(0, .ref m0), (1, .int p0)] := hl
  refine lv_aload_n hx hb dX6_count_0 rfl (lv_at hl 0 rfl) ?_
  refine lv_iload_n hx hb dX6_count_1 rfl (lv_at hl 1 rfl) ?_
  refine lv_iconst (v := 0) hx hb dX6_count_2 (by decide) ?_
  refine lv_bipush (v := 8) hx hb dX6_count_3 (by decide) ?_
  refine cs_p (runS (As := [.int p0, .int 0, .int 8]) (rest := [.ref m0]) ⟨hx, hb, hml, hown, hts⟩ (m_X6_within l D kA p0 0 8 ) q_818 q_819 q_7 q_820 hd_X6_within ⟨rfl, rfl⟩ ⟨Nat.le_of_ble_eq_true rfl, Nat.le_of_ble_eq_true rfl⟩ hK (ws := []) (hP.sub [] rfl) (hD.sub [] (by decide) rfl) rfl hl.1 rfl (Nat.le_of_ble_eq_true rfl) dX6_count_5 ⟨Nat.zero_le _, Nat.zero_le _⟩) ?_
  refine lv_if_eq (tgt := 15) hx hb dX6_count_8 (by decide) (fun c_1 => ?_) (fun c_1 => ?_)
  · skip
    replace c_1 := bI_0.mp c_1
    refine lv_iconst (v := 1) hx hb dX6_count_15 (by decide) ?_
    refine va_put (ci := 6) (v := .int 1) (ty := tyX6 5) (C := RX6) (T := TX6) (N := 13) hx hb hts inX6 tyX6 tyX6_ok nmX6 hown hK hP hD hS 0 rfl rfl 5 (by decide) (hts _ q_775) (fun _ h9 => h9) rfl (tyX6_ok 5 (by decide)) rfl rfl (Nat.le_of_ble_eq_true rfl) dX6_count_16 (fun H locs hP hD hS => ?_)
    have hP : va_P D vwCl [(m0, .inr (6, [.ref m1, .int st, .ref m2, .int len, .ref m3, .int 1, .int wo, .ref m4, .int rd, .int nu, .int du, .ref m5, .long hs])), (m1, .inl (kA 0, 148, .inl z)), (m2, .inl (kA 0, 888, .inl h)), (m3, .inl (kA 0, 60, .inl tx)), (m4, .inl (kA 0, 72, .inl pt)), (m5, .inl (kA 0, 148, .inl kp))] H := hP
    have hD : va_D (Aw [(m0, .inr (6, [.ref m1, .int st, .ref m2, .int len, .ref m3, .int th, .int wo, .ref m4, .int rd, .int nu, .int du, .ref m5, .long hs])), (m1, .inl (kA 0, 148, .inl z)), (m2, .inl (kA 0, 888, .inl h)), (m3, .inl (kA 0, 60, .inl tx)), (m4, .inl (kA 0, 72, .inl pt)), (m5, .inl (kA 0, 148, .inl kp))]) [(m0, .inr (6, [.ref m1, .int st, .ref m2, .int len, .ref m3, .int 1, .int wo, .ref m4, .int rd, .int nu, .int du, .ref m5, .long hs])), (m1, .inl (kA 0, 148, .inl z)), (m2, .inl (kA 0, 888, .inl h)), (m3, .inl (kA 0, 60, .inl tx)), (m4, .inl (kA 0, 72, .inl pt)), (m5, .inl (kA 0, 148, .inl kp))] := hD
    refine lv_aload_n hx hb dX6_count_19 rfl (lv_at hl 0 rfl) ?_
    refine va_get (ci := 6) (v := .int 1) (C := RX6) (T := TX6) (N := 13) hx hb hts inX6 hown hK hP 0 rfl rfl 5 (by decide) (hts _ q_775) (fun _ h9 => h9) rfl dX6_count_20 ?_
    refine lv_if_le (tgt := 30) hx hb dX6_count_23 (by decide) (fun c_2 => ?_) (fun c_2 => ?_)
    · exact absurd c_2 (by decide)
    · skip
      replace c_2 := nge_l c_2
      refine lv_iconst (v := 0) hx hb dX6_count_26 (by decide) ?_
      refine lv_goto (tgt := 35) hx hb dX6_count_27 (by decide) ?_
      have hP : va_P D vwCl [(m0, .inr (6, [.ref m1, .int st, .ref m2, .int len, .ref m3, .int 1, .int wo, .ref m4, .int rd, .int nu, .int du, .ref m5, .long hs])), (m1, .inl (kA 0, 148, .inl z)), (m2, .inl (kA 0, 888, .inl h)), (m3, .inl (kA 0, 60, .inl tx)), (m4, .inl (kA 0, 72, .inl pt)), (m5, .inl (kA 0, 148, .inl kp))] _ := hP.sub [0, 1, 2, 3, 4, 5] rfl
      exact end_fi hx hb hrt hlk hP hS (by have hT : couT p0 = 1 := (by rw [couT, if_neg (by rw [c_1]; decide)]); rw [hT, if_neg (by decide)]) (fun hq => by have hT : couT p0 = 1 := (by rw [couT, if_neg (by rw [c_1]; decide)]); rw [hT]; exact hq) dX6_count_35
  · skip
    replace c_1 := bI_n0 c_1
    refine lv_iconst (v := 0) hx hb dX6_count_11 (by decide) ?_
    refine lv_goto (tgt := 16) hx hb dX6_count_12 (by decide) ?_
    refine va_put (ci := 6) (v := .int 0) (ty := tyX6 5) (C := RX6) (T := TX6) (N := 13) hx hb hts inX6 tyX6 tyX6_ok nmX6 hown hK hP hD hS 0 rfl rfl 5 (by decide) (hts _ q_775) (fun _ h9 => h9) rfl (tyX6_ok 5 (by decide)) rfl rfl (Nat.le_of_ble_eq_true rfl) dX6_count_16 (fun H locs hP hD hS => ?_)
    have hP : va_P D vwCl [(m0, .inr (6, [.ref m1, .int st, .ref m2, .int len, .ref m3, .int 0, .int wo, .ref m4, .int rd, .int nu, .int du, .ref m5, .long hs])), (m1, .inl (kA 0, 148, .inl z)), (m2, .inl (kA 0, 888, .inl h)), (m3, .inl (kA 0, 60, .inl tx)), (m4, .inl (kA 0, 72, .inl pt)), (m5, .inl (kA 0, 148, .inl kp))] H := hP
    have hD : va_D (Aw [(m0, .inr (6, [.ref m1, .int st, .ref m2, .int len, .ref m3, .int th, .int wo, .ref m4, .int rd, .int nu, .int du, .ref m5, .long hs])), (m1, .inl (kA 0, 148, .inl z)), (m2, .inl (kA 0, 888, .inl h)), (m3, .inl (kA 0, 60, .inl tx)), (m4, .inl (kA 0, 72, .inl pt)), (m5, .inl (kA 0, 148, .inl kp))]) [(m0, .inr (6, [.ref m1, .int st, .ref m2, .int len, .ref m3, .int 0, .int wo, .ref m4, .int rd, .int nu, .int du, .ref m5, .long hs])), (m1, .inl (kA 0, 148, .inl z)), (m2, .inl (kA 0, 888, .inl h)), (m3, .inl (kA 0, 60, .inl tx)), (m4, .inl (kA 0, 72, .inl pt)), (m5, .inl (kA 0, 148, .inl kp))] := hD
    refine lv_aload_n hx hb dX6_count_19 rfl (lv_at hl 0 rfl) ?_
    refine va_get (ci := 6) (v := .int 0) (C := RX6) (T := TX6) (N := 13) hx hb hts inX6 hown hK hP 0 rfl rfl 5 (by decide) (hts _ q_775) (fun _ h9 => h9) rfl dX6_count_20 ?_
    refine lv_if_le (tgt := 30) hx hb dX6_count_23 (by decide) (fun c_3 => ?_) (fun c_3 => ?_)
    · skip
      replace c_3 := ge_n c_3
      refine lv_aload_n hx hb dX6_count_30 rfl (lv_at hl 0 rfl) ?_
      refine lv_iload_n hx hb dX6_count_31 rfl (lv_at hl 1 rfl) ?_
      refine cs_p (runV (As := [.int p0]) (rest := []) ⟨hx, hb, hml, hown, hts⟩ (m_X6_counted l D kA m0 m1 m2 m3 m4 m5 z h tx pt kp st len 0 wo rd nu du hs p0 ) q_1011 q_1013 qp_49 q_7 q_1014 hd_X6_counted ⟨rfl, rfl⟩ ⟨Nat.le_of_ble_eq_true rfl, Nat.le_of_ble_eq_true rfl⟩ hK (ws := [(m0, .inr (6, [.ref m1, .int st, .ref m2, .int len, .ref m3, .int 0, .int wo, .ref m4, .int rd, .int nu, .int du, .ref m5, .long hs])), (m1, .inl (kA 0, 148, .inl z)), (m2, .inl (kA 0, 888, .inl h)), (m3, .inl (kA 0, 60, .inl tx)), (m4, .inl (kA 0, 72, .inl pt)), (m5, .inl (kA 0, 148, .inl kp))]) (hP.sub [0, 1, 2, 3, 4, 5] rfl) (hD.sub [0, 1, 2, 3, 4, 5] (by decide) rfl) 0 (ci := 6) (C := RX6) (T := TX6) (N := 13) rfl rfl rfl hl.1 rfl (Nat.le_of_ble_eq_true rfl) dX6_count_32 ⟨Nat.zero_le _, Nat.zero_le _⟩) ?_
      have hP : va_P D vwCl [(m0, .inr (6, [.ref m1, .int st, .ref m2, .int len, .ref m3, .int 0, .int wo, .ref m4, .int rd, .int nu, .int du, .ref m5, .long hs])), (m1, .inl (kA 0, 148, .inl z)), (m2, .inl (kA 0, 888, .inl h)), (m3, .inl (kA 0, 60, .inl tx)), (m4, .inl (kA 0, 72, .inl pt)), (m5, .inl (kA 0, 148, .inl kp))] _ := hP.sub [0, 1, 2, 3, 4, 5] rfl
      exact end_fi hx hb hrt hlk hP hS (by have hT : couT p0 = 0 := (by rw [couT, if_pos c_1]); rw [hT, if_pos rfl]) (fun hq => by have hT : couT p0 = 0 := (by rw [couT, if_pos c_1]); rw [hT]; exact hq) dX6_count_35
    · exact absurd c_3 (by decide)

theorem hd_X6_setting : yX6_setting.cls ≠ "java/lang/invoke/MethodHandle" ∧ yX6_setting.cls ≠ "java/lang/invoke/VarHandle" ∧ (parseMethodDescriptor yX6_setting.desc).map (fun d => d.parameters.length) = some 1 := by decide +kernel
set_option maxRecDepth 100000 in
set_option maxHeartbeats 4000000 in
theorem m_X6_setting (l : Launch) (D : va_G) (kA : Nat → Nat) (m0 : Nat) (m1 : Nat) (m2 : Nat) (m3 : Nat) (m4 : Nat) (m5 : Nat) (z : Nat → Int32) (h : Nat → Int32) (tx : Nat → Int32) (pt : Nat → Int32) (kp : Nat → Int32) (st : Int32) (len : Int32) (th : Int32) (wo : Int32) (rd : Int32) (nu : Int32) (du : Int32) (hs : Int64) (p0 : Int32) : Met l yX6_setting (Cond.code yX6_setting cX6_setting 2 (some .int) :: AW) ({ frames := 2, cells := 0, slots := 0, locals := 42 } : Room) (Pz [.ref m0, .int p0] D (TY kA) [(m0, .inr (6, [.ref m1, .int st, .ref m2, .int len, .ref m3, .int th, .int wo, .ref m4, .int rd, .int nu, .int du, .ref m5, .long hs])), (m1, .inl (kA 0, 148, .inl z)), (m2, .inl (kA 0, 888, .inl h)), (m3, .inl (kA 0, 60, .inl tx)), (m4, .inl (kA 0, 72, .inl pt)), (m5, .inl (kA 0, 148, .inl kp))]) (fQ (some (.int (if stgT p0 = 0 then z p0.toNatClampNeg else 0))) D [(m0, .inr (6, [.ref m1, .int st, .ref m2, .int len, .ref m3, .int th, .int wo, .ref m4, .int rd, .int nu, .int du, .ref m5, .long hs])), (m1, .inl (kA 0, 148, .inl z)), (m2, .inl (kA 0, 888, .inl h)), (m3, .inl (kA 0, 60, .inl tx)), (m4, .inl (kA 0, 72, .inl pt)), (m5, .inl (kA 0, 148, .inl kp))] [(m0, .inr (6, [.ref m1, .int st, .ref m2, .int len, .ref m3, .int (stgT p0), .int wo, .ref m4, .int rd, .int nu, .int du, .ref m5, .long hs])), (m1, .inl (kA 0, 148, .inl z)), (m2, .inl (kA 0, 888, .inl h)), (m3, .inl (kA 0, 60, .inl tx)), (m4, .inl (kA 0, 72, .inl pt)), (m5, .inl (kA 0, 148, .inl kp))]) 0 0 (Aw [(m0, .inr (6, [.ref m1, .int st, .ref m2, .int len, .ref m3, .int th, .int wo, .ref m4, .int rd, .int nu, .int du, .ref m5, .long hs])), (m1, .inl (kA 0, 148, .inl z)), (m2, .inl (kA 0, 888, .inl h)), (m3, .inl (kA 0, 60, .inl tx)), (m4, .inl (kA 0, 72, .inl pt)), (m5, .inl (kA 0, 148, .inl kp))]) := by
  refine MetZ (by decide +kernel) (Nat.le_of_ble_eq_true rfl) ?_
  intro p e s m below meth c ls hx hb hrt hts hown hml hlk hnm hP hK hD hS hl
  have hl : lv_has ls 2 [(0, .ref m0), (1, .int p0)] := hl
  refine lv_aload_n hx hb dX6_setting_0 rfl (lv_at hl 0 rfl) ?_
  refine lv_iload_n hx hb dX6_setting_1 rfl (lv_at hl 1 rfl) ?_
  refine cs_p (runS (As := [.int p0]) (rest := [.ref m0]) ⟨hx, hb, hml, hown, hts⟩ (m_X6_isSetting l D kA p0 ) q_845 q_846 q_7 q_847 hd_X6_isSetting ⟨rfl, rfl⟩ ⟨Nat.le_of_ble_eq_true rfl, Nat.le_of_ble_eq_true rfl⟩ hK (ws := []) (hP.sub [] rfl) (hD.sub [] (by decide) rfl) rfl hl.1 rfl (Nat.le_of_ble_eq_true rfl) dX6_setting_2 ⟨Nat.zero_le _, Nat.zero_le _⟩) ?_
  refine lv_if_eq (tgt := 12) hx hb dX6_setting_5 (by decide) (fun c_1 => ?_) (fun c_1 => ?_)
  · skip
    replace c_1 := bI_0.mp c_1
    refine lv_iconst (v := 1) hx hb dX6_setting_12 (by decide) ?_
    refine va_put (ci := 6) (v := .int 1) (ty := tyX6 5) (C := RX6) (T := TX6) (N := 13) hx hb hts inX6 tyX6 tyX6_ok nmX6 hown hK hP hD hS 0 rfl rfl 5 (by decide) (hts _ q_775) (fun _ h9 => h9) rfl (tyX6_ok 5 (by decide)) rfl rfl (Nat.le_of_ble_eq_true rfl) dX6_setting_13 (fun H locs hP hD hS => ?_)
    have hP : va_P D vwCl [(m0, .inr (6, [.ref m1, .int st, .ref m2, .int len, .ref m3, .int 1, .int wo, .ref m4, .int rd, .int nu, .int du, .ref m5, .long hs])), (m1, .inl (kA 0, 148, .inl z)), (m2, .inl (kA 0, 888, .inl h)), (m3, .inl (kA 0, 60, .inl tx)), (m4, .inl (kA 0, 72, .inl pt)), (m5, .inl (kA 0, 148, .inl kp))] H := hP
    have hD : va_D (Aw [(m0, .inr (6, [.ref m1, .int st, .ref m2, .int len, .ref m3, .int th, .int wo, .ref m4, .int rd, .int nu, .int du, .ref m5, .long hs])), (m1, .inl (kA 0, 148, .inl z)), (m2, .inl (kA 0, 888, .inl h)), (m3, .inl (kA 0, 60, .inl tx)), (m4, .inl (kA 0, 72, .inl pt)), (m5, .inl (kA 0, 148, .inl kp))]) [(m0, .inr (6, [.ref m1, .int st, .ref m2, .int len, .ref m3, .int 1, .int wo, .ref m4, .int rd, .int nu, .int du, .ref m5, .long hs])), (m1, .inl (kA 0, 148, .inl z)), (m2, .inl (kA 0, 888, .inl h)), (m3, .inl (kA 0, 60, .inl tx)), (m4, .inl (kA 0, 72, .inl pt)), (m5, .inl (kA 0, 148, .inl kp))] := hD
    refine lv_aload_n hx hb dX6_setting_16 rfl (lv_at hl 0 rfl) ?_
    refine va_get (ci := 6) (v := .int 1) (C := RX6) (T := TX6) (N := 13) hx hb hts inX6 hown hK hP 0 rfl rfl 5 (by decide) (hts _ q_775) (fun _ h9 => h9) rfl dX6_setting_17 ?_
    refine lv_if_le (tgt := 27) hx hb dX6_setting_20 (by decide) (fun c_2 => ?_) (fun c_2 => ?_)
    · exact absurd c_2 (by decide)
    · skip
      replace c_2 := nge_l c_2
      refine lv_iconst (v := 0) hx hb dX6_setting_23 (by decide) ?_
      refine lv_goto (tgt := 35) hx hb dX6_setting_24 (by decide) ?_
      have hP : va_P D vwCl [(m0, .inr (6, [.ref m1, .int st, .ref m2, .int len, .ref m3, .int 1, .int wo, .ref m4, .int rd, .int nu, .int du, .ref m5, .long hs])), (m1, .inl (kA 0, 148, .inl z)), (m2, .inl (kA 0, 888, .inl h)), (m3, .inl (kA 0, 60, .inl tx)), (m4, .inl (kA 0, 72, .inl pt)), (m5, .inl (kA 0, 148, .inl kp))] _ := hP.sub [0, 1, 2, 3, 4, 5] rfl
      exact end_fi hx hb hrt hlk hP hS (by have hT : stgT p0 = 1 := (by rw [stgT, if_neg (by rw [c_1]; decide)]); rw [hT, if_neg (by decide)]) (fun hq => by have hT : stgT p0 = 1 := (by rw [stgT, if_neg (by rw [c_1]; decide)]); rw [hT]; exact hq) dX6_setting_35
  · skip
    replace c_1 := bI_n0 c_1
    obtain ⟨a, haa, epa, eca⟩ := wi_ex c_1 (N := 5) rfl
    refine lv_iconst (v := 0) hx hb dX6_setting_8 (by decide) ?_
    refine lv_goto (tgt := 13) hx hb dX6_setting_9 (by decide) ?_
    refine va_put (ci := 6) (v := .int 0) (ty := tyX6 5) (C := RX6) (T := TX6) (N := 13) hx hb hts inX6 tyX6 tyX6_ok nmX6 hown hK hP hD hS 0 rfl rfl 5 (by decide) (hts _ q_775) (fun _ h9 => h9) rfl (tyX6_ok 5 (by decide)) rfl rfl (Nat.le_of_ble_eq_true rfl) dX6_setting_13 (fun H locs hP hD hS => ?_)
    have hP : va_P D vwCl [(m0, .inr (6, [.ref m1, .int st, .ref m2, .int len, .ref m3, .int 0, .int wo, .ref m4, .int rd, .int nu, .int du, .ref m5, .long hs])), (m1, .inl (kA 0, 148, .inl z)), (m2, .inl (kA 0, 888, .inl h)), (m3, .inl (kA 0, 60, .inl tx)), (m4, .inl (kA 0, 72, .inl pt)), (m5, .inl (kA 0, 148, .inl kp))] H := hP
    have hD : va_D (Aw [(m0, .inr (6, [.ref m1, .int st, .ref m2, .int len, .ref m3, .int th, .int wo, .ref m4, .int rd, .int nu, .int du, .ref m5, .long hs])), (m1, .inl (kA 0, 148, .inl z)), (m2, .inl (kA 0, 888, .inl h)), (m3, .inl (kA 0, 60, .inl tx)), (m4, .inl (kA 0, 72, .inl pt)), (m5, .inl (kA 0, 148, .inl kp))]) [(m0, .inr (6, [.ref m1, .int st, .ref m2, .int len, .ref m3, .int 0, .int wo, .ref m4, .int rd, .int nu, .int du, .ref m5, .long hs])), (m1, .inl (kA 0, 148, .inl z)), (m2, .inl (kA 0, 888, .inl h)), (m3, .inl (kA 0, 60, .inl tx)), (m4, .inl (kA 0, 72, .inl pt)), (m5, .inl (kA 0, 148, .inl kp))] := hD
    refine lv_aload_n hx hb dX6_setting_16 rfl (lv_at hl 0 rfl) ?_
    refine va_get (ci := 6) (v := .int 0) (C := RX6) (T := TX6) (N := 13) hx hb hts inX6 hown hK hP 0 rfl rfl 5 (by decide) (hts _ q_775) (fun _ h9 => h9) rfl dX6_setting_17 ?_
    refine lv_if_le (tgt := 27) hx hb dX6_setting_20 (by decide) (fun c_3 => ?_) (fun c_3 => ?_)
    · skip
      replace c_3 := ge_n c_3
      refine lv_aload_n hx hb dX6_setting_27 rfl (lv_at hl 0 rfl) ?_
      refine va_get (ci := 6) (v := .ref m1) (C := RX6) (T := TX6) (N := 13) hx hb hts inX6 hown hK hP 0 rfl rfl 0 (by decide) (hts _ q_770) (fun _ h9 => h9) rfl dX6_setting_28 ?_
      refine lv_iconst (v := 0) hx hb dX6_setting_31 (by decide) ?_
      refine lv_iload_n hx hb dX6_setting_32 rfl (lv_at hl 1 rfl) ?_
      refine lv_iadd hx hb dX6_setting_33 ?_
      refine va_iald (f := z) hx hb hK hP 1 0 rfl rfl (in_nI (j := a) (by rw [epa]; exact z_add) (by omega) (by decide)) dX6_setting_34 ?_
      have hP : va_P D vwCl [(m0, .inr (6, [.ref m1, .int st, .ref m2, .int len, .ref m3, .int 0, .int wo, .ref m4, .int rd, .int nu, .int du, .ref m5, .long hs])), (m1, .inl (kA 0, 148, .inl z)), (m2, .inl (kA 0, 888, .inl h)), (m3, .inl (kA 0, 60, .inl tx)), (m4, .inl (kA 0, 72, .inl pt)), (m5, .inl (kA 0, 148, .inl kp))] _ := hP.sub [0, 1, 2, 3, 4, 5] rfl
      exact end_fi hx hb hrt hlk hP hS (by have hT : stgT p0 = 0 := (by rw [stgT, if_pos c_1]); rw [hT, if_pos rfl, show (0 : Int32) + p0 = p0 from Int32.zero_add p0]) (fun hq => by have hT : stgT p0 = 0 := (by rw [stgT, if_pos c_1]); rw [hT]; exact hq) dX6_setting_35
    · exact absurd c_3 (by decide)
