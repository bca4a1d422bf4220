/-! the class's calls where nothing is thrown -/
theorem ngt_le {x y : Int32} (h : ¬ y < x) : x ≤ y := Int32.not_lt.mp h

theorem st_up {p : Int32} {k : Nat} (h : p = nI k) (h1 : 1 ≤ k) (h2 : k ≤ 24) : ¬ p < -24 ∧ ¬ 24 < p ∧ ¬ p = 0 ∧ ¬ p ≤ 0 := by
  subst h
  have : ∀ k, k < 25 → 1 ≤ k → (¬ nI k < -24 ∧ ¬ 24 < nI k ∧ ¬ nI k = 0 ∧ ¬ nI k ≤ 0) := by decide +kernel
  exact this k (by omega) h1
theorem st_dn {p : Int32} {k : Nat} (h : p = -nI k) (h1 : 1 ≤ k) (h2 : k ≤ 24) : ¬ p < -24 ∧ ¬ 24 < p ∧ ¬ p = 0 ∧ p ≤ 0 := by
  subst h
  have : ∀ k, k < 25 → 1 ≤ k → (¬ -nI k < -24 ∧ ¬ 24 < -nI k ∧ ¬ -nI k = 0 ∧ -nI k ≤ 0) := by decide +kernel
  exact this k (by omega) h1
set_option maxRecDepth 100000 in
set_option maxHeartbeats 4000000 in
theorem m_X5_earn_p (l : Launch) (D : va_G) (kA : Nat → Nat) (ad : Nat → Nat) (X : Nat → Nat → Int32) (p0 : Int32) (w : Nat) (hsw : X 8 0 = nI w) (hsw6 : w < 6) (he1 : ¬ p0 < 1) (he2 : p0 ≤ 10000) (he3 : X 0 6 + p0 ≤ 100000) : Met l yX5_earn (Cond.code yX5_earn cX5_earn 2 (some .int) :: AW) ({ frames := 4, cells := 0, slots := 0, locals := 127 } : Room) (Pz [.ref (ad 0), .int p0] D (TY kA) (cw kA ad X)) (fQ (some (.int (X 0 6 + p0))) D (cw kA ad X) (cw kA ad (up2 (svX X w) 0 (upd (X 0) 6 (X 0 6 + p0))))) 0 0 (Aw (cw kA ad X)) := by
  refine MetZ (by decide +kernel) (Nat.le_of_ble_eq_true rfl) ?_
  intro p e s m below meth c ls hx hb hrt hts hown hml hlk hnm hP hK hD hS hl
  have hl : lv_has ls 2 [(0, .ref (ad 0)), (1, .int p0)] := hl
  refine lv_iload_n hx hb dX5_earn_0 rfl (lv_at hl 1 rfl) ?_
  refine lv_iconst (v := 1) hx hb dX5_earn_1 (by decide) ?_
  refine lv_icmp_lt (tgt := 12) hx hb dX5_earn_2 (by decide) (fun c_1 => ?_) (fun c_1 => ?_)
  · exact absurd c_1 (he1)
  · skip
    refine lv_iload_n hx hb dX5_earn_5 rfl (lv_at hl 1 rfl) ?_
    refine lv_sipush (v := 10000) hx hb dX5_earn_6 (by decide) ?_
    refine lv_icmp_le (tgt := 22) hx hb dX5_earn_9 (by decide) (fun c_2 => ?_) (fun c_2 => ?_)
    · skip
      replace c_2 := ge_n c_2
      refine lv_aload_n hx hb dX5_earn_22 rfl (lv_at hl 0 rfl) ?_
      refine va_get (ci := 5) (v := .ref (sA ad 0)) (C := RX5) (T := TX5) (N := 6) hx hb hts inX5 hown hK hP _ (cw_arm (kA := kA) (ad := ad) (X := X)) rfl 0 (by decide) (hts _ q_170) (fun _ h9 => h9) rfl dX5_earn_23 ?_
      refine va_get (ci := 4) (v := .int ((X 0) 6)) (C := RX4) (T := TX4) (N := 4) hx hb hts inX4 hown hK hP _ (cw_state (kA := kA) (ad := ad) (X := X) (r := 0) (by omega)) rfl 2 (by decide) (hts _ q_117) (fun _ h9 => h9) rfl dX5_earn_26 ?_
      refine lv_iload_n hx hb dX5_earn_29 rfl (lv_at hl 1 rfl) ?_
      refine lv_iadd hx hb dX5_earn_30 ?_
      refine lv_ldc (v := 100000) hx hb hown (hts _ q_463) dX5_earn_31 ?_
      refine lv_icmp_le (tgt := 46) hx hb dX5_earn_33 (by decide) (fun c_3 => ?_) (fun c_3 => ?_)
      · skip
        replace c_3 := ge_n c_3
        refine lv_aload_n hx hb dX5_earn_46 rfl (lv_at hl 0 rfl) ?_
        refine va_get (ci := 5) (v := .ref (ad 1)) (C := RX5) (T := TX5) (N := 6) hx hb hts inX5 hown hK hP _ (cw_arm (kA := kA) (ad := ad) (X := X)) rfl 1 (by decide) (hts _ q_171) (fun _ h9 => h9) rfl dX5_earn_47 ?_
        refine lv_aload_n hx hb dX5_earn_50 rfl (lv_at hl 0 rfl) ?_
        refine va_get (ci := 5) (v := .ref (sA ad 0)) (C := RX5) (T := TX5) (N := 6) hx hb hts inX5 hown hK hP _ (cw_arm (kA := kA) (ad := ad) (X := X)) rfl 0 (by decide) (hts _ q_170) (fun _ h9 => h9) rfl dX5_earn_51 ?_
        refine cs_fn (runV (As := [.ref (sA ad 0)]) (rest := []) ⟨hx, hb, hml, hown, hts⟩ (m_X1_save l D kA ad X w (hsw) (hsw6)) q_351 q_352 q_353 q_5 q_354 hd_X1_save ⟨rfl, rfl⟩ ⟨Nat.le_of_ble_eq_true rfl, Nat.le_of_ble_eq_true rfl⟩ hK (ws := (cw kA ad X)) hP hD _ (ci := 1) (C := RX1) (T := TX1) (N := 3) rfl (cw_hist (kA := kA) (ad := ad) (X := X)) rfl hl.1 rfl (Nat.le_of_ble_eq_true rfl) dX5_earn_54 ⟨Nat.zero_le _, Nat.zero_le _⟩) hS (fun _ h => cw_Aw h) (fun H locs hP _ hS => ?_)
        have hD := cw_D (X' := svX X w) hD
        refine lv_aload_n hx hb dX5_earn_57 rfl (lv_at hl 0 rfl) ?_
        refine va_get (ci := 5) (v := .ref (sA ad 0)) (C := RX5) (T := TX5) (N := 6) hx hb hts inX5 hown hK hP _ (cw_arm (kA := kA) (ad := ad) (X := svX X w)) rfl 0 (by decide) (hts _ q_170) (fun _ h9 => h9) rfl dX5_earn_58 ?_
        refine lv_dup hx hb dX5_earn_61 rfl ?_
        refine va_get (ci := 4) (v := .int (((svX X w) 0) 6)) (C := RX4) (T := TX4) (N := 4) hx hb hts inX4 hown hK hP _ (cw_state (kA := kA) (ad := ad) (X := svX X w) (r := 0) (by omega)) rfl 2 (by decide) (hts _ q_117) (fun _ h9 => h9) rfl dX5_earn_62 ?_
        refine lv_iload_n hx hb dX5_earn_65 rfl (lv_at hl 1 rfl) ?_
        refine lv_iadd hx hb dX5_earn_66 ?_
        refine va_put (ci := 4) (v := .int ((((svX X w) 0) 6) + p0)) (ty := tyX4 2) (C := RX4) (T := TX4) (N := 4) hx hb hts inX4 tyX4 tyX4_ok nmX4 hown hK hP hD hS _ (cw_state (kA := kA) (ad := ad) (X := svX X w) (r := 0) (by omega)) rfl 2 (by decide) (hts _ q_117) (fun _ h9 => h9) rfl (tyX4_ok 2 (by decide)) rfl rfl (Nat.le_of_ble_eq_true rfl) dX5_earn_67 (fun H locs hP hD hS => ?_)
        have hP : va_P D vwCl (cw kA ad (up3 (svX X w) 0 6 ((((svX X w) 0) 6) + p0))) H := by rw [← st_purse (r := 0) (by omega)]; exact hP
        have hD : va_D (Aw (cw kA ad X)) (cw kA ad (up3 (svX X w) 0 6 ((((svX X w) 0) 6) + p0))) := by rw [← st_purse (r := 0) (by omega)]; exact hD
        refine lv_aload_n hx hb dX5_earn_70 rfl (lv_at hl 0 rfl) ?_
        refine va_get (ci := 5) (v := .ref (sA ad 0)) (C := RX5) (T := TX5) (N := 6) hx hb hts inX5 hown hK hP _ (cw_arm (kA := kA) (ad := ad) (X := up3 (svX X w) 0 6 ((((svX X w) 0) 6) + p0))) rfl 0 (by decide) (hts _ q_170) (fun _ h9 => h9) rfl dX5_earn_71 ?_
        refine va_get (ci := 4) (v := .int (((up3 (svX X w) 0 6 ((((svX X w) 0) 6) + p0)) 0) 6)) (C := RX4) (T := TX4) (N := 4) hx hb hts inX4 hown hK hP _ (cw_state (kA := kA) (ad := ad) (X := up3 (svX X w) 0 6 ((((svX X w) 0) 6) + p0)) (r := 0) (by omega)) rfl 2 (by decide) (hts _ q_117) (fun _ h9 => h9) rfl dX5_earn_74 ?_
        exact end_fi hx hb hrt hlk hP hS (by rw [up3_s, svX_0]) (fun h => by rw [← svX_0 (X := X) (w := w)]; exact h) dX5_earn_77
      · exact absurd c_3 (fun h => h he3)
    · exact absurd c_2 (fun h => h he2)

set_option maxRecDepth 100000 in
set_option maxHeartbeats 4000000 in
theorem m_X5_load_p (l : Launch) (D : va_G) (kA : Nat → Nat) (ad : Nat → Nat) (X : Nat → Nat → Int32) (a : Nat) (p0 : Int32) (p1 : Int32) (w : Nat) (hp : p0 = nI a) (ha : a < 4) (hsw : X 8 0 = nI w) (hsw6 : w < 6) (hl0 : ¬ p1 < 0) (hl1 : p1 ≤ 5) : Met l yX5_load (Cond.code yX5_load cX5_load 5 (some .int) :: AW) ({ frames := 4, cells := 0, slots := 0, locals := 127 } : Room) (Pz [.ref (ad 0), .int p0, .int p1] D (TY kA) (cw kA ad X)) (fQ (some (.int (sl (X 0) a 2))) D (cw kA ad X) (cw kA ad (up2 (svX X w) 0 (puZ (X 0) a 2 p1)))) 0 0 (Aw (cw kA ad X)) := by
  refine MetZ (by decide +kernel) (Nat.le_of_ble_eq_true rfl) ?_
  intro p e s m below meth c ls hx hb hrt hts hown hml hlk hnm hP hK hD hS hl
  have hl : lv_has ls 5 [(0, .ref (ad 0)), (1, .int p0), (2, .int p1)] := hl
  refine lv_aload_n hx hb dX5_load_0 rfl (lv_at hl 0 rfl) ?_
  refine lv_iload_n hx hb dX5_load_1 rfl (lv_at hl 1 rfl) ?_
  refine cs_p (runV (As := [.int p0]) (rest := []) ⟨hx, hb, hml, hown, hts⟩ (m_X5_gearOf l D kA ad X a p0 (hp) (ha)) q_221 q_223 qp_0 q_1 q_224 hd_X5_gearOf ⟨rfl, rfl⟩ ⟨Nat.le_of_ble_eq_true rfl, Nat.le_of_ble_eq_true rfl⟩ hK (ws := (cw kA ad X)) hP hD _ (ci := 5) (C := RX5) (T := TX5) (N := 6) rfl (cw_arm (kA := kA) (ad := ad) (X := X)) rfl hl.1 rfl (Nat.le_of_ble_eq_true rfl) dX5_load_2 ⟨Nat.zero_le _, Nat.zero_le _⟩) ?_
  refine lv_astore_n (lv' := [(3, .ref (gA ad 0 a)), (0, .ref (ad 0)), (1, .int p0), (2, .int p1)]) hx hb dX5_load_5 rfl hl (by decide) rfl (fun ls hl => ?_)
  refine lv_iload_n hx hb dX5_load_6 rfl (lv_at hl 3 rfl) ?_
  refine lv_if_lt (tgt := 15) hx hb dX5_load_7 (by decide) (fun c_1 => ?_) (fun c_1 => ?_)
  · exact absurd c_1 (hl0)
  · skip
    refine lv_iload_n hx hb dX5_load_10 rfl (lv_at hl 3 rfl) ?_
    refine lv_iconst (v := 5) hx hb dX5_load_11 (by decide) ?_
    refine lv_icmp_le (tgt := 25) hx hb dX5_load_12 (by decide) (fun c_2 => ?_) (fun c_2 => ?_)
    · skip
      replace c_2 := ge_n c_2
      refine lv_aload_n hx hb dX5_load_25 rfl (lv_at hl 1 rfl) ?_
      refine va_get (ci := 5) (v := .ref (ad 1)) (C := RX5) (T := TX5) (N := 6) hx hb hts inX5 hown hK hP _ (cw_arm (kA := kA) (ad := ad) (X := X)) rfl 1 (by decide) (hts _ q_171) (fun _ h9 => h9) rfl dX5_load_26 ?_
      refine lv_aload_n hx hb dX5_load_29 rfl (lv_at hl 1 rfl) ?_
      refine va_get (ci := 5) (v := .ref (sA ad 0)) (C := RX5) (T := TX5) (N := 6) hx hb hts inX5 hown hK hP _ (cw_arm (kA := kA) (ad := ad) (X := X)) rfl 0 (by decide) (hts _ q_170) (fun _ h9 => h9) rfl dX5_load_30 ?_
      refine cs_fn (runV (As := [.ref (sA ad 0)]) (rest := []) ⟨hx, hb, hml, hown, hts⟩ (m_X1_save l D kA ad X w (hsw) (hsw6)) q_351 q_352 q_353 q_5 q_354 hd_X1_save ⟨rfl, rfl⟩ ⟨Nat.le_of_ble_eq_true rfl, Nat.le_of_ble_eq_true rfl⟩ hK (ws := (cw kA ad X)) hP hD _ (ci := 1) (C := RX1) (T := TX1) (N := 3) rfl (cw_hist (kA := kA) (ad := ad) (X := X)) rfl hl.1 rfl (Nat.le_of_ble_eq_true rfl) dX5_load_33 ⟨Nat.zero_le _, Nat.zero_le _⟩) hS (fun _ h => cw_Aw h) (fun H locs hP _ hS => ?_)
      have hD := cw_D (X' := svX X w) hD
      refine lv_aload_n hx hb dX5_load_36 rfl (lv_at hl 0 rfl) ?_
      refine va_get (ci := 0) (v := .int (sl (((svX X w) 0)) a 2)) (C := RX0) (T := TX0) (N := 12) hx hb hts inX0 hown hK hP _ (cw_gear (kA := kA) (ad := ad) (X := svX X w) (r := 0) (a := a) (by omega) (by omega)) rfl 3 (by decide) (hts _ q_75) (fun _ h9 => h9) rfl dX5_load_37 ?_
      refine lv_istore (lv' := [(4, .int (sl (((svX X w) 0)) a 2)), (3, .ref (gA ad 0 a)), (0, .ref (ad 0)), (1, .int p0), (2, .int p1)]) hx hb dX5_load_40 hl (by decide) rfl (fun ls hl => ?_)
      refine lv_aload_n hx hb dX5_load_42 rfl (lv_at hl 1 rfl) ?_
      refine lv_iload_n hx hb dX5_load_43 rfl (lv_at hl 4 rfl) ?_
      refine va_put (ci := 0) (v := .int p1) (ty := tyX0 3) (C := RX0) (T := TX0) (N := 12) hx hb hts inX0 tyX0 tyX0_ok nmX0 hown hK hP hD hS _ (cw_gear (kA := kA) (ad := ad) (X := svX X w) (r := 0) (a := a) (by omega) (by omega)) rfl 3 (by decide) (hts _ q_75) (fun _ h9 => h9) rfl (tyX0_ok 3 (by decide)) rfl rfl (Nat.le_of_ble_eq_true rfl) dX5_load_44 (fun H locs hP hD hS => ?_)
      have hP : va_P D vwCl (cw kA ad (up3 (svX X w) 0 (2 + (8 + 35 * a)) p1)) H := by rw [← st_load (r := 0) (a := a) (by omega) (by omega)]; exact hP
      have hD : va_D (Aw (cw kA ad X)) (cw kA ad (up3 (svX X w) 0 (2 + (8 + 35 * a)) p1)) := by rw [← st_load (r := 0) (a := a) (by omega) (by omega)]; exact hD
      refine lv_iload hx hb dX5_load_47 (lv_at hl 0 rfl) ?_
      exact end_fi hx hb hrt hlk hP hS (by rw [svX_0]) (fun h => by rw [← svX_0 (X := X) (w := w)]; exact h) dX5_load_49
    · exact absurd c_2 (fun h => h hl1)

set_option maxRecDepth 100000 in
set_option maxHeartbeats 4000000 in
theorem m_X5_step_u (l : Launch) (D : va_G) (kA : Nat → Nat) (ad : Nat → Nat) (X : Nat → Nat → Int32) (a : Nat) (p0 : Int32) (p1 : Int32) (k : Nat) (w : Nat) (hp : p0 = nI a) (ha : a < 4) (hsw : X 8 0 = nI w) (hsw6 : w < 6) (hk : p1 = nI k) (hk1 : 1 ≤ k) (hk2 : k ≤ 24) (hcan : canF (X 0) a (wI true) = true) : Met l yX5_step (Cond.code yX5_step cX5_step 5 (some .int) :: AW) ({ frames := 4, cells := 0, slots := 0, locals := 127 } : Room) (Pz [.ref (ad 0), .int p0, .int p1] D (TY kA) (cw kA ad X)) (fQ (some (.int ((msL a (wI true) k (X 0) 0).1))) D (cw kA ad X) (cw kA ad (up2 (svX X w) 0 (msL a (wI true) k (X 0) 0).2))) 0 0 (Aw (cw kA ad X)) := by
  refine MetZ (by decide +kernel) (Nat.le_of_ble_eq_true rfl) ?_
  intro p e s m below meth c ls hx hb hrt hts hown hml hlk hnm hP hK hD hS hl
  have hl : lv_has ls 5 [(0, .ref (ad 0)), (1, .int p0), (2, .int p1)] := hl
  have hmk : p1 = nI k := hk
  obtain ⟨hq1, hq2, hq3, hq4⟩ := st_up hk hk1 hk2
  refine lv_aload_n hx hb dX5_step_0 rfl (lv_at hl 0 rfl) ?_
  refine lv_iload_n hx hb dX5_step_1 rfl (lv_at hl 1 rfl) ?_
  refine cs_p (runV (As := [.int p0]) (rest := []) ⟨hx, hb, hml, hown, hts⟩ (m_X5_gearOf l D kA ad X a p0 (hp) (ha)) q_221 q_223 qp_0 q_1 q_224 hd_X5_gearOf ⟨rfl, rfl⟩ ⟨Nat.le_of_ble_eq_true rfl, Nat.le_of_ble_eq_true rfl⟩ hK (ws := (cw kA ad X)) hP hD _ (ci := 5) (C := RX5) (T := TX5) (N := 6) rfl (cw_arm (kA := kA) (ad := ad) (X := X)) rfl hl.1 rfl (Nat.le_of_ble_eq_true rfl) dX5_step_2 ⟨Nat.zero_le _, Nat.zero_le _⟩) ?_
  refine lv_astore_n (lv' := [(3, .ref (gA ad 0 a)), (0, .ref (ad 0)), (1, .int p0), (2, .int p1)]) hx hb dX5_step_5 rfl hl (by decide) rfl (fun ls hl => ?_)
  refine lv_iload_n hx hb dX5_step_6 rfl (lv_at hl 3 rfl) ?_
  refine lv_bipush (v := (-24)) hx hb dX5_step_7 (by decide) ?_
  refine lv_icmp_lt (tgt := 22) hx hb dX5_step_9 (by decide) (fun c_1 => ?_) (fun c_1 => ?_)
  · exact absurd c_1 (hq1)
  · skip
    refine lv_iload_n hx hb dX5_step_12 rfl (lv_at hl 3 rfl) ?_
    refine lv_bipush (v := 24) hx hb dX5_step_13 (by decide) ?_
    refine lv_icmp_gt (tgt := 22) hx hb dX5_step_15 (by decide) (fun c_2 => ?_) (fun c_2 => ?_)
    · exact absurd c_2 (hq2)
    · skip
      refine lv_iload_n hx hb dX5_step_18 rfl (lv_at hl 3 rfl) ?_
      refine lv_if_ne (tgt := 32) hx hb dX5_step_19 (by decide) (fun c_3 => ?_) (fun c_3 => ?_)
      · skip
        refine lv_iload_n hx hb dX5_step_32 rfl (lv_at hl 3 rfl) ?_
        refine lv_if_le (tgt := 40) hx hb dX5_step_33 (by decide) (fun c_4 => ?_) (fun c_4 => ?_)
        · exact absurd c_4 (hq4)
        · skip
          replace c_4 := nge_l c_4
          refine lv_iconst (v := 1) hx hb dX5_step_36 (by decide) ?_
          refine lv_goto (tgt := 41) hx hb dX5_step_37 (by decide) ?_
          refine cs_p (runS (As := [.int (bI true)]) (rest := []) ⟨hx, hb, hml, hown, hts⟩ (m_X5_wayOf l D kA ad X true ) q_313 q_314 q_1 q_315 hd_X5_wayOf ⟨rfl, rfl⟩ ⟨Nat.le_of_ble_eq_true rfl, Nat.le_of_ble_eq_true rfl⟩ hK (ws := (cw kA ad X)) hP hD rfl hl.1 rfl (Nat.le_of_ble_eq_true rfl) dX5_step_41 ⟨Nat.zero_le _, Nat.zero_le _⟩) ?_
          refine lv_istore (lv' := [(4, .int (wI true)), (3, .ref (gA ad 0 a)), (0, .ref (ad 0)), (1, .int p0), (2, .int p1)]) hx hb dX5_step_44 hl (by decide) rfl (fun ls hl => ?_)
          refine lv_aload_n hx hb dX5_step_46 rfl (lv_at hl 2 rfl) ?_
          refine lv_aload_n hx hb dX5_step_47 rfl (lv_at hl 1 rfl) ?_
          refine lv_iload hx hb dX5_step_48 (lv_at hl 0 rfl) ?_
          refine cs_p (runV (As := [.ref (gA ad 0 a), .int (wI true)]) (rest := []) ⟨hx, hb, hml, hown, hts⟩ (m_X5_canStep l D kA ad X a (wI true) (ha)) q_316 q_318 qp_2 q_1 q_319 hd_X5_canStep ⟨rfl, rfl⟩ ⟨Nat.le_of_ble_eq_true rfl, Nat.le_of_ble_eq_true rfl⟩ hK (ws := (cw kA ad X)) hP hD _ (ci := 5) (C := RX5) (T := TX5) (N := 6) rfl (cw_arm (kA := kA) (ad := ad) (X := X)) rfl hl.1 rfl (Nat.le_of_ble_eq_true rfl) dX5_step_50 ⟨Nat.zero_le _, Nat.zero_le _⟩) ?_
          refine lv_if_ne (tgt := 66) hx hb dX5_step_53 (by decide) (fun c_5 => ?_) (fun c_5 => ?_)
          · skip
            replace c_5 := bI_n0 c_5
            refine lv_aload_n hx hb dX5_step_66 rfl (lv_at hl 2 rfl) ?_
            refine va_get (ci := 5) (v := .ref (ad 1)) (C := RX5) (T := TX5) (N := 6) hx hb hts inX5 hown hK hP _ (cw_arm (kA := kA) (ad := ad) (X := X)) rfl 1 (by decide) (hts _ q_171) (fun _ h9 => h9) rfl dX5_step_67 ?_
            refine lv_aload_n hx hb dX5_step_70 rfl (lv_at hl 2 rfl) ?_
            refine va_get (ci := 5) (v := .ref (sA ad 0)) (C := RX5) (T := TX5) (N := 6) hx hb hts inX5 hown hK hP _ (cw_arm (kA := kA) (ad := ad) (X := X)) rfl 0 (by decide) (hts _ q_170) (fun _ h9 => h9) rfl dX5_step_71 ?_
            refine cs_fn (runV (As := [.ref (sA ad 0)]) (rest := []) ⟨hx, hb, hml, hown, hts⟩ (m_X1_save l D kA ad X w (hsw) (hsw6)) q_351 q_352 q_353 q_5 q_354 hd_X1_save ⟨rfl, rfl⟩ ⟨Nat.le_of_ble_eq_true rfl, Nat.le_of_ble_eq_true rfl⟩ hK (ws := (cw kA ad X)) hP hD _ (ci := 1) (C := RX1) (T := TX1) (N := 3) rfl (cw_hist (kA := kA) (ad := ad) (X := X)) rfl hl.1 rfl (Nat.le_of_ble_eq_true rfl) dX5_step_74 ⟨Nat.zero_le _, Nat.zero_le _⟩) hS (fun _ h => cw_Aw h) (fun H locs hP _ hS => ?_)
            have hD := cw_D (X' := svX X w) hD
            refine lv_aload_n hx hb dX5_step_77 rfl (lv_at hl 2 rfl) ?_
            refine lv_aload_n hx hb dX5_step_78 rfl (lv_at hl 1 rfl) ?_
            refine lv_iload hx hb dX5_step_79 (lv_at hl 0 rfl) ?_
            refine lv_iload_n hx hb dX5_step_81 rfl (lv_at hl 4 rfl) ?_
            refine lv_if_le (tgt := 89) hx hb dX5_step_82 (by decide) (fun c_6 => ?_) (fun c_6 => ?_)
            · exact absurd c_6 (hq4)
            · skip
              replace c_6 := nge_l c_6
              refine lv_iload_n hx hb dX5_step_85 rfl (lv_at hl 4 rfl) ?_
              refine lv_goto (tgt := 91) hx hb dX5_step_86 (by decide) ?_
              refine cs_fs (runV (As := [.ref (gA ad 0 a), .int (wI true), .int p1]) (rest := []) ⟨hx, hb, hml, hown, hts⟩ (m_X5_makeSteps l D kA ad (svX X w) a (wI true) p1 k (ha) (hmk) (by omega)) q_379 q_381 qp_3 q_1 q_382 hd_X5_makeSteps ⟨rfl, rfl⟩ ⟨Nat.le_of_ble_eq_true rfl, Nat.le_of_ble_eq_true rfl⟩ hK (ws := (cw kA ad (svX X w))) hP hD _ (ci := 5) (C := RX5) (T := TX5) (N := 6) rfl (cw_arm (kA := kA) (ad := ad) (X := svX X w)) rfl hl.1 rfl (Nat.le_of_ble_eq_true rfl) dX5_step_91 ⟨Nat.zero_le _, Nat.zero_le _⟩) hS (fun _ h => cw_Aw h) (fun H locs hP _ hS => ?_)
              have hD := cw_D (X' := up2 (svX X w) 0 (msL a (wI true) k (((svX X w) 0)) 0).2) hD
              have hP : va_P D vwCl (cw kA ad (up2 (svX X w) 0 (msL a (wI true) k (((svX X w) 0)) 0).2)) H := hP
              refine W_top (v' := .int ((msL a (wI true) k (((svX X w) 0)) 0).1)) rfl ?_
              exact end_fi hx hb hrt hlk hP hS (by rw [svX_0]) (fun h => by rw [svX_0] at h; exact h) dX5_step_94
          · exact absurd c_5 (bI_n _ hcan rfl)
      · exact absurd c_3 (hq3)

set_option maxRecDepth 100000 in
set_option maxHeartbeats 4000000 in
theorem m_X5_step_d (l : Launch) (D : va_G) (kA : Nat → Nat) (ad : Nat → Nat) (X : Nat → Nat → Int32) (a : Nat) (p0 : Int32) (p1 : Int32) (k : Nat) (w : Nat) (hp : p0 = nI a) (ha : a < 4) (hsw : X 8 0 = nI w) (hsw6 : w < 6) (hk : p1 = -nI k) (hk1 : 1 ≤ k) (hk2 : k ≤ 24) (hcan : canF (X 0) a (wI false) = true) : Met l yX5_step (Cond.code yX5_step cX5_step 5 (some .int) :: AW) ({ frames := 4, cells := 0, slots := 0, locals := 127 } : Room) (Pz [.ref (ad 0), .int p0, .int p1] D (TY kA) (cw kA ad X)) (fQ (some (.int ((msL a (wI false) k (X 0) 0).1))) D (cw kA ad X) (cw kA ad (up2 (svX X w) 0 (msL a (wI false) k (X 0) 0).2))) 0 0 (Aw (cw kA ad X)) := by
  refine MetZ (by decide +kernel) (Nat.le_of_ble_eq_true rfl) ?_
  intro p e s m below meth c ls hx hb hrt hts hown hml hlk hnm hP hK hD hS hl
  have hl : lv_has ls 5 [(0, .ref (ad 0)), (1, .int p0), (2, .int p1)] := hl
  have hmk : -p1 = nI k := by rw [hk, Int32.neg_neg]
  obtain ⟨hq1, hq2, hq3, hq4⟩ := st_dn hk hk1 hk2
  refine lv_aload_n hx hb dX5_step_0 rfl (lv_at hl 0 rfl) ?_
  refine lv_iload_n hx hb dX5_step_1 rfl (lv_at hl 1 rfl) ?_
  refine cs_p (runV (As := [.int p0]) (rest := []) ⟨hx, hb, hml, hown, hts⟩ (m_X5_gearOf l D kA ad X a p0 (hp) (ha)) q_221 q_223 qp_0 q_1 q_224 hd_X5_gearOf ⟨rfl, rfl⟩ ⟨Nat.le_of_ble_eq_true rfl, Nat.le_of_ble_eq_true rfl⟩ hK (ws := (cw kA ad X)) hP hD _ (ci := 5) (C := RX5) (T := TX5) (N := 6) rfl (cw_arm (kA := kA) (ad := ad) (X := X)) rfl hl.1 rfl (Nat.le_of_ble_eq_true rfl) dX5_step_2 ⟨Nat.zero_le _, Nat.zero_le _⟩) ?_
  refine lv_astore_n (lv' := [(3, .ref (gA ad 0 a)), (0, .ref (ad 0)), (1, .int p0), (2, .int p1)]) hx hb dX5_step_5 rfl hl (by decide) rfl (fun ls hl => ?_)
  refine lv_iload_n hx hb dX5_step_6 rfl (lv_at hl 3 rfl) ?_
  refine lv_bipush (v := (-24)) hx hb dX5_step_7 (by decide) ?_
  refine lv_icmp_lt (tgt := 22) hx hb dX5_step_9 (by decide) (fun c_1 => ?_) (fun c_1 => ?_)
  · exact absurd c_1 (hq1)
  · skip
    refine lv_iload_n hx hb dX5_step_12 rfl (lv_at hl 3 rfl) ?_
    refine lv_bipush (v := 24) hx hb dX5_step_13 (by decide) ?_
    refine lv_icmp_gt (tgt := 22) hx hb dX5_step_15 (by decide) (fun c_2 => ?_) (fun c_2 => ?_)
    · exact absurd c_2 (hq2)
    · skip
      refine lv_iload_n hx hb dX5_step_18 rfl (lv_at hl 3 rfl) ?_
      refine lv_if_ne (tgt := 32) hx hb dX5_step_19 (by decide) (fun c_3 => ?_) (fun c_3 => ?_)
      · skip
        refine lv_iload_n hx hb dX5_step_32 rfl (lv_at hl 3 rfl) ?_
        refine lv_if_le (tgt := 40) hx hb dX5_step_33 (by decide) (fun c_4 => ?_) (fun c_4 => ?_)
        · skip
          replace c_4 := ge_n c_4
          refine lv_iconst (v := 0) hx hb dX5_step_40 (by decide) ?_
          refine cs_p (runS (As := [.int (bI false)]) (rest := []) ⟨hx, hb, hml, hown, hts⟩ (m_X5_wayOf l D kA ad X false ) q_313 q_314 q_1 q_315 hd_X5_wayOf ⟨rfl, rfl⟩ ⟨Nat.le_of_ble_eq_true rfl, Nat.le_of_ble_eq_true rfl⟩ hK (ws := (cw kA ad X)) hP hD rfl hl.1 rfl (Nat.le_of_ble_eq_true rfl) dX5_step_41 ⟨Nat.zero_le _, Nat.zero_le _⟩) ?_
          refine lv_istore (lv' := [(4, .int (wI false)), (3, .ref (gA ad 0 a)), (0, .ref (ad 0)), (1, .int p0), (2, .int p1)]) hx hb dX5_step_44 hl (by decide) rfl (fun ls hl => ?_)
          refine lv_aload_n hx hb dX5_step_46 rfl (lv_at hl 2 rfl) ?_
          refine lv_aload_n hx hb dX5_step_47 rfl (lv_at hl 1 rfl) ?_
          refine lv_iload hx hb dX5_step_48 (lv_at hl 0 rfl) ?_
          refine cs_p (runV (As := [.ref (gA ad 0 a), .int (wI false)]) (rest := []) ⟨hx, hb, hml, hown, hts⟩ (m_X5_canStep l D kA ad X a (wI false) (ha)) q_316 q_318 qp_2 q_1 q_319 hd_X5_canStep ⟨rfl, rfl⟩ ⟨Nat.le_of_ble_eq_true rfl, Nat.le_of_ble_eq_true rfl⟩ hK (ws := (cw kA ad X)) hP hD _ (ci := 5) (C := RX5) (T := TX5) (N := 6) rfl (cw_arm (kA := kA) (ad := ad) (X := X)) rfl hl.1 rfl (Nat.le_of_ble_eq_true rfl) dX5_step_50 ⟨Nat.zero_le _, Nat.zero_le _⟩) ?_
          refine lv_if_ne (tgt := 66) hx hb dX5_step_53 (by decide) (fun c_5 => ?_) (fun c_5 => ?_)
          · skip
            replace c_5 := bI_n0 c_5
            refine lv_aload_n hx hb dX5_step_66 rfl (lv_at hl 2 rfl) ?_
            refine va_get (ci := 5) (v := .ref (ad 1)) (C := RX5) (T := TX5) (N := 6) hx hb hts inX5 hown hK hP _ (cw_arm (kA := kA) (ad := ad) (X := X)) rfl 1 (by decide) (hts _ q_171) (fun _ h9 => h9) rfl dX5_step_67 ?_
            refine lv_aload_n hx hb dX5_step_70 rfl (lv_at hl 2 rfl) ?_
            refine va_get (ci := 5) (v := .ref (sA ad 0)) (C := RX5) (T := TX5) (N := 6) hx hb hts inX5 hown hK hP _ (cw_arm (kA := kA) (ad := ad) (X := X)) rfl 0 (by decide) (hts _ q_170) (fun _ h9 => h9) rfl dX5_step_71 ?_
            refine cs_fn (runV (As := [.ref (sA ad 0)]) (rest := []) ⟨hx, hb, hml, hown, hts⟩ (m_X1_save l D kA ad X w (hsw) (hsw6)) q_351 q_352 q_353 q_5 q_354 hd_X1_save ⟨rfl, rfl⟩ ⟨Nat.le_of_ble_eq_true rfl, Nat.le_of_ble_eq_true rfl⟩ hK (ws := (cw kA ad X)) hP hD _ (ci := 1) (C := RX1) (T := TX1) (N := 3) rfl (cw_hist (kA := kA) (ad := ad) (X := X)) rfl hl.1 rfl (Nat.le_of_ble_eq_true rfl) dX5_step_74 ⟨Nat.zero_le _, Nat.zero_le _⟩) hS (fun _ h => cw_Aw h) (fun H locs hP _ hS => ?_)
            have hD := cw_D (X' := svX X w) hD
            refine lv_aload_n hx hb dX5_step_77 rfl (lv_at hl 2 rfl) ?_
            refine lv_aload_n hx hb dX5_step_78 rfl (lv_at hl 1 rfl) ?_
            refine lv_iload hx hb dX5_step_79 (lv_at hl 0 rfl) ?_
            refine lv_iload_n hx hb dX5_step_81 rfl (lv_at hl 4 rfl) ?_
            refine lv_if_le (tgt := 89) hx hb dX5_step_82 (by decide) (fun c_6 => ?_) (fun c_6 => ?_)
            · skip
              replace c_6 := ge_n c_6
              refine lv_iload_n hx hb dX5_step_89 rfl (lv_at hl 4 rfl) ?_
              refine lv_ineg hx hb dX5_step_90 ?_
              refine cs_fs (runV (As := [.ref (gA ad 0 a), .int (wI false), .int (-p1)]) (rest := []) ⟨hx, hb, hml, hown, hts⟩ (m_X5_makeSteps l D kA ad (svX X w) a (wI false) (-p1) k (ha) (hmk) (by omega)) q_379 q_381 qp_3 q_1 q_382 hd_X5_makeSteps ⟨rfl, rfl⟩ ⟨Nat.le_of_ble_eq_true rfl, Nat.le_of_ble_eq_true rfl⟩ hK (ws := (cw kA ad (svX X w))) hP hD _ (ci := 5) (C := RX5) (T := TX5) (N := 6) rfl (cw_arm (kA := kA) (ad := ad) (X := svX X w)) rfl hl.1 rfl (Nat.le_of_ble_eq_true rfl) dX5_step_91 ⟨Nat.zero_le _, Nat.zero_le _⟩) hS (fun _ h => cw_Aw h) (fun H locs hP _ hS => ?_)
              have hD := cw_D (X' := up2 (svX X w) 0 (msL a (wI false) k (((svX X w) 0)) 0).2) hD
              have hP : va_P D vwCl (cw kA ad (up2 (svX X w) 0 (msL a (wI false) k (((svX X w) 0)) 0).2)) H := hP
              refine W_top (v' := .int ((msL a (wI false) k (((svX X w) 0)) 0).1)) rfl ?_
              exact end_fi hx hb hrt hlk hP hS (by rw [svX_0]) (fun h => by rw [svX_0] at h; exact h) dX5_step_94
            · exact absurd c_6 (fun h => h hq4)
          · exact absurd c_5 (bI_n _ hcan rfl)
        · exact absurd c_4 (fun h => h hq4)
      · exact absurd c_3 (hq3)

set_option maxRecDepth 100000 in
set_option maxHeartbeats 4000000 in
theorem m_X5_go_p (l : Launch) (D : va_G) (kA : Nat → Nat) (ad : Nat → Nat) (X : Nat → Nat → Int32) (a : Nat) (p0 : Int32) (p1 : Int32) (w : Nat) (hp : p0 = nI a) (ha : a < 4) (hsw : X 8 0 = nI w) (hsw6 : w < 6) (hc0 : ¬ p1 < 0) (hc1 : p1 < 24) (hcg : cgF (X 0) a p1 = true) : Met l yX5_go (Cond.code yX5_go cX5_go 4 (some .int) :: AW) ({ frames := 4, cells := 0, slots := 0, locals := 127 } : Room) (Pz [.ref (ad 0), .int p0, .int p1] D (TY kA) (cw kA ad X)) (fQ (some (.int ((gtF (X 0) a p1).1))) D (cw kA ad X) (cw kA ad (up2 (svX X w) 0 (gtF (X 0) a p1).2))) 0 0 (Aw (cw kA ad X)) := by
  refine MetZ (by decide +kernel) (Nat.le_of_ble_eq_true rfl) ?_
  intro p e s m below meth c ls hx hb hrt hts hown hml hlk hnm hP hK hD hS hl
  have hl : lv_has ls 4 [(0, .ref (ad 0)), (1, .int p0), (2, .int p1)] := hl
  refine lv_aload_n hx hb dX5_go_0 rfl (lv_at hl 0 rfl) ?_
  refine lv_iload_n hx hb dX5_go_1 rfl (lv_at hl 1 rfl) ?_
  refine cs_p (runV (As := [.int p0]) (rest := []) ⟨hx, hb, hml, hown, hts⟩ (m_X5_gearOf l D kA ad X a p0 (hp) (ha)) q_221 q_223 qp_0 q_1 q_224 hd_X5_gearOf ⟨rfl, rfl⟩ ⟨Nat.le_of_ble_eq_true rfl, Nat.le_of_ble_eq_true rfl⟩ hK (ws := (cw kA ad X)) hP hD _ (ci := 5) (C := RX5) (T := TX5) (N := 6) rfl (cw_arm (kA := kA) (ad := ad) (X := X)) rfl hl.1 rfl (Nat.le_of_ble_eq_true rfl) dX5_go_2 ⟨Nat.zero_le _, Nat.zero_le _⟩) ?_
  refine lv_astore_n (lv' := [(3, .ref (gA ad 0 a)), (0, .ref (ad 0)), (1, .int p0), (2, .int p1)]) hx hb dX5_go_5 rfl hl (by decide) rfl (fun ls hl => ?_)
  refine lv_iload_n hx hb dX5_go_6 rfl (lv_at hl 3 rfl) ?_
  refine cs_pv (runS (As := [.int p1]) (rest := []) ⟨hx, hb, hml, hown, hts⟩ (m_X5_checkPlace l D kA ad X p1 (hc0) (hc1)) q_408 q_409 q_1 q_410 hd_X5_checkPlace ⟨rfl, rfl⟩ ⟨Nat.le_of_ble_eq_true rfl, Nat.le_of_ble_eq_true rfl⟩ hK (ws := (cw kA ad X)) hP hD rfl hl.1 rfl (Nat.le_of_ble_eq_true rfl) dX5_go_7 ⟨Nat.zero_le _, Nat.zero_le _⟩) ?_
  refine lv_aload_n hx hb dX5_go_10 rfl (lv_at hl 1 rfl) ?_
  refine lv_aload_n hx hb dX5_go_11 rfl (lv_at hl 0 rfl) ?_
  refine lv_iload_n hx hb dX5_go_12 rfl (lv_at hl 3 rfl) ?_
  refine cs_p (runV (As := [.ref (gA ad 0 a), .int p1]) (rest := []) ⟨hx, hb, hml, hown, hts⟩ (m_X5_canGo l D kA ad X a p1 (ha)) q_420 q_422 qp_4 q_1 q_423 hd_X5_canGo ⟨rfl, rfl⟩ ⟨Nat.le_of_ble_eq_true rfl, Nat.le_of_ble_eq_true rfl⟩ hK (ws := (cw kA ad X)) hP hD _ (ci := 5) (C := RX5) (T := TX5) (N := 6) rfl (cw_arm (kA := kA) (ad := ad) (X := X)) rfl hl.1 rfl (Nat.le_of_ble_eq_true rfl) dX5_go_13 ⟨Nat.zero_le _, Nat.zero_le _⟩) ?_
  refine lv_if_ne (tgt := 29) hx hb dX5_go_16 (by decide) (fun c_1 => ?_) (fun c_1 => ?_)
  · skip
    replace c_1 := bI_n0 c_1
    refine lv_aload_n hx hb dX5_go_29 rfl (lv_at hl 1 rfl) ?_
    refine va_get (ci := 5) (v := .ref (ad 1)) (C := RX5) (T := TX5) (N := 6) hx hb hts inX5 hown hK hP _ (cw_arm (kA := kA) (ad := ad) (X := X)) rfl 1 (by decide) (hts _ q_171) (fun _ h9 => h9) rfl dX5_go_30 ?_
    refine lv_aload_n hx hb dX5_go_33 rfl (lv_at hl 1 rfl) ?_
    refine va_get (ci := 5) (v := .ref (sA ad 0)) (C := RX5) (T := TX5) (N := 6) hx hb hts inX5 hown hK hP _ (cw_arm (kA := kA) (ad := ad) (X := X)) rfl 0 (by decide) (hts _ q_170) (fun _ h9 => h9) rfl dX5_go_34 ?_
    refine cs_fn (runV (As := [.ref (sA ad 0)]) (rest := []) ⟨hx, hb, hml, hown, hts⟩ (m_X1_save l D kA ad X w (hsw) (hsw6)) q_351 q_352 q_353 q_5 q_354 hd_X1_save ⟨rfl, rfl⟩ ⟨Nat.le_of_ble_eq_true rfl, Nat.le_of_ble_eq_true rfl⟩ hK (ws := (cw kA ad X)) hP hD _ (ci := 1) (C := RX1) (T := TX1) (N := 3) rfl (cw_hist (kA := kA) (ad := ad) (X := X)) rfl hl.1 rfl (Nat.le_of_ble_eq_true rfl) dX5_go_37 ⟨Nat.zero_le _, Nat.zero_le _⟩) hS (fun _ h => cw_Aw h) (fun H locs hP _ hS => ?_)
    have hD := cw_D (X' := svX X w) hD
    refine lv_aload_n hx hb dX5_go_40 rfl (lv_at hl 1 rfl) ?_
    refine lv_aload_n hx hb dX5_go_41 rfl (lv_at hl 0 rfl) ?_
    refine lv_iload_n hx hb dX5_go_42 rfl (lv_at hl 3 rfl) ?_
    refine cs_fs (runV (As := [.ref (gA ad 0 a), .int p1]) (rest := []) ⟨hx, hb, hml, hown, hts⟩ (m_X5_goTo l D kA ad (svX X w) a p1 (ha)) q_428 q_430 qp_6 q_1 q_431 hd_X5_goTo ⟨rfl, rfl⟩ ⟨Nat.le_of_ble_eq_true rfl, Nat.le_of_ble_eq_true rfl⟩ hK (ws := (cw kA ad (svX X w))) hP hD _ (ci := 5) (C := RX5) (T := TX5) (N := 6) rfl (cw_arm (kA := kA) (ad := ad) (X := svX X w)) rfl hl.1 rfl (Nat.le_of_ble_eq_true rfl) dX5_go_43 ⟨Nat.zero_le _, Nat.zero_le _⟩) hS (fun _ h => cw_Aw h) (fun H locs hP _ hS => ?_)
    have hD := cw_D (X' := up2 (svX X w) 0 (gtF (((svX X w) 0)) a p1).2) hD
    have hP : va_P D vwCl (cw kA ad (up2 (svX X w) 0 (gtF (((svX X w) 0)) a p1).2)) H := hP
    refine W_top (v' := .int ((gtF (((svX X w) 0)) a p1).1)) rfl ?_
    exact end_fi hx hb hrt hlk hP hS (by rw [svX_0]) (fun h => by rw [svX_0] at h; exact h) dX5_go_46
  · exact absurd c_1 (bI_n _ hcg rfl)

set_option maxRecDepth 100000 in
set_option maxHeartbeats 4000000 in
theorem m_X5_home_p (l : Launch) (D : va_G) (kA : Nat → Nat) (ad : Nat → Nat) (X : Nat → Nat → Int32) (a : Nat) (p0 : Int32) (w : Nat) (hp : p0 = nI a) (ha : a < 4) (hsw : X 8 0 = nI w) (hsw6 : w < 6) : Met l yX5_home (Cond.code yX5_home cX5_home 5 (some .int) :: AW) ({ frames := 4, cells := 0, slots := 0, locals := 127 } : Room) (Pz [.ref (ad 0), .int p0] D (TY kA) (cw kA ad X)) (fQ (some (.int (hvF (X 0) a))) D (cw kA ad X) (cw kA ad (up2 (svX X w) 0 (hmZ (X 0) a)))) 0 0 (Aw (cw kA ad X)) := by
  refine MetZ (by decide +kernel) (Nat.le_of_ble_eq_true rfl) ?_
  intro p e s m below meth c ls hx hb hrt hts hown hml hlk hnm hP hK hD hS hl
  have hl : lv_has ls 5 [(0, .ref (ad 0)), (1, .int p0)] := hl
  refine lv_aload_n hx hb dX5_home_0 rfl (lv_at hl 0 rfl) ?_
  refine lv_iload_n hx hb dX5_home_1 rfl (lv_at hl 1 rfl) ?_
  refine cs_p (runV (As := [.int p0]) (rest := []) ⟨hx, hb, hml, hown, hts⟩ (m_X5_gearOf l D kA ad X a p0 (hp) (ha)) q_221 q_223 qp_0 q_1 q_224 hd_X5_gearOf ⟨rfl, rfl⟩ ⟨Nat.le_of_ble_eq_true rfl, Nat.le_of_ble_eq_true rfl⟩ hK (ws := (cw kA ad X)) hP hD _ (ci := 5) (C := RX5) (T := TX5) (N := 6) rfl (cw_arm (kA := kA) (ad := ad) (X := X)) rfl hl.1 rfl (Nat.le_of_ble_eq_true rfl) dX5_home_2 ⟨Nat.zero_le _, Nat.zero_le _⟩) ?_
  refine lv_astore_n (lv' := [(2, .ref (gA ad 0 a)), (0, .ref (ad 0)), (1, .int p0)]) hx hb dX5_home_5 rfl hl (by decide) rfl (fun ls hl => ?_)
  refine lv_aload_n hx hb dX5_home_6 rfl (lv_at hl 1 rfl) ?_
  refine va_get (ci := 5) (v := .ref (ad 1)) (C := RX5) (T := TX5) (N := 6) hx hb hts inX5 hown hK hP _ (cw_arm (kA := kA) (ad := ad) (X := X)) rfl 1 (by decide) (hts _ q_171) (fun _ h9 => h9) rfl dX5_home_7 ?_
  refine lv_aload_n hx hb dX5_home_10 rfl (lv_at hl 1 rfl) ?_
  refine va_get (ci := 5) (v := .ref (sA ad 0)) (C := RX5) (T := TX5) (N := 6) hx hb hts inX5 hown hK hP _ (cw_arm (kA := kA) (ad := ad) (X := X)) rfl 0 (by decide) (hts _ q_170) (fun _ h9 => h9) rfl dX5_home_11 ?_
  refine cs_fn (runV (As := [.ref (sA ad 0)]) (rest := []) ⟨hx, hb, hml, hown, hts⟩ (m_X1_save l D kA ad X w (hsw) (hsw6)) q_351 q_352 q_353 q_5 q_354 hd_X1_save ⟨rfl, rfl⟩ ⟨Nat.le_of_ble_eq_true rfl, Nat.le_of_ble_eq_true rfl⟩ hK (ws := (cw kA ad X)) hP hD _ (ci := 1) (C := RX1) (T := TX1) (N := 3) rfl (cw_hist (kA := kA) (ad := ad) (X := X)) rfl hl.1 rfl (Nat.le_of_ble_eq_true rfl) dX5_home_14 ⟨Nat.zero_le _, Nat.zero_le _⟩) hS (fun _ h => cw_Aw h) (fun H locs hP _ hS => ?_)
  have hD := cw_D (X' := svX X w) hD
  refine lv_aload_n hx hb dX5_home_17 rfl (lv_at hl 0 rfl) ?_
  refine va_get (ci := 0) (v := .int (sl (((svX X w) 0)) a 6)) (C := RX0) (T := TX0) (N := 12) hx hb hts inX0 hown hK hP _ (cw_gear (kA := kA) (ad := ad) (X := svX X w) (r := 0) (a := a) (by omega) (by omega)) rfl 7 (by decide) (hts _ q_81) (fun _ h9 => h9) rfl dX5_home_18 ?_
  refine lv_istore_n (lv' := [(3, .int (sl (((svX X w) 0)) a 6)), (2, .ref (gA ad 0 a)), (0, .ref (ad 0)), (1, .int p0)]) hx hb dX5_home_21 rfl hl (by decide) rfl (fun ls hl => ?_)
  refine lv_aload_n hx hb dX5_home_22 rfl (lv_at hl 2 rfl) ?_
  refine lv_aload_n hx hb dX5_home_23 rfl (lv_at hl 1 rfl) ?_
  refine cs_fs (runV (As := [.ref (gA ad 0 a)]) (rest := []) ⟨hx, hb, hml, hown, hts⟩ (m_X5_makeHomed l D kA ad (svX X w) a (ha)) q_451 q_453 qp_8 q_1 q_454 hd_X5_makeHomed ⟨rfl, rfl⟩ ⟨Nat.le_of_ble_eq_true rfl, Nat.le_of_ble_eq_true rfl⟩ hK (ws := (cw kA ad (svX X w))) hP hD _ (ci := 5) (C := RX5) (T := TX5) (N := 6) rfl (cw_arm (kA := kA) (ad := ad) (X := svX X w)) rfl hl.1 rfl (Nat.le_of_ble_eq_true rfl) dX5_home_24 ⟨Nat.zero_le _, Nat.zero_le _⟩) hS (fun _ h => cw_Aw h) (fun H locs hP _ hS => ?_)
  have hD := cw_D (X' := up2 (svX X w) 0 (hmZ (((svX X w) 0)) a)) hD
  have hP : va_P D vwCl (cw kA ad (up2 (svX X w) 0 (hmZ (((svX X w) 0)) a))) H := hP
  refine W_top (v' := .int (bI (hmB (((svX X w) 0)) a))) rfl ?_
  refine lv_istore (lv' := [(4, .int (bI (hmB (((svX X w) 0)) a))), (3, .int (sl (((svX X w) 0)) a 6)), (2, .ref (gA ad 0 a)), (0, .ref (ad 0)), (1, .int p0)]) hx hb dX5_home_27 hl (by decide) rfl (fun ls hl => ?_)
  refine lv_iload hx hb dX5_home_29 (lv_at hl 0 rfl) ?_
  refine lv_if_eq (tgt := 43) hx hb dX5_home_31 (by decide) (fun c_1 => ?_) (fun c_1 => ?_)
  · skip
    replace c_1 := bI_0.mp c_1
    refine lv_iconst (v := (-1)) hx hb dX5_home_43 (by decide) ?_
    exact end_fi hx hb hrt hlk hP hS (by rw [← svX_0 (X := X) (w := w), hvF, if_neg (by rw [c_1]; decide)] <;> rfl) (fun h => by rw [svX_0] at h; exact h) dX5_home_44
  · skip
    replace c_1 := bI_n0 c_1
    refine lv_aload_n hx hb dX5_home_34 rfl (lv_at hl 2 rfl) ?_
    refine va_get (ci := 0) (v := .int (sl ((hmZ (((svX X w) 0)) a)) a 6)) (C := RX0) (T := TX0) (N := 12) hx hb hts inX0 hown hK hP _ (cw_gear (kA := kA) (ad := ad) (X := up2 (svX X w) 0 (hmZ (((svX X w) 0)) a)) (r := 0) (a := a) (by omega) (by omega)) rfl 7 (by decide) (hts _ q_81) (fun _ h9 => h9) rfl dX5_home_35 ?_
    refine lv_iload_n hx hb dX5_home_38 rfl (lv_at hl 1 rfl) ?_
    refine lv_isub hx hb dX5_home_39 ?_
    refine lv_goto (tgt := 44) hx hb dX5_home_40 (by decide) ?_
    exact end_fi hx hb hrt hlk hP hS (by rw [← svX_0 (X := X) (w := w), hvF, if_pos c_1] <;> rfl) (fun h => by rw [svX_0] at h; exact h) dX5_home_44

set_option maxRecDepth 100000 in
set_option maxHeartbeats 4000000 in
theorem m_X5_grease_p (l : Launch) (D : va_G) (kA : Nat → Nat) (ad : Nat → Nat) (X : Nat → Nat → Int32) (a : Nat) (p0 : Int32) (w : Nat) (hp : p0 = nI a) (ha : a < 4) (hsw : X 8 0 = nI w) (hsw6 : w < 6) (hgs : gsF (X 0) = true) : Met l yX5_grease (Cond.code yX5_grease cX5_grease 3 (some .int) :: AW) ({ frames := 4, cells := 0, slots := 0, locals := 127 } : Room) (Pz [.ref (ad 0), .int p0] D (TY kA) (cw kA ad X)) (fQ (some (.int (grZ (X 0) a 6))) D (cw kA ad X) (cw kA ad (up2 (svX X w) 0 (grZ (X 0) a)))) 0 0 (Aw (cw kA ad X)) := by
  refine MetZ (by decide +kernel) (Nat.le_of_ble_eq_true rfl) ?_
  intro p e s m below meth c ls hx hb hrt hts hown hml hlk hnm hP hK hD hS hl
  have hl : lv_has ls 3 [(0, .ref (ad 0)), (1, .int p0)] := hl
  refine lv_aload_n hx hb dX5_grease_0 rfl (lv_at hl 0 rfl) ?_
  refine lv_iload_n hx hb dX5_grease_1 rfl (lv_at hl 1 rfl) ?_
  refine cs_p (runV (As := [.int p0]) (rest := []) ⟨hx, hb, hml, hown, hts⟩ (m_X5_gearOf l D kA ad X a p0 (hp) (ha)) q_221 q_223 qp_0 q_1 q_224 hd_X5_gearOf ⟨rfl, rfl⟩ ⟨Nat.le_of_ble_eq_true rfl, Nat.le_of_ble_eq_true rfl⟩ hK (ws := (cw kA ad X)) hP hD _ (ci := 5) (C := RX5) (T := TX5) (N := 6) rfl (cw_arm (kA := kA) (ad := ad) (X := X)) rfl hl.1 rfl (Nat.le_of_ble_eq_true rfl) dX5_grease_2 ⟨Nat.zero_le _, Nat.zero_le _⟩) ?_
  refine lv_astore_n (lv' := [(2, .ref (gA ad 0 a)), (0, .ref (ad 0)), (1, .int p0)]) hx hb dX5_grease_5 rfl hl (by decide) rfl (fun ls hl => ?_)
  refine lv_aload_n hx hb dX5_grease_6 rfl (lv_at hl 1 rfl) ?_
  refine cs_p (runV (As := []) (rest := []) ⟨hx, hb, hml, hown, hts⟩ (m_X5_canGrease l D kA ad X ) q_474 q_476 qp_9 q_1 q_477 hd_X5_canGrease ⟨rfl, rfl⟩ ⟨Nat.le_of_ble_eq_true rfl, Nat.le_of_ble_eq_true rfl⟩ hK (ws := (cw kA ad X)) hP hD _ (ci := 5) (C := RX5) (T := TX5) (N := 6) rfl (cw_arm (kA := kA) (ad := ad) (X := X)) rfl hl.1 rfl (Nat.le_of_ble_eq_true rfl) dX5_grease_7 ⟨Nat.zero_le _, Nat.zero_le _⟩) ?_
  refine lv_if_ne (tgt := 23) hx hb dX5_grease_10 (by decide) (fun c_1 => ?_) (fun c_1 => ?_)
  · skip
    replace c_1 := bI_n0 c_1
    refine lv_aload_n hx hb dX5_grease_23 rfl (lv_at hl 1 rfl) ?_
    refine va_get (ci := 5) (v := .ref (ad 1)) (C := RX5) (T := TX5) (N := 6) hx hb hts inX5 hown hK hP _ (cw_arm (kA := kA) (ad := ad) (X := X)) rfl 1 (by decide) (hts _ q_171) (fun _ h9 => h9) rfl dX5_grease_24 ?_
    refine lv_aload_n hx hb dX5_grease_27 rfl (lv_at hl 1 rfl) ?_
    refine va_get (ci := 5) (v := .ref (sA ad 0)) (C := RX5) (T := TX5) (N := 6) hx hb hts inX5 hown hK hP _ (cw_arm (kA := kA) (ad := ad) (X := X)) rfl 0 (by decide) (hts _ q_170) (fun _ h9 => h9) rfl dX5_grease_28 ?_
    refine cs_fn (runV (As := [.ref (sA ad 0)]) (rest := []) ⟨hx, hb, hml, hown, hts⟩ (m_X1_save l D kA ad X w (hsw) (hsw6)) q_351 q_352 q_353 q_5 q_354 hd_X1_save ⟨rfl, rfl⟩ ⟨Nat.le_of_ble_eq_true rfl, Nat.le_of_ble_eq_true rfl⟩ hK (ws := (cw kA ad X)) hP hD _ (ci := 1) (C := RX1) (T := TX1) (N := 3) rfl (cw_hist (kA := kA) (ad := ad) (X := X)) rfl hl.1 rfl (Nat.le_of_ble_eq_true rfl) dX5_grease_31 ⟨Nat.zero_le _, Nat.zero_le _⟩) hS (fun _ h => cw_Aw h) (fun H locs hP _ hS => ?_)
    have hD := cw_D (X' := svX X w) hD
    refine lv_aload_n hx hb dX5_grease_34 rfl (lv_at hl 1 rfl) ?_
    refine lv_aload_n hx hb dX5_grease_35 rfl (lv_at hl 0 rfl) ?_
    refine cs_fn (runV (As := [.ref (gA ad 0 a)]) (rest := []) ⟨hx, hb, hml, hown, hts⟩ (m_X5_makeGreased l D kA ad (svX X w) a (ha)) q_479 q_481 qp_10 q_1 q_482 hd_X5_makeGreased ⟨rfl, rfl⟩ ⟨Nat.le_of_ble_eq_true rfl, Nat.le_of_ble_eq_true rfl⟩ hK (ws := (cw kA ad (svX X w))) hP hD _ (ci := 5) (C := RX5) (T := TX5) (N := 6) rfl (cw_arm (kA := kA) (ad := ad) (X := svX X w)) rfl hl.1 rfl (Nat.le_of_ble_eq_true rfl) dX5_grease_36 ⟨Nat.zero_le _, Nat.zero_le _⟩) hS (fun _ h => cw_Aw h) (fun H locs hP _ hS => ?_)
    have hD := cw_D (X' := up2 (svX X w) 0 (grZ (((svX X w) 0)) a)) hD
    have hP : va_P D vwCl (cw kA ad (up2 (svX X w) 0 (grZ (((svX X w) 0)) a))) H := hP
    refine lv_aload_n hx hb dX5_grease_39 rfl (lv_at hl 1 rfl) ?_
    refine va_get (ci := 5) (v := .ref (sA ad 0)) (C := RX5) (T := TX5) (N := 6) hx hb hts inX5 hown hK hP _ (cw_arm (kA := kA) (ad := ad) (X := up2 (svX X w) 0 (grZ (((svX X w) 0)) a))) rfl 0 (by decide) (hts _ q_170) (fun _ h9 => h9) rfl dX5_grease_40 ?_
    refine va_get (ci := 4) (v := .int ((grZ (((svX X w) 0)) a) 6)) (C := RX4) (T := TX4) (N := 4) hx hb hts inX4 hown hK hP _ (cw_state (kA := kA) (ad := ad) (X := up2 (svX X w) 0 (grZ (((svX X w) 0)) a)) (r := 0) (by omega)) rfl 2 (by decide) (hts _ q_117) (fun _ h9 => h9) rfl dX5_grease_43 ?_
    exact end_fi hx hb hrt hlk hP hS (by rw [svX_0]) (fun h => by rw [svX_0] at h; exact h) dX5_grease_46
  · exact absurd c_1 (bI_n _ hgs rfl)

set_option maxRecDepth 100000 in
set_option maxHeartbeats 4000000 in
theorem m_X5_mend_p (l : Launch) (D : va_G) (kA : Nat → Nat) (ad : Nat → Nat) (X : Nat → Nat → Int32) (a : Nat) (p0 : Int32) (p1 : Int32) (w : Nat) (hp : p0 = nI a) (ha : a < 4) (hsw : X 8 0 = nI w) (hsw6 : w < 6) (hc0 : ¬ p1 < 0) (hc1 : p1 < 24) (hwt : wiF p1 0 23 = true) (hme : ¬ X 0 6 < gwr (sl (X 0) a) p1 * X 0 3) : Met l yX5_mend (Cond.code yX5_mend cX5_mend 5 (some .int) :: AW) ({ frames := 4, cells := 0, slots := 0, locals := 127 } : Room) (Pz [.ref (ad 0), .int p0, .int p1] D (TY kA) (cw kA ad X)) (fQ (some (.int (gwr (sl (X 0) a) p1 * X 0 3))) D (cw kA ad X) (cw kA ad (up2 (svX X w) 0 (puZ (payZ (X 0) (gwr (sl (X 0) a) p1 * X 0 3)) a (p1.toNatClampNeg + 11) 0)))) 0 0 (Aw (cw kA ad X)) := by
  refine MetZ (by decide +kernel) (Nat.le_of_ble_eq_true rfl) ?_
  intro p e s m below meth c ls hx hb hrt hts hown hml hlk hnm hP hK hD hS hl
  have hl : lv_has ls 5 [(0, .ref (ad 0)), (1, .int p0), (2, .int p1)] := hl
  refine lv_aload_n hx hb dX5_mend_0 rfl (lv_at hl 0 rfl) ?_
  refine lv_iload_n hx hb dX5_mend_1 rfl (lv_at hl 1 rfl) ?_
  refine cs_p (runV (As := [.int p0]) (rest := []) ⟨hx, hb, hml, hown, hts⟩ (m_X5_gearOf l D kA ad X a p0 (hp) (ha)) q_221 q_223 qp_0 q_1 q_224 hd_X5_gearOf ⟨rfl, rfl⟩ ⟨Nat.le_of_ble_eq_true rfl, Nat.le_of_ble_eq_true rfl⟩ hK (ws := (cw kA ad X)) hP hD _ (ci := 5) (C := RX5) (T := TX5) (N := 6) rfl (cw_arm (kA := kA) (ad := ad) (X := X)) rfl hl.1 rfl (Nat.le_of_ble_eq_true rfl) dX5_mend_2 ⟨Nat.zero_le _, Nat.zero_le _⟩) ?_
  refine lv_astore_n (lv' := [(3, .ref (gA ad 0 a)), (0, .ref (ad 0)), (1, .int p0), (2, .int p1)]) hx hb dX5_mend_5 rfl hl (by decide) rfl (fun ls hl => ?_)
  refine lv_iload_n hx hb dX5_mend_6 rfl (lv_at hl 3 rfl) ?_
  refine cs_pv (runS (As := [.int p1]) (rest := []) ⟨hx, hb, hml, hown, hts⟩ (m_X5_checkTooth l D kA ad X p1 (hc0) (hc1)) q_491 q_492 q_1 q_493 hd_X5_checkTooth ⟨rfl, rfl⟩ ⟨Nat.le_of_ble_eq_true rfl, Nat.le_of_ble_eq_true rfl⟩ hK (ws := (cw kA ad X)) hP hD rfl hl.1 rfl (Nat.le_of_ble_eq_true rfl) dX5_mend_7 ⟨Nat.zero_le _, Nat.zero_le _⟩) ?_
  refine lv_aload_n hx hb dX5_mend_10 rfl (lv_at hl 0 rfl) ?_
  refine lv_iload_n hx hb dX5_mend_11 rfl (lv_at hl 3 rfl) ?_
  refine cs_p (runV (As := [.int p1]) (rest := []) ⟨hx, hb, hml, hown, hts⟩ (m_X0_wearOf l D kA (gA ad 0 a) (wA ad 0 a) ((sl ((X 0)) a) 0) ((sl ((X 0)) a) 1) ((sl ((X 0)) a) 2) ((sl ((X 0)) a) 3) ((sl ((X 0)) a) 4) ((sl ((X 0)) a) 5) ((sl ((X 0)) a) 6) ((sl ((X 0)) a) 7) ((sl ((X 0)) a) 8) ((sl ((X 0)) a) 9) ((sl ((X 0)) a) 10) (fun t => (sl ((X 0)) a) (t + 11)) p1 ) q_495 q_328 q_329 q_4 q_330 hd_X0_wearOf ⟨rfl, rfl⟩ ⟨Nat.le_of_ble_eq_true rfl, Nat.le_of_ble_eq_true rfl⟩ hK (ws := [((gA ad 0 a), .inr (0, [.ref (wA ad 0 a), .int ((sl ((X 0)) a) 0), .int ((sl ((X 0)) a) 1), .int ((sl ((X 0)) a) 2), .int ((sl ((X 0)) a) 3), .int ((sl ((X 0)) a) 4), .int ((sl ((X 0)) a) 5), .int ((sl ((X 0)) a) 6), .int ((sl ((X 0)) a) 7), .int ((sl ((X 0)) a) 8), .int ((sl ((X 0)) a) 9), .int ((sl ((X 0)) a) 10)])), ((wA ad 0 a), .inl (kA 0, 24, .inl (fun t => (sl ((X 0)) a) (t + 11))))]) (P2 hP (cw_gear (kA := kA) (ad := ad) (X := X) (r := 0) (a := a) (by omega) (by omega)) (cw_wears (kA := kA) (ad := ad) (X := X) (r := 0) (a := a) (by omega) (by omega))) (D2 hD (cw_gear (kA := kA) (ad := ad) (X := X) (r := 0) (a := a) (by omega) (by omega)) (cw_wears (kA := kA) (ad := ad) (X := X) (r := 0) (a := a) (by omega) (by omega)) (by omega)) 0 (ci := 0) (C := RX0) (T := TX0) (N := 12) rfl rfl rfl hl.1 rfl (Nat.le_of_ble_eq_true rfl) dX5_mend_12 ⟨Nat.zero_le _, Nat.zero_le _⟩) ?_
  refine lv_aload_n hx hb dX5_mend_15 rfl (lv_at hl 1 rfl) ?_
  refine va_get (ci := 5) (v := .ref (sA ad 0)) (C := RX5) (T := TX5) (N := 6) hx hb hts inX5 hown hK hP _ (cw_arm (kA := kA) (ad := ad) (X := X)) rfl 0 (by decide) (hts _ q_170) (fun _ h9 => h9) rfl dX5_mend_16 ?_
  refine va_get (ci := 4) (v := .ref (rA ad 0)) (C := RX4) (T := TX4) (N := 4) hx hb hts inX4 hown hK hP _ (cw_state (kA := kA) (ad := ad) (X := X) (r := 0) (by omega)) rfl 0 (by decide) (hts _ q_114) (fun _ h9 => h9) rfl dX5_mend_19 ?_
  refine va_get (ci := 3) (v := .int ((X 0) 3)) (C := RX3) (T := TX3) (N := 6) hx hb hts inX3 hown hK hP _ (cw_rules (kA := kA) (ad := ad) (X := X) (r := 0) (by omega)) rfl 3 (by decide) (hts _ q_43) (fun _ h9 => h9) rfl dX5_mend_22 ?_
  refine lv_imul hx hb dX5_mend_25 ?_
  refine lv_istore (lv' := [(4, .int ((wrF (fun t => (sl ((X 0)) a) (t + 11)) p1) * ((X 0) 3))), (3, .ref (gA ad 0 a)), (0, .ref (ad 0)), (1, .int p0), (2, .int p1)]) hx hb dX5_mend_26 hl (by decide) rfl (fun ls hl => ?_)
  refine lv_aload_n hx hb dX5_mend_28 rfl (lv_at hl 2 rfl) ?_
  refine va_get (ci := 5) (v := .ref (sA ad 0)) (C := RX5) (T := TX5) (N := 6) hx hb hts inX5 hown hK hP _ (cw_arm (kA := kA) (ad := ad) (X := X)) rfl 0 (by decide) (hts _ q_170) (fun _ h9 => h9) rfl dX5_mend_29 ?_
  refine va_get (ci := 4) (v := .int ((X 0) 6)) (C := RX4) (T := TX4) (N := 4) hx hb hts inX4 hown hK hP _ (cw_state (kA := kA) (ad := ad) (X := X) (r := 0) (by omega)) rfl 2 (by decide) (hts _ q_117) (fun _ h9 => h9) rfl dX5_mend_32 ?_
  refine lv_iload hx hb dX5_mend_35 (lv_at hl 0 rfl) ?_
  refine lv_icmp_ge (tgt := 50) hx hb dX5_mend_37 (by decide) (fun c_1 => ?_) (fun c_1 => ?_)
  · skip
    replace c_1 := ge_n c_1
    refine lv_aload_n hx hb dX5_mend_50 rfl (lv_at hl 2 rfl) ?_
    refine va_get (ci := 5) (v := .ref (ad 1)) (C := RX5) (T := TX5) (N := 6) hx hb hts inX5 hown hK hP _ (cw_arm (kA := kA) (ad := ad) (X := X)) rfl 1 (by decide) (hts _ q_171) (fun _ h9 => h9) rfl dX5_mend_51 ?_
    refine lv_aload_n hx hb dX5_mend_54 rfl (lv_at hl 2 rfl) ?_
    refine va_get (ci := 5) (v := .ref (sA ad 0)) (C := RX5) (T := TX5) (N := 6) hx hb hts inX5 hown hK hP _ (cw_arm (kA := kA) (ad := ad) (X := X)) rfl 0 (by decide) (hts _ q_170) (fun _ h9 => h9) rfl dX5_mend_55 ?_
    refine cs_fn (runV (As := [.ref (sA ad 0)]) (rest := []) ⟨hx, hb, hml, hown, hts⟩ (m_X1_save l D kA ad X w (hsw) (hsw6)) q_351 q_352 q_353 q_5 q_354 hd_X1_save ⟨rfl, rfl⟩ ⟨Nat.le_of_ble_eq_true rfl, Nat.le_of_ble_eq_true rfl⟩ hK (ws := (cw kA ad X)) hP hD _ (ci := 1) (C := RX1) (T := TX1) (N := 3) rfl (cw_hist (kA := kA) (ad := ad) (X := X)) rfl hl.1 rfl (Nat.le_of_ble_eq_true rfl) dX5_mend_58 ⟨Nat.zero_le _, Nat.zero_le _⟩) hS (fun _ h => cw_Aw h) (fun H locs hP _ hS => ?_)
    have hD := cw_D (X' := svX X w) hD
    refine lv_aload_n hx hb dX5_mend_61 rfl (lv_at hl 2 rfl) ?_
    refine va_get (ci := 5) (v := .ref (sA ad 0)) (C := RX5) (T := TX5) (N := 6) hx hb hts inX5 hown hK hP _ (cw_arm (kA := kA) (ad := ad) (X := svX X w)) rfl 0 (by decide) (hts _ q_170) (fun _ h9 => h9) rfl dX5_mend_62 ?_
    refine lv_iload hx hb dX5_mend_65 (lv_at hl 0 rfl) ?_
    refine cs_fn (runV (As := [.int ((wrF (fun t => (sl ((X 0)) a) (t + 11)) p1) * ((X 0) 3))]) (rest := []) ⟨hx, hb, hml, hown, hts⟩ (m_X4_payCare l D kA ad (svX X w) 0 ((wrF (fun t => (sl ((X 0)) a) (t + 11)) p1) * ((X 0) 3)) (by omega)) q_483 q_484 q_485 q_2 q_486 hd_X4_payCare ⟨rfl, rfl⟩ ⟨Nat.le_of_ble_eq_true rfl, Nat.le_of_ble_eq_true rfl⟩ hK (ws := (cw kA ad (svX X w))) hP hD _ (ci := 4) (C := RX4) (T := TX4) (N := 4) rfl (cw_state (kA := kA) (ad := ad) (X := svX X w) (r := 0) (by omega)) rfl hl.1 rfl (Nat.le_of_ble_eq_true rfl) dX5_mend_67 ⟨Nat.zero_le _, Nat.zero_le _⟩) hS (fun _ h => cw_Aw h) (fun H locs hP _ hS => ?_)
    have hD := cw_D (X' := up2 (svX X w) 0 (payZ (((svX X w) 0)) ((wrF (fun t => (sl ((X 0)) a) (t + 11)) p1) * ((X 0) 3)))) hD
    have hP : va_P D vwCl (cw kA ad (up2 (svX X w) 0 (payZ (((svX X w) 0)) ((wrF (fun t => (sl ((X 0)) a) (t + 11)) p1) * ((X 0) 3))))) H := hP
    refine lv_aload_n hx hb dX5_mend_70 rfl (lv_at hl 1 rfl) ?_
    refine lv_iload_n hx hb dX5_mend_71 rfl (lv_at hl 4 rfl) ?_
    refine lv_iconst (v := 0) hx hb dX5_mend_72 (by decide) ?_
    refine cs_fn (runV (As := [.int p1, .int 0]) (rest := []) ⟨hx, hb, hml, hown, hts⟩ (m_X0_setWear l D kA (gA ad 0 a) (wA ad 0 a) ((sl ((payZ (((svX X w) 0)) ((wrF (fun t => (sl ((X 0)) a) (t + 11)) p1) * ((X 0) 3)))) a) 0) ((sl ((payZ (((svX X w) 0)) ((wrF (fun t => (sl ((X 0)) a) (t + 11)) p1) * ((X 0) 3)))) a) 1) ((sl ((payZ (((svX X w) 0)) ((wrF (fun t => (sl ((X 0)) a) (t + 11)) p1) * ((X 0) 3)))) a) 2) ((sl ((payZ (((svX X w) 0)) ((wrF (fun t => (sl ((X 0)) a) (t + 11)) p1) * ((X 0) 3)))) a) 3) ((sl ((payZ (((svX X w) 0)) ((wrF (fun t => (sl ((X 0)) a) (t + 11)) p1) * ((X 0) 3)))) a) 4) ((sl ((payZ (((svX X w) 0)) ((wrF (fun t => (sl ((X 0)) a) (t + 11)) p1) * ((X 0) 3)))) a) 5) ((sl ((payZ (((svX X w) 0)) ((wrF (fun t => (sl ((X 0)) a) (t + 11)) p1) * ((X 0) 3)))) a) 6) ((sl ((payZ (((svX X w) 0)) ((wrF (fun t => (sl ((X 0)) a) (t + 11)) p1) * ((X 0) 3)))) a) 7) ((sl ((payZ (((svX X w) 0)) ((wrF (fun t => (sl ((X 0)) a) (t + 11)) p1) * ((X 0) 3)))) a) 8) ((sl ((payZ (((svX X w) 0)) ((wrF (fun t => (sl ((X 0)) a) (t + 11)) p1) * ((X 0) 3)))) a) 9) ((sl ((payZ (((svX X w) 0)) ((wrF (fun t => (sl ((X 0)) a) (t + 11)) p1) * ((X 0) 3)))) a) 10) (fun t => (sl ((payZ (((svX X w) 0)) ((wrF (fun t => (sl ((X 0)) a) (t + 11)) p1) * ((X 0) 3)))) a) (t + 11)) p1 0 ) q_497 q_395 q_396 q_4 q_397 hd_X0_setWear ⟨rfl, rfl⟩ ⟨Nat.le_of_ble_eq_true rfl, Nat.le_of_ble_eq_true rfl⟩ hK (ws := [((gA ad 0 a), .inr (0, [.ref (wA ad 0 a), .int ((sl ((payZ (((svX X w) 0)) ((wrF (fun t => (sl ((X 0)) a) (t + 11)) p1) * ((X 0) 3)))) a) 0), .int ((sl ((payZ (((svX X w) 0)) ((wrF (fun t => (sl ((X 0)) a) (t + 11)) p1) * ((X 0) 3)))) a) 1), .int ((sl ((payZ (((svX X w) 0)) ((wrF (fun t => (sl ((X 0)) a) (t + 11)) p1) * ((X 0) 3)))) a) 2), .int ((sl ((payZ (((svX X w) 0)) ((wrF (fun t => (sl ((X 0)) a) (t + 11)) p1) * ((X 0) 3)))) a) 3), .int ((sl ((payZ (((svX X w) 0)) ((wrF (fun t => (sl ((X 0)) a) (t + 11)) p1) * ((X 0) 3)))) a) 4), .int ((sl ((payZ (((svX X w) 0)) ((wrF (fun t => (sl ((X 0)) a) (t + 11)) p1) * ((X 0) 3)))) a) 5), .int ((sl ((payZ (((svX X w) 0)) ((wrF (fun t => (sl ((X 0)) a) (t + 11)) p1) * ((X 0) 3)))) a) 6), .int ((sl ((payZ (((svX X w) 0)) ((wrF (fun t => (sl ((X 0)) a) (t + 11)) p1) * ((X 0) 3)))) a) 7), .int ((sl ((payZ (((svX X w) 0)) ((wrF (fun t => (sl ((X 0)) a) (t + 11)) p1) * ((X 0) 3)))) a) 8), .int ((sl ((payZ (((svX X w) 0)) ((wrF (fun t => (sl ((X 0)) a) (t + 11)) p1) * ((X 0) 3)))) a) 9), .int ((sl ((payZ (((svX X w) 0)) ((wrF (fun t => (sl ((X 0)) a) (t + 11)) p1) * ((X 0) 3)))) a) 10)])), ((wA ad 0 a), .inl (kA 0, 24, .inl (fun t => (sl ((payZ (((svX X w) 0)) ((wrF (fun t => (sl ((X 0)) a) (t + 11)) p1) * ((X 0) 3)))) a) (t + 11))))]) (P2 hP (cw_gear (kA := kA) (ad := ad) (X := up2 (svX X w) 0 (payZ (((svX X w) 0)) ((wrF (fun t => (sl ((X 0)) a) (t + 11)) p1) * ((X 0) 3)))) (r := 0) (a := a) (by omega) (by omega)) (cw_wears (kA := kA) (ad := ad) (X := up2 (svX X w) 0 (payZ (((svX X w) 0)) ((wrF (fun t => (sl ((X 0)) a) (t + 11)) p1) * ((X 0) 3)))) (r := 0) (a := a) (by omega) (by omega))) (D2 hD (cw_gear (kA := kA) (ad := ad) (X := up2 (svX X w) 0 (payZ (((svX X w) 0)) ((wrF (fun t => (sl ((X 0)) a) (t + 11)) p1) * ((X 0) 3)))) (r := 0) (a := a) (by omega) (by omega)) (cw_wears (kA := kA) (ad := ad) (X := up2 (svX X w) 0 (payZ (((svX X w) 0)) ((wrF (fun t => (sl ((X 0)) a) (t + 11)) p1) * ((X 0) 3)))) (r := 0) (a := a) (by omega) (by omega)) (by omega)) 0 (ci := 0) (C := RX0) (T := TX0) (N := 12) rfl rfl rfl hl.1 rfl (Nat.le_of_ble_eq_true rfl) dX5_mend_73 ⟨Nat.zero_le _, Nat.zero_le _⟩) hS (cw_sub (fun q hq => by simp only [List.mem_cons, List.not_mem_nil, or_false] at hq; rcases hq with rfl | rfl <;> first | exact ⟨2 * (4 * 0 + a) + 5, by omega, rfl⟩ | exact ⟨2 * (4 * 0 + a) + 6, by omega, rfl⟩)) (fun H locs hP1 hk1 hS => ?_)
    obtain ⟨hP, hD⟩ := jn_G2 (r := 0) (a := a) (by omega) (by omega) (G' := mkG ((sl ((payZ (((svX X w) 0)) ((wrF (fun t => (sl ((X 0)) a) (t + 11)) p1) * ((X 0) 3)))) a) 0) ((sl ((payZ (((svX X w) 0)) ((wrF (fun t => (sl ((X 0)) a) (t + 11)) p1) * ((X 0) 3)))) a) 1) ((sl ((payZ (((svX X w) 0)) ((wrF (fun t => (sl ((X 0)) a) (t + 11)) p1) * ((X 0) 3)))) a) 2) ((sl ((payZ (((svX X w) 0)) ((wrF (fun t => (sl ((X 0)) a) (t + 11)) p1) * ((X 0) 3)))) a) 3) ((sl ((payZ (((svX X w) 0)) ((wrF (fun t => (sl ((X 0)) a) (t + 11)) p1) * ((X 0) 3)))) a) 4) ((sl ((payZ (((svX X w) 0)) ((wrF (fun t => (sl ((X 0)) a) (t + 11)) p1) * ((X 0) 3)))) a) 5) ((sl ((payZ (((svX X w) 0)) ((wrF (fun t => (sl ((X 0)) a) (t + 11)) p1) * ((X 0) 3)))) a) 6) ((sl ((payZ (((svX X w) 0)) ((wrF (fun t => (sl ((X 0)) a) (t + 11)) p1) * ((X 0) 3)))) a) 7) ((sl ((payZ (((svX X w) 0)) ((wrF (fun t => (sl ((X 0)) a) (t + 11)) p1) * ((X 0) 3)))) a) 8) ((sl ((payZ (((svX X w) 0)) ((wrF (fun t => (sl ((X 0)) a) (t + 11)) p1) * ((X 0) 3)))) a) 9) ((sl ((payZ (((svX X w) 0)) ((wrF (fun t => (sl ((X 0)) a) (t + 11)) p1) * ((X 0) 3)))) a) 10) (wsF (fun t => (sl ((payZ (((svX X w) 0)) ((wrF (fun t => (sl ((X 0)) a) (t + 11)) p1) * ((X 0) 3)))) a) (t + 11)) p1 0)) hP hD hk1 hP1
    clear hk1 hP1
    rw [nf_G] at hP hD
    refine lv_iload hx hb dX5_mend_76 (lv_at hl 0 rfl) ?_
    exact end_fi hx hb hrt hlk hP hS (rfl) (fun h => by rw [svX_0] at h; rw [← mend_eq (y := payZ (X 0) (gwr (sl (X 0) a) p1 * X 0 3)) hwt]; exact h) dX5_mend_78
  · exact absurd c_1 (fun h => h (ngt_le hme))

set_option maxRecDepth 100000 in
set_option maxHeartbeats 4000000 in
theorem m_X5_axis_p (l : Launch) (D : va_G) (kA : Nat → Nat) (ad : Nat → Nat) (X : Nat → Nat → Int32) (a : Nat) (p0 : Int32) (p1 : Int32) (hp : p0 = nI a) (ha : a < 4) (hw0 : ¬ p1 < 0) (hw1 : p1 < 12) : Met l yX5_axis (Cond.code yX5_axis cX5_axis 4 (some .int) :: AW) ({ frames := 3, cells := 0, slots := 0, locals := 65 } : Room) (Pz [.ref (ad 0), .int p0, .int p1] D (TY kA) (cw kA ad X)) (pQ (some (.int (propG (sl (X 0) a) p1)))) 0 0 (fun _ => False) := by
  refine MetZ (by decide +kernel) (Nat.le_of_ble_eq_true rfl) ?_
  intro p e s m below meth c ls hx hb hrt hts hown hml hlk hnm hP hK hD hS hl
  have hl : lv_has ls 4 [(0, .ref (ad 0)), (1, .int p0), (2, .int p1)] := hl
  refine lv_aload_n hx hb dX5_axis_0 rfl (lv_at hl 0 rfl) ?_
  refine lv_iload_n hx hb dX5_axis_1 rfl (lv_at hl 1 rfl) ?_
  refine cs_p (runV (As := [.int p0]) (rest := []) ⟨hx, hb, hml, hown, hts⟩ (m_X5_gearOf l D kA ad X a p0 (hp) (ha)) q_221 q_223 qp_0 q_1 q_224 hd_X5_gearOf ⟨rfl, rfl⟩ ⟨Nat.le_of_ble_eq_true rfl, Nat.le_of_ble_eq_true rfl⟩ hK (ws := (cw kA ad X)) hP hD _ (ci := 5) (C := RX5) (T := TX5) (N := 6) rfl (cw_arm (kA := kA) (ad := ad) (X := X)) rfl hl.1 rfl (Nat.le_of_ble_eq_true rfl) dX5_axis_2 ⟨Nat.zero_le _, Nat.zero_le _⟩) ?_
  refine lv_astore_n (lv' := [(3, .ref (gA ad 0 a)), (0, .ref (ad 0)), (1, .int p0), (2, .int p1)]) hx hb dX5_axis_5 rfl hl (by decide) rfl (fun ls hl => ?_)
  refine lv_iload_n hx hb dX5_axis_6 rfl (lv_at hl 3 rfl) ?_
  refine lv_if_lt (tgt := 16) hx hb dX5_axis_7 (by decide) (fun c_1 => ?_) (fun c_1 => ?_)
  · exact absurd c_1 (hw0)
  · skip
    refine lv_iload_n hx hb dX5_axis_10 rfl (lv_at hl 3 rfl) ?_
    refine lv_bipush (v := 12) hx hb dX5_axis_11 (by decide) ?_
    refine lv_icmp_lt (tgt := 26) hx hb dX5_axis_13 (by decide) (fun c_2 => ?_) (fun c_2 => ?_)
    · skip
      refine lv_aload_n hx hb dX5_axis_26 rfl (lv_at hl 0 rfl) ?_
      refine lv_iload_n hx hb dX5_axis_27 rfl (lv_at hl 3 rfl) ?_
      refine cs_p (runV (As := [.int p1]) (rest := []) ⟨hx, hb, hml, hown, hts⟩ (m_X0_property l D kA (gA ad 0 a) (wA ad 0 a) (sl ((X 0)) a) p1 ) q_530 q_531 q_532 q_4 q_533 hd_X0_property ⟨rfl, rfl⟩ ⟨Nat.le_of_ble_eq_true rfl, Nat.le_of_ble_eq_true rfl⟩ hK (ws := [((gA ad 0 a), gC (wA ad 0 a) (sl ((X 0)) a)), ((wA ad 0 a), wC kA (sl ((X 0)) a))]) (P2 hP (cw_gear (kA := kA) (ad := ad) (X := X) (r := 0) (a := a) (by omega) (by omega)) (cw_wears (kA := kA) (ad := ad) (X := X) (r := 0) (a := a) (by omega) (by omega))) (D2 hD (cw_gear (kA := kA) (ad := ad) (X := X) (r := 0) (a := a) (by omega) (by omega)) (cw_wears (kA := kA) (ad := ad) (X := X) (r := 0) (a := a) (by omega) (by omega)) (by omega)) 0 (ci := 0) (C := RX0) (T := TX0) (N := 12) rfl rfl rfl hl.1 rfl (Nat.le_of_ble_eq_true rfl) dX5_axis_28 ⟨Nat.zero_le _, Nat.zero_le _⟩) ?_
      exact end_pi hx hb hrt hlk (by first | rfl | (rw [Nat.zero_le]; done) | (simp only [c_1, c_2, ↓reduceIte, bI]; done) | (simp only [c_1, c_2, ↓reduceIte, bI]; rfl) | (simp [c_1, c_2, bI]; done)) dX5_axis_31
    · exact absurd c_2 (fun h => h hw1)

set_option maxRecDepth 100000 in
set_option maxHeartbeats 4000000 in
theorem m_X5_wear_p (l : Launch) (D : va_G) (kA : Nat → Nat) (ad : Nat → Nat) (X : Nat → Nat → Int32) (a : Nat) (p0 : Int32) (p1 : Int32) (hp : p0 = nI a) (ha : a < 4) (hc0 : ¬ p1 < 0) (hc1 : p1 < 24) : Met l yX5_wear (Cond.code yX5_wear cX5_wear 4 (some .int) :: AW) ({ frames := 2, cells := 0, slots := 0, locals := 43 } : Room) (Pz [.ref (ad 0), .int p0, .int p1] D (TY kA) (cw kA ad X)) (pQ (some (.int (gwr (sl (X 0) a) p1)))) 0 0 (fun _ => False) := by
  refine MetZ (by decide +kernel) (Nat.le_of_ble_eq_true rfl) ?_
  intro p e s m below meth c ls hx hb hrt hts hown hml hlk hnm hP hK hD hS hl
  have hl : lv_has ls 4 [(0, .ref (ad 0)), (1, .int p0), (2, .int p1)] := hl
  refine lv_aload_n hx hb dX5_wear_0 rfl (lv_at hl 0 rfl) ?_
  refine lv_iload_n hx hb dX5_wear_1 rfl (lv_at hl 1 rfl) ?_
  refine cs_p (runV (As := [.int p0]) (rest := []) ⟨hx, hb, hml, hown, hts⟩ (m_X5_gearOf l D kA ad X a p0 (hp) (ha)) q_221 q_223 qp_0 q_1 q_224 hd_X5_gearOf ⟨rfl, rfl⟩ ⟨Nat.le_of_ble_eq_true rfl, Nat.le_of_ble_eq_true rfl⟩ hK (ws := (cw kA ad X)) hP hD _ (ci := 5) (C := RX5) (T := TX5) (N := 6) rfl (cw_arm (kA := kA) (ad := ad) (X := X)) rfl hl.1 rfl (Nat.le_of_ble_eq_true rfl) dX5_wear_2 ⟨Nat.zero_le _, Nat.zero_le _⟩) ?_
  refine lv_astore_n (lv' := [(3, .ref (gA ad 0 a)), (0, .ref (ad 0)), (1, .int p0), (2, .int p1)]) hx hb dX5_wear_5 rfl hl (by decide) rfl (fun ls hl => ?_)
  refine lv_iload_n hx hb dX5_wear_6 rfl (lv_at hl 3 rfl) ?_
  refine cs_pv (runS (As := [.int p1]) (rest := []) ⟨hx, hb, hml, hown, hts⟩ (m_X5_checkTooth l D kA ad X p1 (hc0) (hc1)) q_491 q_492 q_1 q_493 hd_X5_checkTooth ⟨rfl, rfl⟩ ⟨Nat.le_of_ble_eq_true rfl, Nat.le_of_ble_eq_true rfl⟩ hK (ws := (cw kA ad X)) hP hD rfl hl.1 rfl (Nat.le_of_ble_eq_true rfl) dX5_wear_7 ⟨Nat.zero_le _, Nat.zero_le _⟩) ?_
  refine lv_aload_n hx hb dX5_wear_10 rfl (lv_at hl 0 rfl) ?_
  refine lv_iload_n hx hb dX5_wear_11 rfl (lv_at hl 3 rfl) ?_
  refine cs_p (runV (As := [.int p1]) (rest := []) ⟨hx, hb, hml, hown, hts⟩ (m_X0_wearOf l D kA (gA ad 0 a) (wA ad 0 a) ((sl ((X 0)) a) 0) ((sl ((X 0)) a) 1) ((sl ((X 0)) a) 2) ((sl ((X 0)) a) 3) ((sl ((X 0)) a) 4) ((sl ((X 0)) a) 5) ((sl ((X 0)) a) 6) ((sl ((X 0)) a) 7) ((sl ((X 0)) a) 8) ((sl ((X 0)) a) 9) ((sl ((X 0)) a) 10) (fun t => (sl ((X 0)) a) (t + 11)) p1 ) q_495 q_328 q_329 q_4 q_330 hd_X0_wearOf ⟨rfl, rfl⟩ ⟨Nat.le_of_ble_eq_true rfl, Nat.le_of_ble_eq_true rfl⟩ hK (ws := [((gA ad 0 a), .inr (0, [.ref (wA ad 0 a), .int ((sl ((X 0)) a) 0), .int ((sl ((X 0)) a) 1), .int ((sl ((X 0)) a) 2), .int ((sl ((X 0)) a) 3), .int ((sl ((X 0)) a) 4), .int ((sl ((X 0)) a) 5), .int ((sl ((X 0)) a) 6), .int ((sl ((X 0)) a) 7), .int ((sl ((X 0)) a) 8), .int ((sl ((X 0)) a) 9), .int ((sl ((X 0)) a) 10)])), ((wA ad 0 a), .inl (kA 0, 24, .inl (fun t => (sl ((X 0)) a) (t + 11))))]) (P2 hP (cw_gear (kA := kA) (ad := ad) (X := X) (r := 0) (a := a) (by omega) (by omega)) (cw_wears (kA := kA) (ad := ad) (X := X) (r := 0) (a := a) (by omega) (by omega))) (D2 hD (cw_gear (kA := kA) (ad := ad) (X := X) (r := 0) (a := a) (by omega) (by omega)) (cw_wears (kA := kA) (ad := ad) (X := X) (r := 0) (a := a) (by omega) (by omega)) (by omega)) 0 (ci := 0) (C := RX0) (T := TX0) (N := 12) rfl rfl rfl hl.1 rfl (Nat.le_of_ble_eq_true rfl) dX5_wear_12 ⟨Nat.zero_le _, Nat.zero_le _⟩) ?_
  exact end_pi hx hb hrt hlk (rfl) dX5_wear_15

set_option maxRecDepth 100000 in
set_option maxHeartbeats 4000000 in
theorem m_X5_count_p (l : Launch) (D : va_G) (kA : Nat → Nat) (ad : Nat → Nat) (X : Nat → Nat → Int32) (p0 : Int32) (hw0 : ¬ p0 < 0) (hw1 : p0 < 9) : Met l yX5_count (Cond.code yX5_count cX5_count 2 (some .int) :: AW) ({ frames := 5, cells := 0, slots := 0, locals := 110 } : Room) (Pz [.ref (ad 0), .int p0] D (TY kA) (cw kA ad X)) (pQ (some (.int (coF X p0)))) 0 0 (fun _ => False) := by
  refine MetZ (by decide +kernel) (Nat.le_of_ble_eq_true rfl) ?_
  intro p e s m below meth c ls hx hb hrt hts hown hml hlk hnm hP hK hD hS hl
  have hl : lv_has ls 2 [(0, .ref (ad 0)), (1, .int p0)] := hl
  refine lv_iload_n hx hb dX5_count_0 rfl (lv_at hl 1 rfl) ?_
  refine lv_if_lt (tgt := 10) hx hb dX5_count_1 (by decide) (fun c_1 => ?_) (fun c_1 => ?_)
  · exact absurd c_1 (hw0)
  · skip
    refine lv_iload_n hx hb dX5_count_4 rfl (lv_at hl 1 rfl) ?_
    refine lv_bipush (v := 9) hx hb dX5_count_5 (by decide) ?_
    refine lv_icmp_lt (tgt := 20) hx hb dX5_count_7 (by decide) (fun c_2 => ?_) (fun c_2 => ?_)
    · skip
      refine lv_aload_n hx hb dX5_count_20 rfl (lv_at hl 0 rfl) ?_
      refine lv_iload_n hx hb dX5_count_21 rfl (lv_at hl 1 rfl) ?_
      refine cs_p (runV (As := [.int p0]) (rest := []) ⟨hx, hb, hml, hown, hts⟩ (m_X5_countOf l D kA ad X p0 ) q_549 q_551 qp_11 q_1 q_552 hd_X5_countOf ⟨rfl, rfl⟩ ⟨Nat.le_of_ble_eq_true rfl, Nat.le_of_ble_eq_true rfl⟩ hK (ws := (cw kA ad X)) hP hD _ (ci := 5) (C := RX5) (T := TX5) (N := 6) rfl (cw_arm (kA := kA) (ad := ad) (X := X)) rfl hl.1 rfl (Nat.le_of_ble_eq_true rfl) dX5_count_22 ⟨Nat.zero_le _, Nat.zero_le _⟩) ?_
      exact end_pi hx hb hrt hlk (by first | rfl | (rw [Nat.zero_le]; done) | (simp only [c_1, c_2, ↓reduceIte, bI]; done) | (simp only [c_1, c_2, ↓reduceIte, bI]; rfl) | (simp [c_1, c_2, bI]; done)) dX5_count_25
    · exact absurd c_2 (fun h => h hw1)

set_option maxRecDepth 100000 in
set_option maxHeartbeats 4000000 in
theorem m_X5_cost_p (l : Launch) (D : va_G) (kA : Nat → Nat) (ad : Nat → Nat) (X : Nat → Nat → Int32) (a : Nat) (p0 : Int32) (p1 : Int32) (b : Bool) (hp : p0 = nI a) (ha : a < 4) (hc0 : ¬ p1 < 0) (hc1 : p1 < 24) : Met l yX5_cost (Cond.code yX5_cost cX5_cost 5 (some .int) :: AW) ({ frames := 2, cells := 0, slots := 0, locals := 53 } : Room) (Pz [.ref (ad 0), .int p0, .int p1, .int (bI b)] D (TY kA) (cw kA ad X)) (pQ (some (.int (costG (sl (X 0) a) (X 0) p1 (wI b) (-1))))) 0 0 (fun _ => False) := by
  refine MetZ (by decide +kernel) (Nat.le_of_ble_eq_true rfl) ?_
  intro p e s m below meth c ls hx hb hrt hts hown hml hlk hnm hP hK hD hS hl
  have hl : lv_has ls 5 [(0, .ref (ad 0)), (1, .int p0), (2, .int p1), (3, .int (bI b))] := hl
  refine lv_aload_n hx hb dX5_cost_0 rfl (lv_at hl 0 rfl) ?_
  refine lv_iload_n hx hb dX5_cost_1 rfl (lv_at hl 1 rfl) ?_
  refine cs_p (runV (As := [.int p0]) (rest := []) ⟨hx, hb, hml, hown, hts⟩ (m_X5_gearOf l D kA ad X a p0 (hp) (ha)) q_221 q_223 qp_0 q_1 q_224 hd_X5_gearOf ⟨rfl, rfl⟩ ⟨Nat.le_of_ble_eq_true rfl, Nat.le_of_ble_eq_true rfl⟩ hK (ws := (cw kA ad X)) hP hD _ (ci := 5) (C := RX5) (T := TX5) (N := 6) rfl (cw_arm (kA := kA) (ad := ad) (X := X)) rfl hl.1 rfl (Nat.le_of_ble_eq_true rfl) dX5_cost_2 ⟨Nat.zero_le _, Nat.zero_le _⟩) ?_
  refine lv_astore (lv' := [(4, .ref (gA ad 0 a)), (0, .ref (ad 0)), (1, .int p0), (2, .int p1), (3, .int (bI b))]) hx hb dX5_cost_5 hl (by decide) rfl (fun ls hl => ?_)
  refine lv_iload_n hx hb dX5_cost_7 rfl (lv_at hl 3 rfl) ?_
  refine cs_pv (runS (As := [.int p1]) (rest := []) ⟨hx, hb, hml, hown, hts⟩ (m_X5_checkPlace l D kA ad X p1 (hc0) (hc1)) q_408 q_409 q_1 q_410 hd_X5_checkPlace ⟨rfl, rfl⟩ ⟨Nat.le_of_ble_eq_true rfl, Nat.le_of_ble_eq_true rfl⟩ hK (ws := (cw kA ad X)) hP hD rfl hl.1 rfl (Nat.le_of_ble_eq_true rfl) dX5_cost_8 ⟨Nat.zero_le _, Nat.zero_le _⟩) ?_
  refine lv_aload hx hb dX5_cost_11 (lv_at hl 0 rfl) ?_
  refine lv_iload_n hx hb dX5_cost_13 rfl (lv_at hl 3 rfl) ?_
  refine lv_iload_n hx hb dX5_cost_14 rfl (lv_at hl 4 rfl) ?_
  refine cs_p (runS (As := [.int (bI b)]) (rest := [.int p1, .ref (gA ad 0 a)]) ⟨hx, hb, hml, hown, hts⟩ (m_X5_wayOf l D kA ad X b ) q_313 q_314 q_1 q_315 hd_X5_wayOf ⟨rfl, rfl⟩ ⟨Nat.le_of_ble_eq_true rfl, Nat.le_of_ble_eq_true rfl⟩ hK (ws := (cw kA ad X)) hP hD rfl hl.1 rfl (Nat.le_of_ble_eq_true rfl) dX5_cost_15 ⟨Nat.zero_le _, Nat.zero_le _⟩) ?_
  refine lv_iconst (v := (-1)) hx hb dX5_cost_18 (by decide) ?_
  refine lv_aload_n hx hb dX5_cost_19 rfl (lv_at hl 1 rfl) ?_
  refine va_get (ci := 5) (v := .ref (sA ad 0)) (C := RX5) (T := TX5) (N := 6) hx hb hts inX5 hown hK hP _ (cw_arm (kA := kA) (ad := ad) (X := X)) rfl 0 (by decide) (hts _ q_170) (fun _ h9 => h9) rfl dX5_cost_20 ?_
  refine va_get (ci := 4) (v := .ref (rA ad 0)) (C := RX4) (T := TX4) (N := 4) hx hb hts inX4 hown hK hP _ (cw_state (kA := kA) (ad := ad) (X := X) (r := 0) (by omega)) rfl 0 (by decide) (hts _ q_114) (fun _ h9 => h9) rfl dX5_cost_23 ?_
  refine cs_p (runV (As := [.int p1, .int (wI b), .int (-1), .ref (rA ad 0)]) (rest := []) ⟨hx, hb, hml, hown, hts⟩ (m_X0_costOfWay l D kA (gA ad 0 a) (wA ad 0 a) (sl ((X 0)) a) (rA ad 0) (X 0) p1 (wI b) (-1) ) q_412 q_413 q_414 q_4 q_415 hd_X0_costOfWay ⟨rfl, rfl⟩ ⟨Nat.le_of_ble_eq_true rfl, Nat.le_of_ble_eq_true rfl⟩ hK (ws := [((gA ad 0 a), gC (wA ad 0 a) (sl ((X 0)) a)), ((wA ad 0 a), wC kA (sl ((X 0)) a)), ((rA ad 0), rC (X 0))]) (P3 hP (cw_gear (kA := kA) (ad := ad) (X := X) (r := 0) (a := a) (by omega) (by omega)) (cw_wears (kA := kA) (ad := ad) (X := X) (r := 0) (a := a) (by omega) (by omega)) (cw_rules (kA := kA) (ad := ad) (X := X) (r := 0) (by omega))) (D3 hD (cw_gear (kA := kA) (ad := ad) (X := X) (r := 0) (a := a) (by omega) (by omega)) (cw_wears (kA := kA) (ad := ad) (X := X) (r := 0) (a := a) (by omega) (by omega)) (cw_rules (kA := kA) (ad := ad) (X := X) (r := 0) (by omega)) (by omega) (by omega) (by omega)) 0 (ci := 0) (C := RX0) (T := TX0) (N := 12) rfl rfl rfl hl.1 rfl (Nat.le_of_ble_eq_true rfl) dX5_cost_26 ⟨Nat.zero_le _, Nat.zero_le _⟩) ?_
  exact end_pi hx hb hrt hlk (by first | rfl | (rw [Nat.zero_le]; done) | (simp only [↓reduceIte, bI]; done) | (simp only [↓reduceIte, bI]; rfl) | (simp [bI]; done)) dX5_cost_29

set_option maxRecDepth 100000 in
set_option maxHeartbeats 4000000 in
theorem m_X5_ifHomed_p (l : Launch) (D : va_G) (kA : Nat → Nat) (ad : Nat → Nat) (X : Nat → Nat → Int32) (a : Nat) (p0 : Int32) (p1 : Int32) (hp : p0 = nI a) (ha : a < 4) (hw0 : ¬ p1 < 0) (hw1 : p1 < 3) : Met l yX5_ifHomed (Cond.code yX5_ifHomed cX5_ifHomed 4 (some .int) :: AW) ({ frames := 4, cells := 0, slots := 0, locals := 104 } : Room) (Pz [.ref (ad 0), .int p0, .int p1] D (TY kA) (cw kA ad X)) (fQ (some (.int (hfF (X 7) (X 0) a p1))) D (cw kA ad X) (cw kA ad (up2 X 7 (hfT (X 7) (X 0) a)))) 0 0 (Aw (cw kA ad X)) := by
  refine MetZ (by decide +kernel) (Nat.le_of_ble_eq_true rfl) ?_
  intro p e s m below meth c ls hx hb hrt hts hown hml hlk hnm hP hK hD hS hl
  have hl : lv_has ls 4 [(0, .ref (ad 0)), (1, .int p0), (2, .int p1)] := hl
  refine lv_aload_n hx hb dX5_ifHomed_0 rfl (lv_at hl 0 rfl) ?_
  refine lv_iload_n hx hb dX5_ifHomed_1 rfl (lv_at hl 1 rfl) ?_
  refine cs_p (runV (As := [.int p0]) (rest := []) ⟨hx, hb, hml, hown, hts⟩ (m_X5_gearOf l D kA ad X a p0 (hp) (ha)) q_221 q_223 qp_0 q_1 q_224 hd_X5_gearOf ⟨rfl, rfl⟩ ⟨Nat.le_of_ble_eq_true rfl, Nat.le_of_ble_eq_true rfl⟩ hK (ws := (cw kA ad X)) hP hD _ (ci := 5) (C := RX5) (T := TX5) (N := 6) rfl (cw_arm (kA := kA) (ad := ad) (X := X)) rfl hl.1 rfl (Nat.le_of_ble_eq_true rfl) dX5_ifHomed_2 ⟨Nat.zero_le _, Nat.zero_le _⟩) ?_
  refine lv_astore_n (lv' := [(3, .ref (gA ad 0 a)), (0, .ref (ad 0)), (1, .int p0), (2, .int p1)]) hx hb dX5_ifHomed_5 rfl hl (by decide) rfl (fun ls hl => ?_)
  refine lv_iload_n hx hb dX5_ifHomed_6 rfl (lv_at hl 3 rfl) ?_
  refine lv_if_lt (tgt := 15) hx hb dX5_ifHomed_7 (by decide) (fun c_1 => ?_) (fun c_1 => ?_)
  · exact absurd c_1 (hw0)
  · skip
    refine lv_iload_n hx hb dX5_ifHomed_10 rfl (lv_at hl 3 rfl) ?_
    refine lv_iconst (v := 3) hx hb dX5_ifHomed_11 (by decide) ?_
    refine lv_icmp_lt (tgt := 25) hx hb dX5_ifHomed_12 (by decide) (fun c_2 => ?_) (fun c_2 => ?_)
    · skip
      refine lv_aload_n hx hb dX5_ifHomed_25 rfl (lv_at hl 1 rfl) ?_
      refine lv_aload_n hx hb dX5_ifHomed_26 rfl (lv_at hl 0 rfl) ?_
      refine lv_iload_n hx hb dX5_ifHomed_27 rfl (lv_at hl 3 rfl) ?_
      refine cs_fs (runV (As := [.ref (gA ad 0 a), .int p1]) (rest := []) ⟨hx, hb, hml, hown, hts⟩ (m_X5_homingFact l D kA ad X a p1 (ha)) q_437 q_439 qp_7 q_1 q_440 hd_X5_homingFact ⟨rfl, rfl⟩ ⟨Nat.le_of_ble_eq_true rfl, Nat.le_of_ble_eq_true rfl⟩ hK (ws := (cw kA ad X)) hP hD _ (ci := 5) (C := RX5) (T := TX5) (N := 6) rfl (cw_arm (kA := kA) (ad := ad) (X := X)) rfl hl.1 rfl (Nat.le_of_ble_eq_true rfl) dX5_ifHomed_28 ⟨Nat.zero_le _, Nat.zero_le _⟩) hS (fun _ h => cw_Aw h) (fun H locs hP _ hS => ?_)
      have hD := cw_D (X' := up2 X 7 (hfT (X 7) (X 0) a)) hD
      exact end_fi hx hb hrt hlk hP hS (by first | rfl | (rw [Nat.zero_le]; done) | (simp only [c_1, c_2, ↓reduceIte, bI]; done) | (simp only [c_1, c_2, ↓reduceIte, bI]; rfl) | (simp [c_1, c_2, bI]; done)) (fun h => h) dX5_ifHomed_31
    · exact absurd c_2 (fun h => h hw1)

set_option maxRecDepth 100000 in
set_option maxHeartbeats 4000000 in
theorem m_X5_set_p (l : Launch) (D : va_G) (kA : Nat → Nat) (ad : Nat → Nat) (X : Nat → Nat → Int32) (p0 : Int32) (p1 : Int32) (j : Nat) (w : Nat) (hp : p0 = nI j) (hj : j < 6) (hc0 : ¬ p0 < 0) (hc1 : p0 < 6) (hiv : ivF p0 p1 = true) (hsw : X 8 0 = nI w) (hsw6 : w < 6) : Met l yX5_set (Cond.code yX5_set cX5_set 4 (some .int) :: AW) ({ frames := 4, cells := 0, slots := 0, locals := 127 } : Room) (Px [.ref (ad 0), .int p0, .int p1] D (TY kA) (cw kA ad X)) (fQ (some (.int (rvF (X 0) p0))) D (cw kA ad X) (cw kA ad (up2 (svX X w) 0 (rpF (X 0) p0 p1)))) 0 0 (Aw (cw kA ad X)) := by
  refine MetY (by decide +kernel) (Nat.le_of_ble_eq_true rfl) ?_
  intro p e s m below meth c ls hx hb hrt hts hown hml hlk hnm hP hK hD hS hl hXW
  obtain ⟨aL, hZL, hTL⟩ := hXW.2.2.2.2.1
  obtain ⟨aM, hZM, hTM⟩ := hXW.2.2.2.2.2
  have hl : lv_has ls 4 [(0, .ref (ad 0)), (1, .int p0), (2, .int p1)] := hl
  refine lv_iload_n hx hb dX5_set_0 rfl (lv_at hl 1 rfl) ?_
  refine cs_pv (runS (As := [.int p0]) (rest := []) ⟨hx, hb, hml, hown, hts⟩ (m_X5_checkSetting l D kA ad X p0 (hc0) (hc1)) q_502 q_503 q_1 q_504 hd_X5_checkSetting ⟨rfl, rfl⟩ ⟨Nat.le_of_ble_eq_true rfl, Nat.le_of_ble_eq_true rfl⟩ hK (ws := (cw kA ad X)) hP hD rfl hl.1 rfl (Nat.le_of_ble_eq_true rfl) dX5_set_1 ⟨Nat.zero_le _, Nat.zero_le _⟩) ?_
  refine lv_iload_n hx hb dX5_set_4 rfl (lv_at hl 1 rfl) ?_
  refine lv_iload_n hx hb dX5_set_5 rfl (lv_at hl 2 rfl) ?_
  refine cs_p (yrunS (As := [.int p0, .int p1]) (rest := []) ⟨hx, hb, hml, hown, hts⟩ (m_X5_isValueOf l D kA ad X p0 p1 j (hp) (hj)) q_506 q_507 q_1 q_508 hd_X5_isValueOf ⟨rfl, rfl⟩ ⟨Nat.le_of_ble_eq_true rfl, Nat.le_of_ble_eq_true rfl⟩ hK (ws := cw kA ad X) hP hD (hXW.kept hS.2.1) rfl hl.1 rfl (Nat.le_of_ble_eq_true rfl) dX5_set_6 ⟨Nat.zero_le _, Nat.zero_le _⟩) ?_
  refine lv_if_ne (tgt := 22) hx hb dX5_set_9 (by decide) (fun c_1 => ?_) (fun c_1 => ?_)
  · skip
    replace c_1 := bI_n0 c_1
    refine lv_aload_n hx hb dX5_set_22 rfl (lv_at hl 0 rfl) ?_
    refine va_get (ci := 5) (v := .ref (ad 1)) (C := RX5) (T := TX5) (N := 6) hx hb hts inX5 hown hK hP _ (cw_arm (kA := kA) (ad := ad) (X := X)) rfl 1 (by decide) (hts _ q_171) (fun _ h9 => h9) rfl dX5_set_23 ?_
    refine lv_aload_n hx hb dX5_set_26 rfl (lv_at hl 0 rfl) ?_
    refine va_get (ci := 5) (v := .ref (sA ad 0)) (C := RX5) (T := TX5) (N := 6) hx hb hts inX5 hown hK hP _ (cw_arm (kA := kA) (ad := ad) (X := X)) rfl 0 (by decide) (hts _ q_170) (fun _ h9 => h9) rfl dX5_set_27 ?_
    refine cs_fn (runV (As := [.ref (sA ad 0)]) (rest := []) ⟨hx, hb, hml, hown, hts⟩ (m_X1_save l D kA ad X w (hsw) (hsw6)) q_351 q_352 q_353 q_5 q_354 hd_X1_save ⟨rfl, rfl⟩ ⟨Nat.le_of_ble_eq_true rfl, Nat.le_of_ble_eq_true rfl⟩ hK (ws := (cw kA ad X)) hP hD _ (ci := 1) (C := RX1) (T := TX1) (N := 3) rfl (cw_hist (kA := kA) (ad := ad) (X := X)) rfl hl.1 rfl (Nat.le_of_ble_eq_true rfl) dX5_set_30 ⟨Nat.zero_le _, Nat.zero_le _⟩) hS (fun _ h => cw_Aw h) (fun H locs hP _ hS => ?_)
    have hD := cw_D (X' := svX X w) hD
    refine lv_aload_n hx hb dX5_set_33 rfl (lv_at hl 0 rfl) ?_
    refine va_get (ci := 5) (v := .ref (sA ad 0)) (C := RX5) (T := TX5) (N := 6) hx hb hts inX5 hown hK hP _ (cw_arm (kA := kA) (ad := ad) (X := svX X w)) rfl 0 (by decide) (hts _ q_170) (fun _ h9 => h9) rfl dX5_set_34 ?_
    refine va_get (ci := 4) (v := .ref (rA ad 0)) (C := RX4) (T := TX4) (N := 4) hx hb hts inX4 hown hK hP _ (cw_state (kA := kA) (ad := ad) (X := svX X w) (r := 0) (by omega)) rfl 0 (by decide) (hts _ q_114) (fun _ h9 => h9) rfl dX5_set_37 ?_
    refine lv_iload_n hx hb dX5_set_40 rfl (lv_at hl 1 rfl) ?_
    refine cs_p (runV (As := [.int p0]) (rest := []) ⟨hx, hb, hml, hown, hts⟩ (m_X3_valueOf l D kA (rA ad 0) ((svX X w) 0) p0 ) q_514 q_515 q_516 q_3 q_517 hd_X3_valueOf ⟨rfl, rfl⟩ ⟨Nat.le_of_ble_eq_true rfl, Nat.le_of_ble_eq_true rfl⟩ hK (ws := [((rA ad 0), rC ((svX X w) 0))]) (P1 hP (cw_rules (kA := kA) (ad := ad) (X := svX X w) (r := 0) (by omega))) (D1 hD (cw_rules (kA := kA) (ad := ad) (X := svX X w) (r := 0) (by omega))) 0 (ci := 3) (C := RX3) (T := TX3) (N := 6) rfl rfl rfl hl.1 rfl (Nat.le_of_ble_eq_true rfl) dX5_set_41 ⟨Nat.zero_le _, Nat.zero_le _⟩) ?_
    refine lv_istore_n (lv' := [(3, .int (rvF ((svX X w) 0) p0)), (0, .ref (ad 0)), (1, .int p0), (2, .int p1)]) hx hb dX5_set_44 rfl hl (by decide) rfl (fun ls hl => ?_)
    refine lv_aload_n hx hb dX5_set_45 rfl (lv_at hl 1 rfl) ?_
    refine va_get (ci := 5) (v := .ref (sA ad 0)) (C := RX5) (T := TX5) (N := 6) hx hb hts inX5 hown hK hP _ (cw_arm (kA := kA) (ad := ad) (X := svX X w)) rfl 0 (by decide) (hts _ q_170) (fun _ h9 => h9) rfl dX5_set_46 ?_
    refine va_get (ci := 4) (v := .ref (rA ad 0)) (C := RX4) (T := TX4) (N := 4) hx hb hts inX4 hown hK hP _ (cw_state (kA := kA) (ad := ad) (X := svX X w) (r := 0) (by omega)) rfl 0 (by decide) (hts _ q_114) (fun _ h9 => h9) rfl dX5_set_49 ?_
    refine lv_iload_n hx hb dX5_set_52 rfl (lv_at hl 2 rfl) ?_
    refine lv_iload_n hx hb dX5_set_53 rfl (lv_at hl 3 rfl) ?_
    refine cs_fn (runV (As := [.int p0, .int p1]) (rest := []) ⟨hx, hb, hml, hown, hts⟩ (m_X3_put l D kA (rA ad 0) ((svX X w) 0) p0 p1 ) q_518 q_519 q_520 q_3 q_521 hd_X3_put ⟨rfl, rfl⟩ ⟨Nat.le_of_ble_eq_true rfl, Nat.le_of_ble_eq_true rfl⟩ hK (ws := [((rA ad 0), rC ((svX X w) 0))]) (P1 hP (cw_rules (kA := kA) (ad := ad) (X := svX X w) (r := 0) (by omega))) (D1 hD (cw_rules (kA := kA) (ad := ad) (X := svX X w) (r := 0) (by omega))) 0 (ci := 3) (C := RX3) (T := TX3) (N := 6) rfl rfl rfl hl.1 rfl (Nat.le_of_ble_eq_true rfl) dX5_set_54 ⟨Nat.zero_le _, Nat.zero_le _⟩) hS (cw_sub (fun q hq => by simp only [List.mem_cons, List.not_mem_nil, or_false] at hq; rcases hq with rfl <;> first | exact ⟨3 * 0 + 64, by omega, rfl⟩)) (fun H locs hP1 hk1 hS => ?_)
    obtain ⟨hP, hD⟩ := jn_R (r := 0) (R' := (rpF ((svX X w) 0) p0 p1)) (by omega) (fun i hi => rpF_ge hi) hP hD hk1 hP1
    clear hk1 hP1
    refine lv_iload_n hx hb dX5_set_57 rfl (lv_at hl 0 rfl) ?_
    exact end_fi hx hb hrt hlk hP hS (by rw [svX_0]) (fun h => by rw [svX_0] at h; exact h) dX5_set_58
  · exact absurd c_1 (bI_n _ hiv rfl)
