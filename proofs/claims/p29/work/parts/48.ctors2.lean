/-! the greater constructors -/
def hB (kA : Nat → Nat) (q : Nat) (d : Nat → Nat) : va_W := ((((((([(q, .inr (1, [.ref (d 0), .int 0, .int 0])), (d 0, .inl (kA 2, 6, .inr (.inr (.inr (.inr (fun j => some (d (1 + 11 * j))))))))] ++ sB kA (d 1) (fun i => d (2 + i))) ++ sB kA (d 12) (fun i => d (13 + i))) ++ sB kA (d 23) (fun i => d (24 + i))) ++ sB kA (d 34) (fun i => d (35 + i))) ++ sB kA (d 45) (fun i => d (46 + i))) ++ sB kA (d 56) (fun i => d (57 + i))))
def aB (kA : Nat → Nat) (q : Nat) (d : Nat → Nat) : va_W := ((([(q, .inr (5, [.ref (d 0), .ref (d 11), .ref (d 79), .ref (d 81), .ref (d 82), .int 0]))] ++ sB kA (d 0) (fun i => d (1 + i))) ++ hB kA (d 11) (fun i => d (12 + i))) ++ [(d 79, gC (d 80) z0), (d 80, wC kA z0), (d 81, dC z0), (d 82, bC kA z0)])
def zI : Nat → Int32 := fun i => if i = 6 then 1000 else rI i
def mB (kA : Nat → Nat) (q : Nat) (d : Nat → Nat) : va_W := [(q, .inr (6, [.ref (d 0), .int 0, .ref (d 1), .int 0, .ref (d 2), .int 0, .int (-1), .ref (d 3), .int 0, .int 0, .int 0, .ref (d 4), .long 0])), (d 0, .inl (kA 0, 148, .inl zI)), (d 1, .inl (kA 0, 888, .inl z0)), (d 2, .inl (kA 0, 60, .inl z0)), (d 3, .inl (kA 0, 72, .inl z0)), (d 4, .inl (kA 0, 148, .inl z0))]
section BLK
variable {D : va_G} {cl : List vw_C} {a b : va_W} {H : Heap} {kA : Nat → Nat} {q q' : Nat} {d d' : Nat → Nat}
theorem va_P.l (h : va_P D cl (a ++ b) H) : va_P D cl a H := fun k x hk => h k x (by rw [List.getElem?_append_left (List.getElem?_eq_some_iff.mp hk).1]; exact hk)
theorem va_P.r (h : va_P D cl (a ++ b) H) : va_P D cl b H := fun k x hk => h (a.length + k) x (by rw [List.getElem?_append_right (Nat.le_add_right _ _), Nat.add_sub_cancel_left]; exact hk)
theorem at_refs {x n : Nat} {cA : ClassId} {f g : Nat → Option Nat} (h : va_at D cl (x, .inl (cA, n, .inr (.inr (.inr (.inr f))))) H) (hfg : ∀ j, j < n → f j = g j) : va_at D cl (x, .inl (cA, n, .inr (.inr (.inr (.inr g))))) H := by
  have h1 : va_P D cl [(x, .inl (cA, n, .inr (.inr (.inr (.inr f)))))] H := fun k y hk => by
    match k, hk with
    | 0, hk => cases hk; exact h
  exact va_P.refs h1 (k := 0) rfl hfg 0 _ rfl
theorem sB_congr (hq : q = q') (h : ∀ i, i < 10 → d i = d' i) (hP : va_P D cl (sB kA q d) H) : va_P D cl (sB kA q' d') H := by
  subst hq
  have h0 := h 0 (by omega)
  have h1 := h 1 (by omega)
  have h2 := h 2 (by omega)
  have h3 := h 3 (by omega)
  have h4 := h 4 (by omega)
  have h5 := h 5 (by omega)
  have h6 := h 6 (by omega)
  have h7 := h 7 (by omega)
  have h8 := h 8 (by omega)
  have h9 := h 9 (by omega)
  have g := va_P.refs (g := fun j => some (d' (2 + 2 * j))) (show va_P D cl [(q, .inr (4, [.ref (d 0), .ref (d 1), .int 1000, .int 0])), (d 0, rC rI), (d 1, .inl (kA 1, 4, .inr (.inr (.inr (.inr (fun j => some (d (2 + 2 * j)))))))), (d 2, gC (d 3) z0), (d 3, wC kA z0), (d 4, gC (d 5) z0), (d 5, wC kA z0), (d 6, gC (d 7) z0), (d 7, wC kA z0), (d 8, gC (d 9) z0), (d 9, wC kA z0)] H from hP) (k := 2) rfl (fun j hj => by rw [h _ (by omega)])
  rw [h0, h1, h2, h3, h4, h5, h6, h7, h8, h9] at g
  exact g
end BLK
theorem hB_congr {D : va_G} {cl : List vw_C} {H : Heap} {kA : Nat → Nat} {q q' : Nat} {d d' : Nat → Nat} (hq : q = q') (h : ∀ i, i < 67 → d i = d' i) (hP : va_P D cl (hB kA q d) H) : va_P D cl (hB kA q' d') H := by
  subst hq
  have e0 := h 0 (by omega)
  have g := va_P.refs (g := fun j => some (d' (1 + 11 * j))) (show va_P D cl [(q, .inr (1, [.ref (d 0), .int 0, .int 0])), (d 0, .inl (kA 2, 6, .inr (.inr (.inr (.inr (fun j => some (d (1 + 11 * j))))))))] H from hP.l.l.l.l.l.l) (k := 1) rfl (fun j hj => by rw [h _ (by omega)])
  rw [e0] at g
  exact va_P.app (va_P.app (va_P.app (va_P.app (va_P.app (va_P.app g (sB_congr (h 1 (by omega)) (fun i hi => h _ (by omega)) hP.l.l.l.l.l.r)) (sB_congr (h 12 (by omega)) (fun i hi => h _ (by omega)) hP.l.l.l.l.r)) (sB_congr (h 23 (by omega)) (fun i hi => h _ (by omega)) hP.l.l.l.r)) (sB_congr (h 34 (by omega)) (fun i hi => h _ (by omega)) hP.l.l.r)) (sB_congr (h 45 (by omega)) (fun i hi => h _ (by omega)) hP.l.r)) (sB_congr (h 56 (by omega)) (fun i hi => h _ (by omega)) hP.r)
theorem zI_upd {j : Nat} : upd (upd (upd (upd (upd (upd (upd (fun _ => 0) 0 3) 1 10) 2 40) 3 1) 4 12) 5 15) 6 1000 j = zI j := by
  unfold zI rI upd
  by_cases h6 : j = 6
  · rw [if_pos h6, if_pos h6]
  · rw [if_neg h6, if_neg h6]
    by_cases h5 : j = 5
    · subst h5; rfl
    by_cases h4 : j = 4
    · subst h4; rfl
    by_cases h3 : j = 3
    · subst h3; rfl
    by_cases h2 : j = 2
    · subst h2; rfl
    by_cases h1 : j = 1
    · subst h1; rfl
    by_cases h0 : j = 0
    · subst h0; rfl
    simp [h0, h1, h2, h3, h4, h5]
theorem hd_X1_init : yX1_init.cls ≠ "java/lang/invoke/MethodHandle" ∧ yX1_init.cls ≠ "java/lang/invoke/VarHandle" ∧ (parseMethodDescriptor yX1_init.desc).map (fun d => d.parameters.length) = some 0 := by decide +kernel
set_option maxRecDepth 100000 in
set_option maxHeartbeats 4000000 in
theorem m_X1_init (l : Launch) (D : va_G) (kA : Nat → Nat) (q sz : Nat) : Met l yX1_init (Cond.code yX1_init cX1_init 2 none :: AW) ({ frames := 3, cells := 67, slots := 954, locals := 53 } : Room) (Pn [.ref q] D (TY kA) [(q, .inr (1, [.null, .int 0, .int 0]))] sz) (nQ D (fun d => hB kA q d) [(q, .inr (1, [.null, .int 0, .int 0]))] sz) 67 954 (va_A [(q, .inr (1, [.null, .int 0, .int 0]))] sz) := by
  refine MetN (by decide +kernel) (Nat.le_of_ble_eq_true rfl) ?_
  intro p e s m below meth c ls hx hb hrt hts hown hml hlk hnm hP hK hD hS hl hN hsz
  subst hsz
  have hA : ∀ q9, s.heap.size ≤ q9 → va_A [(q, .inr (1, [.null, .int 0, .int 0]))] s.heap.size q9 := fun _ h => Or.inr h
  have hl : lv_has ls 2 [(0, .ref q)] := hl
  refine lv_aload_n hx hb dX1_init_0 rfl (lv_at hl 0 rfl) ?_
  refine nobj hx hb hown (hts _ q_134) (hts _ q_21) (hts _ q_22) (by rw [hml]; exact hl.1) dX1_init_1 (Nat.le_of_ble_eq_true rfl) (Nat.le_of_ble_eq_true rfl) ?_
  refine lv_aload_n hx hb dX1_init_4 rfl (lv_at hl 0 rfl) ?_
  refine lv_bipush (v := 6) hx hb dX1_init_5 (by decide) ?_
  refine va_newq (C := "ArmTolls$State") hx hb hown (hts _ q_135) hN.2.2 hK hP hD hS hA (n := 6) (N' := 6) (by decide) rfl (by decide) (Nat.le_of_ble_eq_true rfl) (Nat.le_of_ble_eq_true rfl) dX1_init_7 (fun n_1 cA H hK9 hP hD hS => ?_)
  obtain rfl : cA = kA 2 := ua_eq hK9 (i := 3) (j := 2) rfl rfl
  clear hK9
  have hP : va_P D vwCl [(q, .inr (1, [.null, .int 0, .int 0])), (n_1, .inl (kA 2, 6, .inr (.inr (.inr (.inr (fun _ => none))))))] _ := hP
  have hD : va_D (va_A [(q, .inr (1, [.null, .int 0, .int 0]))] s.heap.size) [(q, .inr (1, [.null, .int 0, .int 0])), (n_1, .inl (kA 2, 6, .inr (.inr (.inr (.inr (fun _ => none))))))] := hD
  refine va_putF (ci := 1) (v := .ref n_1) (ty := tyX1 0) (C := RX1) (T := TX1) (N := 3) hx hb hts inX1 tyX1 tyX1_ok nmX1 hown hK hP hD hS 0 rfl rfl 0 (by decide) (hts _ q_138) (fun _ h9 => h9) rfl (hnm.trans rfl) rfl (tyX1_ok 0 (by decide)) rfl rfl (Nat.le_of_ble_eq_true rfl) dX1_init_10 (fun H locs hP hD hS => ?_)
  have hP : va_P D vwCl [(q, .inr (1, [.ref n_1, .int 0, .int 0])), (n_1, .inl (kA 2, 6, .inr (.inr (.inr (.inr (fun _ => none))))))] _ := hP
  have hD : va_D (va_A [(q, .inr (1, [.null, .int 0, .int 0]))] s.heap.size) [(q, .inr (1, [.ref n_1, .int 0, .int 0])), (n_1, .inl (kA 2, 6, .inr (.inr (.inr (.inr (fun _ => none))))))] := hD
  refine lv_aload_n hx hb dX1_init_13 rfl (lv_at hl 0 rfl) ?_
  refine lv_iconst (v := 0) hx hb dX1_init_14 (by decide) ?_
  refine va_put (ci := 1) (v := .int 0) (ty := tyX1 1) (C := RX1) (T := TX1) (N := 3) hx hb hts inX1 tyX1 tyX1_ok nmX1 hown hK hP hD hS 0 rfl rfl 1 (by decide) (hts _ q_139) (fun _ h9 => h9) rfl (tyX1_ok 1 (by decide)) rfl rfl (Nat.le_of_ble_eq_true rfl) dX1_init_15 (fun H locs hP hD hS => ?_)
  have hP : va_P D vwCl [(q, .inr (1, [.ref n_1, .int 0, .int 0])), (n_1, .inl (kA 2, 6, .inr (.inr (.inr (.inr (fun _ => none))))))] _ := hP
  have hD : va_D (va_A [(q, .inr (1, [.null, .int 0, .int 0]))] s.heap.size) [(q, .inr (1, [.ref n_1, .int 0, .int 0])), (n_1, .inl (kA 2, 6, .inr (.inr (.inr (.inr (fun _ => none))))))] := hD
  refine lv_aload_n hx hb dX1_init_18 rfl (lv_at hl 0 rfl) ?_
  refine lv_iconst (v := 0) hx hb dX1_init_19 (by decide) ?_
  refine va_put (ci := 1) (v := .int 0) (ty := tyX1 2) (C := RX1) (T := TX1) (N := 3) hx hb hts inX1 tyX1 tyX1_ok nmX1 hown hK hP hD hS 0 rfl rfl 2 (by decide) (hts _ q_140) (fun _ h9 => h9) rfl (tyX1_ok 2 (by decide)) rfl rfl (Nat.le_of_ble_eq_true rfl) dX1_init_20 (fun H locs hP hD hS => ?_)
  have hP : va_P D vwCl [(q, .inr (1, [.ref n_1, .int 0, .int 0])), (n_1, .inl (kA 2, 6, .inr (.inr (.inr (.inr (fun _ => none))))))] _ := hP
  have hD : va_D (va_A [(q, .inr (1, [.null, .int 0, .int 0]))] s.heap.size) [(q, .inr (1, [.ref n_1, .int 0, .int 0])), (n_1, .inl (kA 2, 6, .inr (.inr (.inr (.inr (fun _ => none))))))] := hD
  refine lv_iconst (v := 0) hx hb dX1_init_23 (by decide) ?_
  refine lv_istore_n (lv' := [(1, .int 0), (0, .ref q)]) hx hb dX1_init_24 rfl hl (by decide) rfl (fun ls hl => ?_)
  refine lv_iload_n hx hb dX1_init_25 rfl (lv_at hl 0 rfl) ?_
  refine lv_aload_n hx hb dX1_init_26 rfl (lv_at hl 1 rfl) ?_
  refine va_get (ci := 1) (v := .ref n_1) (C := RX1) (T := TX1) (N := 3) hx hb hts inX1 hown hK hP 0 rfl rfl 0 (by decide) (hts _ q_138) (fun _ h9 => h9) rfl dX1_init_27 ?_
  refine va_alen (v := 6) hx hb hK hP _ 2 (show _ from (rfl : ([(q, .inr (1, [.ref n_1, .int 0, .int 0])), (n_1, .inl (kA 2, 6, .inr (.inr (.inr (.inr (fun _ => none))))))] : va_W)[1]? = some (n_1, .inl (kA 2, 6, .inr (.inr (.inr (.inr (fun _ => none)))))))) rfl rfl dX1_init_30 ?_
  refine lv_icmp_ge (tgt := 53) hx hb dX1_init_31 (by decide) (fun c_2 => ?_) (fun c_2 => ?_)
  · exact absurd c_2 (by decide)
  · skip
    replace c_2 := nge_l c_2
    refine lv_aload_n hx hb dX1_init_34 rfl (lv_at hl 1 rfl) ?_
    refine va_get (ci := 1) (v := .ref n_1) (C := RX1) (T := TX1) (N := 3) hx hb hts inX1 hown hK hP 0 rfl rfl 0 (by decide) (hts _ q_138) (fun _ h9 => h9) rfl dX1_init_35 ?_
    refine lv_iload_n hx hb dX1_init_38 rfl (lv_at hl 0 rfl) ?_
    refine va_new (ci := 4) (fs := [.null, .null, .int 0, .int 0]) (C := RX4) (T := TX4) (N := 4) hx hb hts inX4 tyX4 tyX4_ok hown (hts _ q_135) (hts _ q_24) (hts _ q_2) hK hP hD hS hA rfl (fun j hj => by rcases (show j = 0 ∨ j = 1 ∨ j = 2 ∨ j = 3 by omega) with rfl | rfl | rfl | rfl <;> rfl) (Nat.le_of_ble_eq_true rfl) (Nat.le_of_ble_eq_true rfl) dX1_init_39 (fun n_3 H hP hD hS => ?_)
    have hP : va_P D vwCl [(q, .inr (1, [.ref n_1, .int 0, .int 0])), (n_1, .inl (kA 2, 6, .inr (.inr (.inr (.inr (fun _ => none)))))), (n_3, .inr (4, [.null, .null, .int 0, .int 0]))] _ := hP
    have hD : va_D (va_A [(q, .inr (1, [.null, .int 0, .int 0]))] s.heap.size) [(q, .inr (1, [.ref n_1, .int 0, .int 0])), (n_1, .inl (kA 2, 6, .inr (.inr (.inr (.inr (fun _ => none)))))), (n_3, .inr (4, [.null, .null, .int 0, .int 0]))] := hD
    refine lv_dup hx hb dX1_init_42 rfl ?_
    refine cs_n (ws := [(q, .inr (1, [.ref n_1, .int 0, .int 0])), (n_1, .inl (kA 2, 6, .inr (.inr (.inr (.inr (fun _ => none))))))]) (nrunI (rest := [.ref n_3, .int 0, .ref n_1]) ⟨hx, hb, hml, hown, hts⟩ (m_X4_init l D kA n_3 H.size) rfl q_137 q_26 q_2 q_27 hd_X4_init ⟨rfl, rfl⟩ ⟨Nat.le_of_ble_eq_true rfl, Nat.le_of_ble_eq_true rfl⟩ hK (ws := [(n_3, .inr (4, [.null, .null, .int 0, .int 0]))]) (P1 hP (i := 2) rfl) (D1 hD (i := 2) rfl) hN hl.1 rfl (Nat.le_of_ble_eq_true rfl) dX1_init_43 ⟨Nat.le_of_ble_eq_true rfl, Nat.le_of_ble_eq_true rfl⟩) hP hD hS hA (fun d0 H locs hP hD hS => ?_)
    have hP : va_P D vwCl ([(q, .inr (1, [.ref n_1, .int 0, .int 0])), (n_1, .inl (kA 2, 6, .inr (.inr (.inr (.inr (fun _ => none))))))] ++ (sB kA n_3 d0)) _ := hP
    have hD : va_D (va_A [(q, .inr (1, [.null, .int 0, .int 0]))] s.heap.size) ([(q, .inr (1, [.ref n_1, .int 0, .int 0])), (n_1, .inl (kA 2, 6, .inr (.inr (.inr (.inr (fun _ => none))))))] ++ (sB kA n_3 d0)) := hD
    refine va_astq (f := (fun _ => none)) (vs := [.ref (d0 0), .ref (d0 1), .int 1000, .int 0]) hx hb hK hP hD hS 1 2 2 4 rfl rfl rfl rfl (i := 0) (in_nI (j := 0) rfl (by omega) (by decide)) dX1_init_46 (fun H locs hP hD hS => ?_)
    have hP : va_P D vwCl ([(q, .inr (1, [.ref n_1, .int 0, .int 0])), (n_1, .inl (kA 2, 6, .inr (.inr (.inr (.inr (va_up (fun _ => none) 0 (some n_3)))))))] ++ (sB kA n_3 d0)) _ := hP
    have hD : va_D (va_A [(q, .inr (1, [.null, .int 0, .int 0]))] s.heap.size) ([(q, .inr (1, [.ref n_1, .int 0, .int 0])), (n_1, .inl (kA 2, 6, .inr (.inr (.inr (.inr (va_up (fun _ => none) 0 (some n_3)))))))] ++ (sB kA n_3 d0)) := hD
    refine lv_iinc (v := 1) (lv' := [(1, .int 1), (0, .ref q)]) hx hb dX1_init_47 hl (k := 0) rfl (by first | rfl | decide) (by decide) rfl (fun ls hl => ?_)
    refine lv_goto (tgt := 25) hx hb dX1_init_50 (by decide) ?_
    refine lv_iload_n hx hb dX1_init_25 rfl (lv_at hl 0 rfl) ?_
    refine lv_aload_n hx hb dX1_init_26 rfl (lv_at hl 1 rfl) ?_
    refine va_get (ci := 1) (v := .ref n_1) (C := RX1) (T := TX1) (N := 3) hx hb hts inX1 hown hK hP 0 rfl rfl 0 (by decide) (hts _ q_138) (fun _ h9 => h9) rfl dX1_init_27 ?_
    refine va_alen (v := 6) hx hb hK hP _ 2 (show _ from (rfl : (([(q, .inr (1, [.ref n_1, .int 0, .int 0])), (n_1, .inl (kA 2, 6, .inr (.inr (.inr (.inr (va_up (fun _ => none) 0 (some n_3)))))))] ++ (sB kA n_3 d0)) : va_W)[1]? = some (n_1, .inl (kA 2, 6, .inr (.inr (.inr (.inr (va_up (fun _ => none) 0 (some n_3))))))))) rfl rfl dX1_init_30 ?_
    refine lv_icmp_ge (tgt := 53) hx hb dX1_init_31 (by decide) (fun c_4 => ?_) (fun c_4 => ?_)
    · exact absurd c_4 (by decide)
    · skip
      replace c_4 := nge_l c_4
      refine lv_aload_n hx hb dX1_init_34 rfl (lv_at hl 1 rfl) ?_
      refine va_get (ci := 1) (v := .ref n_1) (C := RX1) (T := TX1) (N := 3) hx hb hts inX1 hown hK hP 0 rfl rfl 0 (by decide) (hts _ q_138) (fun _ h9 => h9) rfl dX1_init_35 ?_
      refine lv_iload_n hx hb dX1_init_38 rfl (lv_at hl 0 rfl) ?_
      refine va_new (ci := 4) (fs := [.null, .null, .int 0, .int 0]) (C := RX4) (T := TX4) (N := 4) hx hb hts inX4 tyX4 tyX4_ok hown (hts _ q_135) (hts _ q_24) (hts _ q_2) hK hP hD hS hA rfl (fun j hj => by rcases (show j = 0 ∨ j = 1 ∨ j = 2 ∨ j = 3 by omega) with rfl | rfl | rfl | rfl <;> rfl) (Nat.le_of_ble_eq_true rfl) (Nat.le_of_ble_eq_true rfl) dX1_init_39 (fun n_5 H hP hD hS => ?_)
      have hP : va_P D vwCl (([(q, .inr (1, [.ref n_1, .int 0, .int 0])), (n_1, .inl (kA 2, 6, .inr (.inr (.inr (.inr (va_up (fun _ => none) 0 (some n_3)))))))] ++ (sB kA n_3 d0)) ++ [(n_5, .inr (4, [.null, .null, .int 0, .int 0]))]) _ := hP
      have hD : va_D (va_A [(q, .inr (1, [.null, .int 0, .int 0]))] s.heap.size) (([(q, .inr (1, [.ref n_1, .int 0, .int 0])), (n_1, .inl (kA 2, 6, .inr (.inr (.inr (.inr (va_up (fun _ => none) 0 (some n_3)))))))] ++ (sB kA n_3 d0)) ++ [(n_5, .inr (4, [.null, .null, .int 0, .int 0]))]) := hD
      refine lv_dup hx hb dX1_init_42 rfl ?_
      refine cs_n (ws := ([(q, .inr (1, [.ref n_1, .int 0, .int 0])), (n_1, .inl (kA 2, 6, .inr (.inr (.inr (.inr (va_up (fun _ => none) 0 (some n_3)))))))] ++ (sB kA n_3 d0))) (nrunI (rest := [.ref n_5, .int 1, .ref n_1]) ⟨hx, hb, hml, hown, hts⟩ (m_X4_init l D kA n_5 H.size) rfl q_137 q_26 q_2 q_27 hd_X4_init ⟨rfl, rfl⟩ ⟨Nat.le_of_ble_eq_true rfl, Nat.le_of_ble_eq_true rfl⟩ hK (ws := [(n_5, .inr (4, [.null, .null, .int 0, .int 0]))]) (P1 hP (i := 13) rfl) (D1 hD (i := 13) rfl) hN hl.1 rfl (Nat.le_of_ble_eq_true rfl) dX1_init_43 ⟨Nat.le_of_ble_eq_true rfl, Nat.le_of_ble_eq_true rfl⟩) hP hD hS hA (fun d1 H locs hP hD hS => ?_)
      have hP : va_P D vwCl (([(q, .inr (1, [.ref n_1, .int 0, .int 0])), (n_1, .inl (kA 2, 6, .inr (.inr (.inr (.inr (va_up (fun _ => none) 0 (some n_3)))))))] ++ (sB kA n_3 d0)) ++ (sB kA n_5 d1)) _ := hP
      have hD : va_D (va_A [(q, .inr (1, [.null, .int 0, .int 0]))] s.heap.size) (([(q, .inr (1, [.ref n_1, .int 0, .int 0])), (n_1, .inl (kA 2, 6, .inr (.inr (.inr (.inr (va_up (fun _ => none) 0 (some n_3)))))))] ++ (sB kA n_3 d0)) ++ (sB kA n_5 d1)) := hD
      refine va_astq (f := (va_up (fun _ => none) 0 (some n_3))) (vs := [.ref (d1 0), .ref (d1 1), .int 1000, .int 0]) hx hb hK hP hD hS 1 2 13 4 rfl rfl rfl rfl (i := 1) (in_nI (j := 1) rfl (by omega) (by decide)) dX1_init_46 (fun H locs hP hD hS => ?_)
      have hP : va_P D vwCl (([(q, .inr (1, [.ref n_1, .int 0, .int 0])), (n_1, .inl (kA 2, 6, .inr (.inr (.inr (.inr (va_up (va_up (fun _ => none) 0 (some n_3)) 1 (some n_5)))))))] ++ (sB kA n_3 d0)) ++ (sB kA n_5 d1)) _ := hP
      have hD : va_D (va_A [(q, .inr (1, [.null, .int 0, .int 0]))] s.heap.size) (([(q, .inr (1, [.ref n_1, .int 0, .int 0])), (n_1, .inl (kA 2, 6, .inr (.inr (.inr (.inr (va_up (va_up (fun _ => none) 0 (some n_3)) 1 (some n_5)))))))] ++ (sB kA n_3 d0)) ++ (sB kA n_5 d1)) := hD
      refine lv_iinc (v := 2) (lv' := [(1, .int 2), (0, .ref q)]) hx hb dX1_init_47 hl (k := 0) rfl (by first | rfl | decide) (by decide) rfl (fun ls hl => ?_)
      refine lv_goto (tgt := 25) hx hb dX1_init_50 (by decide) ?_
      refine lv_iload_n hx hb dX1_init_25 rfl (lv_at hl 0 rfl) ?_
      refine lv_aload_n hx hb dX1_init_26 rfl (lv_at hl 1 rfl) ?_
      refine va_get (ci := 1) (v := .ref n_1) (C := RX1) (T := TX1) (N := 3) hx hb hts inX1 hown hK hP 0 rfl rfl 0 (by decide) (hts _ q_138) (fun _ h9 => h9) rfl dX1_init_27 ?_
      refine va_alen (v := 6) hx hb hK hP _ 2 (show _ from (rfl : ((([(q, .inr (1, [.ref n_1, .int 0, .int 0])), (n_1, .inl (kA 2, 6, .inr (.inr (.inr (.inr (va_up (va_up (fun _ => none) 0 (some n_3)) 1 (some n_5)))))))] ++ (sB kA n_3 d0)) ++ (sB kA n_5 d1)) : va_W)[1]? = some (n_1, .inl (kA 2, 6, .inr (.inr (.inr (.inr (va_up (va_up (fun _ => none) 0 (some n_3)) 1 (some n_5))))))))) rfl rfl dX1_init_30 ?_
      refine lv_icmp_ge (tgt := 53) hx hb dX1_init_31 (by decide) (fun c_6 => ?_) (fun c_6 => ?_)
      · exact absurd c_6 (by decide)
      · skip
        replace c_6 := nge_l c_6
        refine lv_aload_n hx hb dX1_init_34 rfl (lv_at hl 1 rfl) ?_
        refine va_get (ci := 1) (v := .ref n_1) (C := RX1) (T := TX1) (N := 3) hx hb hts inX1 hown hK hP 0 rfl rfl 0 (by decide) (hts _ q_138) (fun _ h9 => h9) rfl dX1_init_35 ?_
        refine lv_iload_n hx hb dX1_init_38 rfl (lv_at hl 0 rfl) ?_
        refine va_new (ci := 4) (fs := [.null, .null, .int 0, .int 0]) (C := RX4) (T := TX4) (N := 4) hx hb hts inX4 tyX4 tyX4_ok hown (hts _ q_135) (hts _ q_24) (hts _ q_2) hK hP hD hS hA rfl (fun j hj => by rcases (show j = 0 ∨ j = 1 ∨ j = 2 ∨ j = 3 by omega) with rfl | rfl | rfl | rfl <;> rfl) (Nat.le_of_ble_eq_true rfl) (Nat.le_of_ble_eq_true rfl) dX1_init_39 (fun n_7 H hP hD hS => ?_)
        have hP : va_P D vwCl ((([(q, .inr (1, [.ref n_1, .int 0, .int 0])), (n_1, .inl (kA 2, 6, .inr (.inr (.inr (.inr (va_up (va_up (fun _ => none) 0 (some n_3)) 1 (some n_5)))))))] ++ (sB kA n_3 d0)) ++ (sB kA n_5 d1)) ++ [(n_7, .inr (4, [.null, .null, .int 0, .int 0]))]) _ := hP
        have hD : va_D (va_A [(q, .inr (1, [.null, .int 0, .int 0]))] s.heap.size) ((([(q, .inr (1, [.ref n_1, .int 0, .int 0])), (n_1, .inl (kA 2, 6, .inr (.inr (.inr (.inr (va_up (va_up (fun _ => none) 0 (some n_3)) 1 (some n_5)))))))] ++ (sB kA n_3 d0)) ++ (sB kA n_5 d1)) ++ [(n_7, .inr (4, [.null, .null, .int 0, .int 0]))]) := hD
        refine lv_dup hx hb dX1_init_42 rfl ?_
        refine cs_n (ws := (([(q, .inr (1, [.ref n_1, .int 0, .int 0])), (n_1, .inl (kA 2, 6, .inr (.inr (.inr (.inr (va_up (va_up (fun _ => none) 0 (some n_3)) 1 (some n_5)))))))] ++ (sB kA n_3 d0)) ++ (sB kA n_5 d1))) (nrunI (rest := [.ref n_7, .int 2, .ref n_1]) ⟨hx, hb, hml, hown, hts⟩ (m_X4_init l D kA n_7 H.size) rfl q_137 q_26 q_2 q_27 hd_X4_init ⟨rfl, rfl⟩ ⟨Nat.le_of_ble_eq_true rfl, Nat.le_of_ble_eq_true rfl⟩ hK (ws := [(n_7, .inr (4, [.null, .null, .int 0, .int 0]))]) (P1 hP (i := 24) rfl) (D1 hD (i := 24) rfl) hN hl.1 rfl (Nat.le_of_ble_eq_true rfl) dX1_init_43 ⟨Nat.le_of_ble_eq_true rfl, Nat.le_of_ble_eq_true rfl⟩) hP hD hS hA (fun d2 H locs hP hD hS => ?_)
        have hP : va_P D vwCl ((([(q, .inr (1, [.ref n_1, .int 0, .int 0])), (n_1, .inl (kA 2, 6, .inr (.inr (.inr (.inr (va_up (va_up (fun _ => none) 0 (some n_3)) 1 (some n_5)))))))] ++ (sB kA n_3 d0)) ++ (sB kA n_5 d1)) ++ (sB kA n_7 d2)) _ := hP
        have hD : va_D (va_A [(q, .inr (1, [.null, .int 0, .int 0]))] s.heap.size) ((([(q, .inr (1, [.ref n_1, .int 0, .int 0])), (n_1, .inl (kA 2, 6, .inr (.inr (.inr (.inr (va_up (va_up (fun _ => none) 0 (some n_3)) 1 (some n_5)))))))] ++ (sB kA n_3 d0)) ++ (sB kA n_5 d1)) ++ (sB kA n_7 d2)) := hD
        refine va_astq (f := (va_up (va_up (fun _ => none) 0 (some n_3)) 1 (some n_5))) (vs := [.ref (d2 0), .ref (d2 1), .int 1000, .int 0]) hx hb hK hP hD hS 1 2 24 4 rfl rfl rfl rfl (i := 2) (in_nI (j := 2) rfl (by omega) (by decide)) dX1_init_46 (fun H locs hP hD hS => ?_)
        have hP : va_P D vwCl ((([(q, .inr (1, [.ref n_1, .int 0, .int 0])), (n_1, .inl (kA 2, 6, .inr (.inr (.inr (.inr (va_up (va_up (va_up (fun _ => none) 0 (some n_3)) 1 (some n_5)) 2 (some n_7)))))))] ++ (sB kA n_3 d0)) ++ (sB kA n_5 d1)) ++ (sB kA n_7 d2)) _ := hP
        have hD : va_D (va_A [(q, .inr (1, [.null, .int 0, .int 0]))] s.heap.size) ((([(q, .inr (1, [.ref n_1, .int 0, .int 0])), (n_1, .inl (kA 2, 6, .inr (.inr (.inr (.inr (va_up (va_up (va_up (fun _ => none) 0 (some n_3)) 1 (some n_5)) 2 (some n_7)))))))] ++ (sB kA n_3 d0)) ++ (sB kA n_5 d1)) ++ (sB kA n_7 d2)) := hD
        refine lv_iinc (v := 3) (lv' := [(1, .int 3), (0, .ref q)]) hx hb dX1_init_47 hl (k := 0) rfl (by first | rfl | decide) (by decide) rfl (fun ls hl => ?_)
        refine lv_goto (tgt := 25) hx hb dX1_init_50 (by decide) ?_
        refine lv_iload_n hx hb dX1_init_25 rfl (lv_at hl 0 rfl) ?_
        refine lv_aload_n hx hb dX1_init_26 rfl (lv_at hl 1 rfl) ?_
        refine va_get (ci := 1) (v := .ref n_1) (C := RX1) (T := TX1) (N := 3) hx hb hts inX1 hown hK hP 0 rfl rfl 0 (by decide) (hts _ q_138) (fun _ h9 => h9) rfl dX1_init_27 ?_
        refine va_alen (v := 6) hx hb hK hP _ 2 (show _ from (rfl : (((([(q, .inr (1, [.ref n_1, .int 0, .int 0])), (n_1, .inl (kA 2, 6, .inr (.inr (.inr (.inr (va_up (va_up (va_up (fun _ => none) 0 (some n_3)) 1 (some n_5)) 2 (some n_7)))))))] ++ (sB kA n_3 d0)) ++ (sB kA n_5 d1)) ++ (sB kA n_7 d2)) : va_W)[1]? = some (n_1, .inl (kA 2, 6, .inr (.inr (.inr (.inr (va_up (va_up (va_up (fun _ => none) 0 (some n_3)) 1 (some n_5)) 2 (some n_7))))))))) rfl rfl dX1_init_30 ?_
        refine lv_icmp_ge (tgt := 53) hx hb dX1_init_31 (by decide) (fun c_8 => ?_) (fun c_8 => ?_)
        · exact absurd c_8 (by decide)
        · skip
          replace c_8 := nge_l c_8
          refine lv_aload_n hx hb dX1_init_34 rfl (lv_at hl 1 rfl) ?_
          refine va_get (ci := 1) (v := .ref n_1) (C := RX1) (T := TX1) (N := 3) hx hb hts inX1 hown hK hP 0 rfl rfl 0 (by decide) (hts _ q_138) (fun _ h9 => h9) rfl dX1_init_35 ?_
          refine lv_iload_n hx hb dX1_init_38 rfl (lv_at hl 0 rfl) ?_
          refine va_new (ci := 4) (fs := [.null, .null, .int 0, .int 0]) (C := RX4) (T := TX4) (N := 4) hx hb hts inX4 tyX4 tyX4_ok hown (hts _ q_135) (hts _ q_24) (hts _ q_2) hK hP hD hS hA rfl (fun j hj => by rcases (show j = 0 ∨ j = 1 ∨ j = 2 ∨ j = 3 by omega) with rfl | rfl | rfl | rfl <;> rfl) (Nat.le_of_ble_eq_true rfl) (Nat.le_of_ble_eq_true rfl) dX1_init_39 (fun n_9 H hP hD hS => ?_)
          have hP : va_P D vwCl (((([(q, .inr (1, [.ref n_1, .int 0, .int 0])), (n_1, .inl (kA 2, 6, .inr (.inr (.inr (.inr (va_up (va_up (va_up (fun _ => none) 0 (some n_3)) 1 (some n_5)) 2 (some n_7)))))))] ++ (sB kA n_3 d0)) ++ (sB kA n_5 d1)) ++ (sB kA n_7 d2)) ++ [(n_9, .inr (4, [.null, .null, .int 0, .int 0]))]) _ := hP
          have hD : va_D (va_A [(q, .inr (1, [.null, .int 0, .int 0]))] s.heap.size) (((([(q, .inr (1, [.ref n_1, .int 0, .int 0])), (n_1, .inl (kA 2, 6, .inr (.inr (.inr (.inr (va_up (va_up (va_up (fun _ => none) 0 (some n_3)) 1 (some n_5)) 2 (some n_7)))))))] ++ (sB kA n_3 d0)) ++ (sB kA n_5 d1)) ++ (sB kA n_7 d2)) ++ [(n_9, .inr (4, [.null, .null, .int 0, .int 0]))]) := hD
          refine lv_dup hx hb dX1_init_42 rfl ?_
          refine cs_n (ws := ((([(q, .inr (1, [.ref n_1, .int 0, .int 0])), (n_1, .inl (kA 2, 6, .inr (.inr (.inr (.inr (va_up (va_up (va_up (fun _ => none) 0 (some n_3)) 1 (some n_5)) 2 (some n_7)))))))] ++ (sB kA n_3 d0)) ++ (sB kA n_5 d1)) ++ (sB kA n_7 d2))) (nrunI (rest := [.ref n_9, .int 3, .ref n_1]) ⟨hx, hb, hml, hown, hts⟩ (m_X4_init l D kA n_9 H.size) rfl q_137 q_26 q_2 q_27 hd_X4_init ⟨rfl, rfl⟩ ⟨Nat.le_of_ble_eq_true rfl, Nat.le_of_ble_eq_true rfl⟩ hK (ws := [(n_9, .inr (4, [.null, .null, .int 0, .int 0]))]) (P1 hP (i := 35) rfl) (D1 hD (i := 35) rfl) hN hl.1 rfl (Nat.le_of_ble_eq_true rfl) dX1_init_43 ⟨Nat.le_of_ble_eq_true rfl, Nat.le_of_ble_eq_true rfl⟩) hP hD hS hA (fun d3 H locs hP hD hS => ?_)
          have hP : va_P D vwCl (((([(q, .inr (1, [.ref n_1, .int 0, .int 0])), (n_1, .inl (kA 2, 6, .inr (.inr (.inr (.inr (va_up (va_up (va_up (fun _ => none) 0 (some n_3)) 1 (some n_5)) 2 (some n_7)))))))] ++ (sB kA n_3 d0)) ++ (sB kA n_5 d1)) ++ (sB kA n_7 d2)) ++ (sB kA n_9 d3)) _ := hP
          have hD : va_D (va_A [(q, .inr (1, [.null, .int 0, .int 0]))] s.heap.size) (((([(q, .inr (1, [.ref n_1, .int 0, .int 0])), (n_1, .inl (kA 2, 6, .inr (.inr (.inr (.inr (va_up (va_up (va_up (fun _ => none) 0 (some n_3)) 1 (some n_5)) 2 (some n_7)))))))] ++ (sB kA n_3 d0)) ++ (sB kA n_5 d1)) ++ (sB kA n_7 d2)) ++ (sB kA n_9 d3)) := hD
          refine va_astq (f := (va_up (va_up (va_up (fun _ => none) 0 (some n_3)) 1 (some n_5)) 2 (some n_7))) (vs := [.ref (d3 0), .ref (d3 1), .int 1000, .int 0]) hx hb hK hP hD hS 1 2 35 4 rfl rfl rfl rfl (i := 3) (in_nI (j := 3) rfl (by omega) (by decide)) dX1_init_46 (fun H locs hP hD hS => ?_)
          have hP : va_P D vwCl (((([(q, .inr (1, [.ref n_1, .int 0, .int 0])), (n_1, .inl (kA 2, 6, .inr (.inr (.inr (.inr (va_up (va_up (va_up (va_up (fun _ => none) 0 (some n_3)) 1 (some n_5)) 2 (some n_7)) 3 (some n_9)))))))] ++ (sB kA n_3 d0)) ++ (sB kA n_5 d1)) ++ (sB kA n_7 d2)) ++ (sB kA n_9 d3)) _ := hP
          have hD : va_D (va_A [(q, .inr (1, [.null, .int 0, .int 0]))] s.heap.size) (((([(q, .inr (1, [.ref n_1, .int 0, .int 0])), (n_1, .inl (kA 2, 6, .inr (.inr (.inr (.inr (va_up (va_up (va_up (va_up (fun _ => none) 0 (some n_3)) 1 (some n_5)) 2 (some n_7)) 3 (some n_9)))))))] ++ (sB kA n_3 d0)) ++ (sB kA n_5 d1)) ++ (sB kA n_7 d2)) ++ (sB kA n_9 d3)) := hD
          refine lv_iinc (v := 4) (lv' := [(1, .int 4), (0, .ref q)]) hx hb dX1_init_47 hl (k := 0) rfl (by first | rfl | decide) (by decide) rfl (fun ls hl => ?_)
          refine lv_goto (tgt := 25) hx hb dX1_init_50 (by decide) ?_
          refine lv_iload_n hx hb dX1_init_25 rfl (lv_at hl 0 rfl) ?_
          refine lv_aload_n hx hb dX1_init_26 rfl (lv_at hl 1 rfl) ?_
          refine va_get (ci := 1) (v := .ref n_1) (C := RX1) (T := TX1) (N := 3) hx hb hts inX1 hown hK hP 0 rfl rfl 0 (by decide) (hts _ q_138) (fun _ h9 => h9) rfl dX1_init_27 ?_
          refine va_alen (v := 6) hx hb hK hP _ 2 (show _ from (rfl : ((((([(q, .inr (1, [.ref n_1, .int 0, .int 0])), (n_1, .inl (kA 2, 6, .inr (.inr (.inr (.inr (va_up (va_up (va_up (va_up (fun _ => none) 0 (some n_3)) 1 (some n_5)) 2 (some n_7)) 3 (some n_9)))))))] ++ (sB kA n_3 d0)) ++ (sB kA n_5 d1)) ++ (sB kA n_7 d2)) ++ (sB kA n_9 d3)) : va_W)[1]? = some (n_1, .inl (kA 2, 6, .inr (.inr (.inr (.inr (va_up (va_up (va_up (va_up (fun _ => none) 0 (some n_3)) 1 (some n_5)) 2 (some n_7)) 3 (some n_9))))))))) rfl rfl dX1_init_30 ?_
          refine lv_icmp_ge (tgt := 53) hx hb dX1_init_31 (by decide) (fun c_10 => ?_) (fun c_10 => ?_)
          · exact absurd c_10 (by decide)
          · skip
            replace c_10 := nge_l c_10
            refine lv_aload_n hx hb dX1_init_34 rfl (lv_at hl 1 rfl) ?_
            refine va_get (ci := 1) (v := .ref n_1) (C := RX1) (T := TX1) (N := 3) hx hb hts inX1 hown hK hP 0 rfl rfl 0 (by decide) (hts _ q_138) (fun _ h9 => h9) rfl dX1_init_35 ?_
            refine lv_iload_n hx hb dX1_init_38 rfl (lv_at hl 0 rfl) ?_
            refine va_new (ci := 4) (fs := [.null, .null, .int 0, .int 0]) (C := RX4) (T := TX4) (N := 4) hx hb hts inX4 tyX4 tyX4_ok hown (hts _ q_135) (hts _ q_24) (hts _ q_2) hK hP hD hS hA rfl (fun j hj => by rcases (show j = 0 ∨ j = 1 ∨ j = 2 ∨ j = 3 by omega) with rfl | rfl | rfl | rfl <;> rfl) (Nat.le_of_ble_eq_true rfl) (Nat.le_of_ble_eq_true rfl) dX1_init_39 (fun n_11 H hP hD hS => ?_)
            have hP : va_P D vwCl ((((([(q, .inr (1, [.ref n_1, .int 0, .int 0])), (n_1, .inl (kA 2, 6, .inr (.inr (.inr (.inr (va_up (va_up (va_up (va_up (fun _ => none) 0 (some n_3)) 1 (some n_5)) 2 (some n_7)) 3 (some n_9)))))))] ++ (sB kA n_3 d0)) ++ (sB kA n_5 d1)) ++ (sB kA n_7 d2)) ++ (sB kA n_9 d3)) ++ [(n_11, .inr (4, [.null, .null, .int 0, .int 0]))]) _ := hP
            have hD : va_D (va_A [(q, .inr (1, [.null, .int 0, .int 0]))] s.heap.size) ((((([(q, .inr (1, [.ref n_1, .int 0, .int 0])), (n_1, .inl (kA 2, 6, .inr (.inr (.inr (.inr (va_up (va_up (va_up (va_up (fun _ => none) 0 (some n_3)) 1 (some n_5)) 2 (some n_7)) 3 (some n_9)))))))] ++ (sB kA n_3 d0)) ++ (sB kA n_5 d1)) ++ (sB kA n_7 d2)) ++ (sB kA n_9 d3)) ++ [(n_11, .inr (4, [.null, .null, .int 0, .int 0]))]) := hD
            refine lv_dup hx hb dX1_init_42 rfl ?_
            refine cs_n (ws := (((([(q, .inr (1, [.ref n_1, .int 0, .int 0])), (n_1, .inl (kA 2, 6, .inr (.inr (.inr (.inr (va_up (va_up (va_up (va_up (fun _ => none) 0 (some n_3)) 1 (some n_5)) 2 (some n_7)) 3 (some n_9)))))))] ++ (sB kA n_3 d0)) ++ (sB kA n_5 d1)) ++ (sB kA n_7 d2)) ++ (sB kA n_9 d3))) (nrunI (rest := [.ref n_11, .int 4, .ref n_1]) ⟨hx, hb, hml, hown, hts⟩ (m_X4_init l D kA n_11 H.size) rfl q_137 q_26 q_2 q_27 hd_X4_init ⟨rfl, rfl⟩ ⟨Nat.le_of_ble_eq_true rfl, Nat.le_of_ble_eq_true rfl⟩ hK (ws := [(n_11, .inr (4, [.null, .null, .int 0, .int 0]))]) (P1 hP (i := 46) rfl) (D1 hD (i := 46) rfl) hN hl.1 rfl (Nat.le_of_ble_eq_true rfl) dX1_init_43 ⟨Nat.le_of_ble_eq_true rfl, Nat.le_of_ble_eq_true rfl⟩) hP hD hS hA (fun d4 H locs hP hD hS => ?_)
            have hP : va_P D vwCl ((((([(q, .inr (1, [.ref n_1, .int 0, .int 0])), (n_1, .inl (kA 2, 6, .inr (.inr (.inr (.inr (va_up (va_up (va_up (va_up (fun _ => none) 0 (some n_3)) 1 (some n_5)) 2 (some n_7)) 3 (some n_9)))))))] ++ (sB kA n_3 d0)) ++ (sB kA n_5 d1)) ++ (sB kA n_7 d2)) ++ (sB kA n_9 d3)) ++ (sB kA n_11 d4)) _ := hP
            have hD : va_D (va_A [(q, .inr (1, [.null, .int 0, .int 0]))] s.heap.size) ((((([(q, .inr (1, [.ref n_1, .int 0, .int 0])), (n_1, .inl (kA 2, 6, .inr (.inr (.inr (.inr (va_up (va_up (va_up (va_up (fun _ => none) 0 (some n_3)) 1 (some n_5)) 2 (some n_7)) 3 (some n_9)))))))] ++ (sB kA n_3 d0)) ++ (sB kA n_5 d1)) ++ (sB kA n_7 d2)) ++ (sB kA n_9 d3)) ++ (sB kA n_11 d4)) := hD
            refine va_astq (f := (va_up (va_up (va_up (va_up (fun _ => none) 0 (some n_3)) 1 (some n_5)) 2 (some n_7)) 3 (some n_9))) (vs := [.ref (d4 0), .ref (d4 1), .int 1000, .int 0]) hx hb hK hP hD hS 1 2 46 4 rfl rfl rfl rfl (i := 4) (in_nI (j := 4) rfl (by omega) (by decide)) dX1_init_46 (fun H locs hP hD hS => ?_)
            have hP : va_P D vwCl ((((([(q, .inr (1, [.ref n_1, .int 0, .int 0])), (n_1, .inl (kA 2, 6, .inr (.inr (.inr (.inr (va_up (va_up (va_up (va_up (va_up (fun _ => none) 0 (some n_3)) 1 (some n_5)) 2 (some n_7)) 3 (some n_9)) 4 (some n_11)))))))] ++ (sB kA n_3 d0)) ++ (sB kA n_5 d1)) ++ (sB kA n_7 d2)) ++ (sB kA n_9 d3)) ++ (sB kA n_11 d4)) _ := hP
            have hD : va_D (va_A [(q, .inr (1, [.null, .int 0, .int 0]))] s.heap.size) ((((([(q, .inr (1, [.ref n_1, .int 0, .int 0])), (n_1, .inl (kA 2, 6, .inr (.inr (.inr (.inr (va_up (va_up (va_up (va_up (va_up (fun _ => none) 0 (some n_3)) 1 (some n_5)) 2 (some n_7)) 3 (some n_9)) 4 (some n_11)))))))] ++ (sB kA n_3 d0)) ++ (sB kA n_5 d1)) ++ (sB kA n_7 d2)) ++ (sB kA n_9 d3)) ++ (sB kA n_11 d4)) := hD
            refine lv_iinc (v := 5) (lv' := [(1, .int 5), (0, .ref q)]) hx hb dX1_init_47 hl (k := 0) rfl (by first | rfl | decide) (by decide) rfl (fun ls hl => ?_)
            refine lv_goto (tgt := 25) hx hb dX1_init_50 (by decide) ?_
            refine lv_iload_n hx hb dX1_init_25 rfl (lv_at hl 0 rfl) ?_
            refine lv_aload_n hx hb dX1_init_26 rfl (lv_at hl 1 rfl) ?_
            refine va_get (ci := 1) (v := .ref n_1) (C := RX1) (T := TX1) (N := 3) hx hb hts inX1 hown hK hP 0 rfl rfl 0 (by decide) (hts _ q_138) (fun _ h9 => h9) rfl dX1_init_27 ?_
            refine va_alen (v := 6) hx hb hK hP _ 2 (show _ from (rfl : (((((([(q, .inr (1, [.ref n_1, .int 0, .int 0])), (n_1, .inl (kA 2, 6, .inr (.inr (.inr (.inr (va_up (va_up (va_up (va_up (va_up (fun _ => none) 0 (some n_3)) 1 (some n_5)) 2 (some n_7)) 3 (some n_9)) 4 (some n_11)))))))] ++ (sB kA n_3 d0)) ++ (sB kA n_5 d1)) ++ (sB kA n_7 d2)) ++ (sB kA n_9 d3)) ++ (sB kA n_11 d4)) : va_W)[1]? = some (n_1, .inl (kA 2, 6, .inr (.inr (.inr (.inr (va_up (va_up (va_up (va_up (va_up (fun _ => none) 0 (some n_3)) 1 (some n_5)) 2 (some n_7)) 3 (some n_9)) 4 (some n_11))))))))) rfl rfl dX1_init_30 ?_
            refine lv_icmp_ge (tgt := 53) hx hb dX1_init_31 (by decide) (fun c_12 => ?_) (fun c_12 => ?_)
            · exact absurd c_12 (by decide)
            · skip
              replace c_12 := nge_l c_12
              refine lv_aload_n hx hb dX1_init_34 rfl (lv_at hl 1 rfl) ?_
              refine va_get (ci := 1) (v := .ref n_1) (C := RX1) (T := TX1) (N := 3) hx hb hts inX1 hown hK hP 0 rfl rfl 0 (by decide) (hts _ q_138) (fun _ h9 => h9) rfl dX1_init_35 ?_
              refine lv_iload_n hx hb dX1_init_38 rfl (lv_at hl 0 rfl) ?_
              refine va_new (ci := 4) (fs := [.null, .null, .int 0, .int 0]) (C := RX4) (T := TX4) (N := 4) hx hb hts inX4 tyX4 tyX4_ok hown (hts _ q_135) (hts _ q_24) (hts _ q_2) hK hP hD hS hA rfl (fun j hj => by rcases (show j = 0 ∨ j = 1 ∨ j = 2 ∨ j = 3 by omega) with rfl | rfl | rfl | rfl <;> rfl) (Nat.le_of_ble_eq_true rfl) (Nat.le_of_ble_eq_true rfl) dX1_init_39 (fun n_13 H hP hD hS => ?_)
              have hP : va_P D vwCl (((((([(q, .inr (1, [.ref n_1, .int 0, .int 0])), (n_1, .inl (kA 2, 6, .inr (.inr (.inr (.inr (va_up (va_up (va_up (va_up (va_up (fun _ => none) 0 (some n_3)) 1 (some n_5)) 2 (some n_7)) 3 (some n_9)) 4 (some n_11)))))))] ++ (sB kA n_3 d0)) ++ (sB kA n_5 d1)) ++ (sB kA n_7 d2)) ++ (sB kA n_9 d3)) ++ (sB kA n_11 d4)) ++ [(n_13, .inr (4, [.null, .null, .int 0, .int 0]))]) _ := hP
              have hD : va_D (va_A [(q, .inr (1, [.null, .int 0, .int 0]))] s.heap.size) (((((([(q, .inr (1, [.ref n_1, .int 0, .int 0])), (n_1, .inl (kA 2, 6, .inr (.inr (.inr (.inr (va_up (va_up (va_up (va_up (va_up (fun _ => none) 0 (some n_3)) 1 (some n_5)) 2 (some n_7)) 3 (some n_9)) 4 (some n_11)))))))] ++ (sB kA n_3 d0)) ++ (sB kA n_5 d1)) ++ (sB kA n_7 d2)) ++ (sB kA n_9 d3)) ++ (sB kA n_11 d4)) ++ [(n_13, .inr (4, [.null, .null, .int 0, .int 0]))]) := hD
              refine lv_dup hx hb dX1_init_42 rfl ?_
              refine cs_n (ws := ((((([(q, .inr (1, [.ref n_1, .int 0, .int 0])), (n_1, .inl (kA 2, 6, .inr (.inr (.inr (.inr (va_up (va_up (va_up (va_up (va_up (fun _ => none) 0 (some n_3)) 1 (some n_5)) 2 (some n_7)) 3 (some n_9)) 4 (some n_11)))))))] ++ (sB kA n_3 d0)) ++ (sB kA n_5 d1)) ++ (sB kA n_7 d2)) ++ (sB kA n_9 d3)) ++ (sB kA n_11 d4))) (nrunI (rest := [.ref n_13, .int 5, .ref n_1]) ⟨hx, hb, hml, hown, hts⟩ (m_X4_init l D kA n_13 H.size) rfl q_137 q_26 q_2 q_27 hd_X4_init ⟨rfl, rfl⟩ ⟨Nat.le_of_ble_eq_true rfl, Nat.le_of_ble_eq_true rfl⟩ hK (ws := [(n_13, .inr (4, [.null, .null, .int 0, .int 0]))]) (P1 hP (i := 57) rfl) (D1 hD (i := 57) rfl) hN hl.1 rfl (Nat.le_of_ble_eq_true rfl) dX1_init_43 ⟨Nat.le_of_ble_eq_true rfl, Nat.le_of_ble_eq_true rfl⟩) hP hD hS hA (fun d5 H locs hP hD hS => ?_)
              have hP : va_P D vwCl (((((([(q, .inr (1, [.ref n_1, .int 0, .int 0])), (n_1, .inl (kA 2, 6, .inr (.inr (.inr (.inr (va_up (va_up (va_up (va_up (va_up (fun _ => none) 0 (some n_3)) 1 (some n_5)) 2 (some n_7)) 3 (some n_9)) 4 (some n_11)))))))] ++ (sB kA n_3 d0)) ++ (sB kA n_5 d1)) ++ (sB kA n_7 d2)) ++ (sB kA n_9 d3)) ++ (sB kA n_11 d4)) ++ (sB kA n_13 d5)) _ := hP
              have hD : va_D (va_A [(q, .inr (1, [.null, .int 0, .int 0]))] s.heap.size) (((((([(q, .inr (1, [.ref n_1, .int 0, .int 0])), (n_1, .inl (kA 2, 6, .inr (.inr (.inr (.inr (va_up (va_up (va_up (va_up (va_up (fun _ => none) 0 (some n_3)) 1 (some n_5)) 2 (some n_7)) 3 (some n_9)) 4 (some n_11)))))))] ++ (sB kA n_3 d0)) ++ (sB kA n_5 d1)) ++ (sB kA n_7 d2)) ++ (sB kA n_9 d3)) ++ (sB kA n_11 d4)) ++ (sB kA n_13 d5)) := hD
              refine va_astq (f := (va_up (va_up (va_up (va_up (va_up (fun _ => none) 0 (some n_3)) 1 (some n_5)) 2 (some n_7)) 3 (some n_9)) 4 (some n_11))) (vs := [.ref (d5 0), .ref (d5 1), .int 1000, .int 0]) hx hb hK hP hD hS 1 2 57 4 rfl rfl rfl rfl (i := 5) (in_nI (j := 5) rfl (by omega) (by decide)) dX1_init_46 (fun H locs hP hD hS => ?_)
              have hP : va_P D vwCl (((((([(q, .inr (1, [.ref n_1, .int 0, .int 0])), (n_1, .inl (kA 2, 6, .inr (.inr (.inr (.inr (va_up (va_up (va_up (va_up (va_up (va_up (fun _ => none) 0 (some n_3)) 1 (some n_5)) 2 (some n_7)) 3 (some n_9)) 4 (some n_11)) 5 (some n_13)))))))] ++ (sB kA n_3 d0)) ++ (sB kA n_5 d1)) ++ (sB kA n_7 d2)) ++ (sB kA n_9 d3)) ++ (sB kA n_11 d4)) ++ (sB kA n_13 d5)) _ := hP
              have hD : va_D (va_A [(q, .inr (1, [.null, .int 0, .int 0]))] s.heap.size) (((((([(q, .inr (1, [.ref n_1, .int 0, .int 0])), (n_1, .inl (kA 2, 6, .inr (.inr (.inr (.inr (va_up (va_up (va_up (va_up (va_up (va_up (fun _ => none) 0 (some n_3)) 1 (some n_5)) 2 (some n_7)) 3 (some n_9)) 4 (some n_11)) 5 (some n_13)))))))] ++ (sB kA n_3 d0)) ++ (sB kA n_5 d1)) ++ (sB kA n_7 d2)) ++ (sB kA n_9 d3)) ++ (sB kA n_11 d4)) ++ (sB kA n_13 d5)) := hD
              refine lv_iinc (v := 6) (lv' := [(1, .int 6), (0, .ref q)]) hx hb dX1_init_47 hl (k := 0) rfl (by first | rfl | decide) (by decide) rfl (fun ls hl => ?_)
              refine lv_goto (tgt := 25) hx hb dX1_init_50 (by decide) ?_
              refine lv_iload_n hx hb dX1_init_25 rfl (lv_at hl 0 rfl) ?_
              refine lv_aload_n hx hb dX1_init_26 rfl (lv_at hl 1 rfl) ?_
              refine va_get (ci := 1) (v := .ref n_1) (C := RX1) (T := TX1) (N := 3) hx hb hts inX1 hown hK hP 0 rfl rfl 0 (by decide) (hts _ q_138) (fun _ h9 => h9) rfl dX1_init_27 ?_
              refine va_alen (v := 6) hx hb hK hP _ 2 (show _ from (rfl : ((((((([(q, .inr (1, [.ref n_1, .int 0, .int 0])), (n_1, .inl (kA 2, 6, .inr (.inr (.inr (.inr (va_up (va_up (va_up (va_up (va_up (va_up (fun _ => none) 0 (some n_3)) 1 (some n_5)) 2 (some n_7)) 3 (some n_9)) 4 (some n_11)) 5 (some n_13)))))))] ++ (sB kA n_3 d0)) ++ (sB kA n_5 d1)) ++ (sB kA n_7 d2)) ++ (sB kA n_9 d3)) ++ (sB kA n_11 d4)) ++ (sB kA n_13 d5)) : va_W)[1]? = some (n_1, .inl (kA 2, 6, .inr (.inr (.inr (.inr (va_up (va_up (va_up (va_up (va_up (va_up (fun _ => none) 0 (some n_3)) 1 (some n_5)) 2 (some n_7)) 3 (some n_9)) 4 (some n_11)) 5 (some n_13))))))))) rfl rfl dX1_init_30 ?_
              refine lv_icmp_ge (tgt := 53) hx hb dX1_init_31 (by decide) (fun c_14 => ?_) (fun c_14 => ?_)
              · skip
                replace c_14 := ge_n c_14
                have hPs : va_P D vwCl (hB kA q (fun i => if i < 1 then n_1 else if i < 2 then n_3 else if i < 12 then d0 (i - 2) else if i < 13 then n_5 else if i < 23 then d1 (i - 13) else if i < 24 then n_7 else if i < 34 then d2 (i - 24) else if i < 35 then n_9 else if i < 45 then d3 (i - 35) else if i < 46 then n_11 else if i < 56 then d4 (i - 46) else if i < 57 then n_13 else d5 (i - 57))) H := by
                  have h0 := va_P.refs (g := fun j => some ((fun i => if i < 1 then n_1 else if i < 2 then n_3 else if i < 12 then d0 (i - 2) else if i < 13 then n_5 else if i < 23 then d1 (i - 13) else if i < 24 then n_7 else if i < 34 then d2 (i - 24) else if i < 35 then n_9 else if i < 45 then d3 (i - 35) else if i < 46 then n_11 else if i < 56 then d4 (i - 46) else if i < 57 then n_13 else d5 (i - 57)) (1 + 11 * j))) (hP.l.l.l.l.l.l) (k := 1) rfl (fun j hj => by rcases (show j = 0 ∨ j = 1 ∨ j = 2 ∨ j = 3 ∨ j = 4 ∨ j = 5 by omega) with rfl | rfl | rfl | rfl | rfl | rfl <;> rfl)
                  exact (va_P.app (va_P.app (va_P.app (va_P.app (va_P.app (va_P.app h0 (sB_congr (d' := fun i => (fun i => if i < 1 then n_1 else if i < 2 then n_3 else if i < 12 then d0 (i - 2) else if i < 13 then n_5 else if i < 23 then d1 (i - 13) else if i < 24 then n_7 else if i < 34 then d2 (i - 24) else if i < 35 then n_9 else if i < 45 then d3 (i - 35) else if i < 46 then n_11 else if i < 56 then d4 (i - 46) else if i < 57 then n_13 else d5 (i - 57)) (2 + i)) rfl (fun i hi => by rcases (show i = 0 ∨ i = 1 ∨ i = 2 ∨ i = 3 ∨ i = 4 ∨ i = 5 ∨ i = 6 ∨ i = 7 ∨ i = 8 ∨ i = 9 by omega) with rfl | rfl | rfl | rfl | rfl | rfl | rfl | rfl | rfl | rfl <;> rfl) hP.l.l.l.l.l.r)) (sB_congr (d' := fun i => (fun i => if i < 1 then n_1 else if i < 2 then n_3 else if i < 12 then d0 (i - 2) else if i < 13 then n_5 else if i < 23 then d1 (i - 13) else if i < 24 then n_7 else if i < 34 then d2 (i - 24) else if i < 35 then n_9 else if i < 45 then d3 (i - 35) else if i < 46 then n_11 else if i < 56 then d4 (i - 46) else if i < 57 then n_13 else d5 (i - 57)) (13 + i)) rfl (fun i hi => by rcases (show i = 0 ∨ i = 1 ∨ i = 2 ∨ i = 3 ∨ i = 4 ∨ i = 5 ∨ i = 6 ∨ i = 7 ∨ i = 8 ∨ i = 9 by omega) with rfl | rfl | rfl | rfl | rfl | rfl | rfl | rfl | rfl | rfl <;> rfl) hP.l.l.l.l.r)) (sB_congr (d' := fun i => (fun i => if i < 1 then n_1 else if i < 2 then n_3 else if i < 12 then d0 (i - 2) else if i < 13 then n_5 else if i < 23 then d1 (i - 13) else if i < 24 then n_7 else if i < 34 then d2 (i - 24) else if i < 35 then n_9 else if i < 45 then d3 (i - 35) else if i < 46 then n_11 else if i < 56 then d4 (i - 46) else if i < 57 then n_13 else d5 (i - 57)) (24 + i)) rfl (fun i hi => by rcases (show i = 0 ∨ i = 1 ∨ i = 2 ∨ i = 3 ∨ i = 4 ∨ i = 5 ∨ i = 6 ∨ i = 7 ∨ i = 8 ∨ i = 9 by omega) with rfl | rfl | rfl | rfl | rfl | rfl | rfl | rfl | rfl | rfl <;> rfl) hP.l.l.l.r)) (sB_congr (d' := fun i => (fun i => if i < 1 then n_1 else if i < 2 then n_3 else if i < 12 then d0 (i - 2) else if i < 13 then n_5 else if i < 23 then d1 (i - 13) else if i < 24 then n_7 else if i < 34 then d2 (i - 24) else if i < 35 then n_9 else if i < 45 then d3 (i - 35) else if i < 46 then n_11 else if i < 56 then d4 (i - 46) else if i < 57 then n_13 else d5 (i - 57)) (35 + i)) rfl (fun i hi => by rcases (show i = 0 ∨ i = 1 ∨ i = 2 ∨ i = 3 ∨ i = 4 ∨ i = 5 ∨ i = 6 ∨ i = 7 ∨ i = 8 ∨ i = 9 by omega) with rfl | rfl | rfl | rfl | rfl | rfl | rfl | rfl | rfl | rfl <;> rfl) hP.l.l.r)) (sB_congr (d' := fun i => (fun i => if i < 1 then n_1 else if i < 2 then n_3 else if i < 12 then d0 (i - 2) else if i < 13 then n_5 else if i < 23 then d1 (i - 13) else if i < 24 then n_7 else if i < 34 then d2 (i - 24) else if i < 35 then n_9 else if i < 45 then d3 (i - 35) else if i < 46 then n_11 else if i < 56 then d4 (i - 46) else if i < 57 then n_13 else d5 (i - 57)) (46 + i)) rfl (fun i hi => by rcases (show i = 0 ∨ i = 1 ∨ i = 2 ∨ i = 3 ∨ i = 4 ∨ i = 5 ∨ i = 6 ∨ i = 7 ∨ i = 8 ∨ i = 9 by omega) with rfl | rfl | rfl | rfl | rfl | rfl | rfl | rfl | rfl | rfl <;> rfl) hP.l.r)) (sB_congr (d' := fun i => (fun i => if i < 1 then n_1 else if i < 2 then n_3 else if i < 12 then d0 (i - 2) else if i < 13 then n_5 else if i < 23 then d1 (i - 13) else if i < 24 then n_7 else if i < 34 then d2 (i - 24) else if i < 35 then n_9 else if i < 45 then d3 (i - 35) else if i < 46 then n_11 else if i < 56 then d4 (i - 46) else if i < 57 then n_13 else d5 (i - 57)) (57 + i)) rfl (fun i hi => by rcases (show i = 0 ∨ i = 1 ∨ i = 2 ∨ i = 3 ∨ i = 4 ∨ i = 5 ∨ i = 6 ∨ i = 7 ∨ i = 8 ∨ i = 9 by omega) with rfl | rfl | rfl | rfl | rfl | rfl | rfl | rfl | rfl | rfl <;> rfl) hP.r))
                exact end_nv (d := fun i => if i < 1 then n_1 else if i < 2 then n_3 else if i < 12 then d0 (i - 2) else if i < 13 then n_5 else if i < 23 then d1 (i - 13) else if i < 24 then n_7 else if i < 34 then d2 (i - 24) else if i < 35 then n_9 else if i < 45 then d3 (i - 35) else if i < 46 then n_11 else if i < 56 then d4 (i - 46) else if i < 57 then n_13 else d5 (i - 57)) hx hb hrt hlk hP (va_D.congr (by rfl) hD) hS (fun _ => hPs) (fun h => va_D.congr (by rfl) h) dX1_init_53
              · exact absurd c_14 (by decide)

theorem hd_X5_init : yX5_init.cls ≠ "java/lang/invoke/MethodHandle" ∧ yX5_init.cls ≠ "java/lang/invoke/VarHandle" ∧ (parseMethodDescriptor yX5_init.desc).map (fun d => d.parameters.length) = some 0 := by decide +kernel
set_option maxRecDepth 100000 in
set_option maxHeartbeats 4000000 in
theorem m_X5_init (l : Launch) (D : va_G) (kA : Nat → Nat) (q sz : Nat) : Met l yX5_init (Cond.code yX5_init cX5_init 1 none :: AW) ({ frames := 4, cells := 83, slots := 1215, locals := 74 } : Room) (Pn [.ref q] D (TY kA) [(q, .inr (5, [.null, .null, .null, .null, .null, .int 0]))] sz) (nQ D (fun d => aB kA q d) [(q, .inr (5, [.null, .null, .null, .null, .null, .int 0]))] sz) 83 1215 (va_A [(q, .inr (5, [.null, .null, .null, .null, .null, .int 0]))] sz) := by
  refine MetN (by decide +kernel) (Nat.le_of_ble_eq_true rfl) ?_
  intro p e s m below meth c ls hx hb hrt hts hown hml hlk hnm hP hK hD hS hl hN hsz
  subst hsz
  have hA : ∀ q9, s.heap.size ≤ q9 → va_A [(q, .inr (5, [.null, .null, .null, .null, .null, .int 0]))] s.heap.size q9 := fun _ h => Or.inr h
  have hl : lv_has ls 1 [(0, .ref q)] := hl
  refine lv_aload_n hx hb dX5_init_0 rfl (lv_at hl 0 rfl) ?_
  refine nobj hx hb hown (hts _ q_20) (hts _ q_21) (hts _ q_22) (by rw [hml]; exact hl.1) dX5_init_1 (Nat.le_of_ble_eq_true rfl) (Nat.le_of_ble_eq_true rfl) ?_
  refine lv_aload_n hx hb dX5_init_4 rfl (lv_at hl 0 rfl) ?_
  refine va_new (ci := 4) (fs := [.null, .null, .int 0, .int 0]) (C := RX4) (T := TX4) (N := 4) hx hb hts inX4 tyX4 tyX4_ok hown (hts _ q_23) (hts _ q_24) (hts _ q_2) hK hP hD hS hA rfl (fun j hj => by rcases (show j = 0 ∨ j = 1 ∨ j = 2 ∨ j = 3 by omega) with rfl | rfl | rfl | rfl <;> rfl) (Nat.le_of_ble_eq_true rfl) (Nat.le_of_ble_eq_true rfl) dX5_init_5 (fun n_1 H hP hD hS => ?_)
  have hP : va_P D vwCl [(q, .inr (5, [.null, .null, .null, .null, .null, .int 0])), (n_1, .inr (4, [.null, .null, .int 0, .int 0]))] _ := hP
  have hD : va_D (va_A [(q, .inr (5, [.null, .null, .null, .null, .null, .int 0]))] s.heap.size) [(q, .inr (5, [.null, .null, .null, .null, .null, .int 0])), (n_1, .inr (4, [.null, .null, .int 0, .int 0]))] := hD
  refine lv_dup hx hb dX5_init_8 rfl ?_
  refine cs_n (ws := [(q, .inr (5, [.null, .null, .null, .null, .null, .int 0]))]) (nrunI (rest := [.ref n_1, .ref q]) ⟨hx, hb, hml, hown, hts⟩ (m_X4_init l D kA n_1 H.size) rfl q_25 q_26 q_2 q_27 hd_X4_init ⟨rfl, rfl⟩ ⟨Nat.le_of_ble_eq_true rfl, Nat.le_of_ble_eq_true rfl⟩ hK (ws := [(n_1, .inr (4, [.null, .null, .int 0, .int 0]))]) (P1 hP (i := 1) rfl) (D1 hD (i := 1) rfl) hN hl.1 rfl (Nat.le_of_ble_eq_true rfl) dX5_init_9 ⟨Nat.le_of_ble_eq_true rfl, Nat.le_of_ble_eq_true rfl⟩) hP hD hS hA (fun d0 H locs hP hD hS => ?_)
  have hP : va_P D vwCl ([(q, .inr (5, [.null, .null, .null, .null, .null, .int 0]))] ++ (sB kA n_1 d0)) _ := hP
  have hD : va_D (va_A [(q, .inr (5, [.null, .null, .null, .null, .null, .int 0]))] s.heap.size) ([(q, .inr (5, [.null, .null, .null, .null, .null, .int 0]))] ++ (sB kA n_1 d0)) := hD
  refine va_putF (ci := 5) (v := .ref n_1) (ty := tyX5 0) (C := RX5) (T := TX5) (N := 6) hx hb hts inX5 tyX5 tyX5_ok nmX5 hown hK hP hD hS 0 rfl rfl 0 (by decide) (hts _ q_170) (fun _ h9 => h9) rfl (hnm.trans rfl) rfl (tyX5_ok 0 (by decide)) rfl rfl (Nat.le_of_ble_eq_true rfl) dX5_init_12 (fun H locs hP hD hS => ?_)
  have hP : va_P D vwCl ([(q, .inr (5, [.ref n_1, .null, .null, .null, .null, .int 0]))] ++ (sB kA n_1 d0)) _ := hP
  have hD : va_D (va_A [(q, .inr (5, [.null, .null, .null, .null, .null, .int 0]))] s.heap.size) ([(q, .inr (5, [.ref n_1, .null, .null, .null, .null, .int 0]))] ++ (sB kA n_1 d0)) := hD
  refine lv_aload_n hx hb dX5_init_15 rfl (lv_at hl 0 rfl) ?_
  refine va_new (ci := 1) (fs := [.null, .int 0, .int 0]) (C := RX1) (T := TX1) (N := 3) hx hb hts inX1 tyX1 tyX1_ok hown (hts _ q_129) (hts _ q_130) (hts _ q_5) hK hP hD hS hA rfl (fun j hj => by rcases (show j = 0 ∨ j = 1 ∨ j = 2 by omega) with rfl | rfl | rfl <;> rfl) (Nat.le_of_ble_eq_true rfl) (Nat.le_of_ble_eq_true rfl) dX5_init_16 (fun n_2 H hP hD hS => ?_)
  have hP : va_P D vwCl (([(q, .inr (5, [.ref n_1, .null, .null, .null, .null, .int 0]))] ++ (sB kA n_1 d0)) ++ [(n_2, .inr (1, [.null, .int 0, .int 0]))]) _ := hP
  have hD : va_D (va_A [(q, .inr (5, [.null, .null, .null, .null, .null, .int 0]))] s.heap.size) (([(q, .inr (5, [.ref n_1, .null, .null, .null, .null, .int 0]))] ++ (sB kA n_1 d0)) ++ [(n_2, .inr (1, [.null, .int 0, .int 0]))]) := hD
  refine lv_dup hx hb dX5_init_19 rfl ?_
  refine cs_n (ws := ([(q, .inr (5, [.ref n_1, .null, .null, .null, .null, .int 0]))] ++ (sB kA n_1 d0))) (nrunI (rest := [.ref n_2, .ref q]) ⟨hx, hb, hml, hown, hts⟩ (m_X1_init l D kA n_2 H.size) rfl q_131 q_132 q_5 q_133 hd_X1_init ⟨rfl, rfl⟩ ⟨Nat.le_of_ble_eq_true rfl, Nat.le_of_ble_eq_true rfl⟩ hK (ws := [(n_2, .inr (1, [.null, .int 0, .int 0]))]) (P1 hP (i := 12) rfl) (D1 hD (i := 12) rfl) hN hl.1 rfl (Nat.le_of_ble_eq_true rfl) dX5_init_20 ⟨Nat.le_of_ble_eq_true rfl, Nat.le_of_ble_eq_true rfl⟩) hP hD hS hA (fun d1 H locs hP hD hS => ?_)
  have hP : va_P D vwCl (([(q, .inr (5, [.ref n_1, .null, .null, .null, .null, .int 0]))] ++ (sB kA n_1 d0)) ++ (hB kA n_2 d1)) _ := hP
  have hD : va_D (va_A [(q, .inr (5, [.null, .null, .null, .null, .null, .int 0]))] s.heap.size) (([(q, .inr (5, [.ref n_1, .null, .null, .null, .null, .int 0]))] ++ (sB kA n_1 d0)) ++ (hB kA n_2 d1)) := hD
  refine va_putF (ci := 5) (v := .ref n_2) (ty := tyX5 1) (C := RX5) (T := TX5) (N := 6) hx hb hts inX5 tyX5 tyX5_ok nmX5 hown hK hP hD hS 0 rfl rfl 1 (by decide) (hts _ q_171) (fun _ h9 => h9) rfl (hnm.trans rfl) rfl (tyX5_ok 1 (by decide)) rfl rfl (Nat.le_of_ble_eq_true rfl) dX5_init_23 (fun H locs hP hD hS => ?_)
  have hP : va_P D vwCl (([(q, .inr (5, [.ref n_1, .ref n_2, .null, .null, .null, .int 0]))] ++ (sB kA n_1 d0)) ++ (hB kA n_2 d1)) _ := hP
  have hD : va_D (va_A [(q, .inr (5, [.null, .null, .null, .null, .null, .int 0]))] s.heap.size) (([(q, .inr (5, [.ref n_1, .ref n_2, .null, .null, .null, .int 0]))] ++ (sB kA n_1 d0)) ++ (hB kA n_2 d1)) := hD
  refine lv_aload_n hx hb dX5_init_26 rfl (lv_at hl 0 rfl) ?_
  refine va_new (ci := 0) (fs := [.null, .int 0, .int 0, .int 0, .int 0, .int 0, .int 0, .int 0, .int 0, .int 0, .int 0, .int 0]) (C := RX0) (T := TX0) (N := 12) hx hb hts inX0 tyX0 tyX0_ok hown (hts _ q_149) (hts _ q_63) (hts _ q_4) hK hP hD hS hA rfl (fun j hj => by rcases (show j = 0 ∨ j = 1 ∨ j = 2 ∨ j = 3 ∨ j = 4 ∨ j = 5 ∨ j = 6 ∨ j = 7 ∨ j = 8 ∨ j = 9 ∨ j = 10 ∨ j = 11 by omega) with rfl | rfl | rfl | rfl | rfl | rfl | rfl | rfl | rfl | rfl | rfl | rfl <;> rfl) (Nat.le_of_ble_eq_true rfl) (Nat.le_of_ble_eq_true rfl) dX5_init_27 (fun n_3 H hP hD hS => ?_)
  have hP : va_P D vwCl ((([(q, .inr (5, [.ref n_1, .ref n_2, .null, .null, .null, .int 0]))] ++ (sB kA n_1 d0)) ++ (hB kA n_2 d1)) ++ [(n_3, .inr (0, [.null, .int 0, .int 0, .int 0, .int 0, .int 0, .int 0, .int 0, .int 0, .int 0, .int 0, .int 0]))]) _ := hP
  have hD : va_D (va_A [(q, .inr (5, [.null, .null, .null, .null, .null, .int 0]))] s.heap.size) ((([(q, .inr (5, [.ref n_1, .ref n_2, .null, .null, .null, .int 0]))] ++ (sB kA n_1 d0)) ++ (hB kA n_2 d1)) ++ [(n_3, .inr (0, [.null, .int 0, .int 0, .int 0, .int 0, .int 0, .int 0, .int 0, .int 0, .int 0, .int 0, .int 0]))]) := hD
  refine lv_dup hx hb dX5_init_30 rfl ?_
  refine cs_n (ws := (([(q, .inr (5, [.ref n_1, .ref n_2, .null, .null, .null, .int 0]))] ++ (sB kA n_1 d0)) ++ (hB kA n_2 d1))) (nrunN (rest := [.ref n_3, .ref q]) (host := "ArmTolls") ⟨hx, hb, hml, hown, hts⟩ (m_X0_init l D kA n_3 H.size) rfl (by decide +kernel) q_65 q_4 q_66 hd_X0_init ⟨rfl, rfl⟩ ⟨Nat.le_of_ble_eq_true rfl, Nat.le_of_ble_eq_true rfl⟩ hK (ws := [(n_3, .inr (0, [.null, .int 0, .int 0, .int 0, .int 0, .int 0, .int 0, .int 0, .int 0, .int 0, .int 0, .int 0]))]) (P1 hP (i := 80) rfl) (D1 hD (i := 80) rfl) hN hl.1 rfl (Nat.le_of_ble_eq_true rfl) dX5_init_31 ⟨Nat.le_of_ble_eq_true rfl, Nat.le_of_ble_eq_true rfl⟩) hP hD hS hA (fun d2 H locs hP hD hS => ?_)
  have hP : va_P D vwCl ((([(q, .inr (5, [.ref n_1, .ref n_2, .null, .null, .null, .int 0]))] ++ (sB kA n_1 d0)) ++ (hB kA n_2 d1)) ++ [(n_3, gC (d2 0) z0), ((d2 0), wC kA z0)]) _ := hP
  have hD : va_D (va_A [(q, .inr (5, [.null, .null, .null, .null, .null, .int 0]))] s.heap.size) ((([(q, .inr (5, [.ref n_1, .ref n_2, .null, .null, .null, .int 0]))] ++ (sB kA n_1 d0)) ++ (hB kA n_2 d1)) ++ [(n_3, gC (d2 0) z0), ((d2 0), wC kA z0)]) := hD
  refine va_putF (ci := 5) (v := .ref n_3) (ty := tyX5 2) (C := RX5) (T := TX5) (N := 6) hx hb hts inX5 tyX5 tyX5_ok nmX5 hown hK hP hD hS 0 rfl rfl 2 (by decide) (hts _ q_172) (fun _ h9 => h9) rfl (hnm.trans rfl) rfl (tyX5_ok 2 (by decide)) rfl rfl (Nat.le_of_ble_eq_true rfl) dX5_init_34 (fun H locs hP hD hS => ?_)
  have hP : va_P D vwCl ((([(q, .inr (5, [.ref n_1, .ref n_2, .ref n_3, .null, .null, .int 0]))] ++ (sB kA n_1 d0)) ++ (hB kA n_2 d1)) ++ [(n_3, gC (d2 0) z0), ((d2 0), wC kA z0)]) _ := hP
  have hD : va_D (va_A [(q, .inr (5, [.null, .null, .null, .null, .null, .int 0]))] s.heap.size) ((([(q, .inr (5, [.ref n_1, .ref n_2, .ref n_3, .null, .null, .int 0]))] ++ (sB kA n_1 d0)) ++ (hB kA n_2 d1)) ++ [(n_3, gC (d2 0) z0), ((d2 0), wC kA z0)]) := hD
  refine lv_aload_n hx hb dX5_init_37 rfl (lv_at hl 0 rfl) ?_
  refine va_new (ci := 2) (fs := [.int 0, .int 0, .int 0, .int 0]) (C := RX2) (T := TX2) (N := 4) hx hb hts inX2 tyX2 tyX2_ok hown (hts _ q_151) (hts _ q_152) (hts _ q_6) hK hP hD hS hA rfl (fun j hj => by rcases (show j = 0 ∨ j = 1 ∨ j = 2 ∨ j = 3 by omega) with rfl | rfl | rfl | rfl <;> rfl) (Nat.le_of_ble_eq_true rfl) (Nat.le_of_ble_eq_true rfl) dX5_init_38 (fun n_4 H hP hD hS => ?_)
  have hP : va_P D vwCl ((([(q, .inr (5, [.ref n_1, .ref n_2, .ref n_3, .null, .null, .int 0]))] ++ (sB kA n_1 d0)) ++ (hB kA n_2 d1)) ++ [(n_3, gC (d2 0) z0), ((d2 0), wC kA z0), (n_4, .inr (2, [.int 0, .int 0, .int 0, .int 0]))]) _ := hP
  have hD : va_D (va_A [(q, .inr (5, [.null, .null, .null, .null, .null, .int 0]))] s.heap.size) ((([(q, .inr (5, [.ref n_1, .ref n_2, .ref n_3, .null, .null, .int 0]))] ++ (sB kA n_1 d0)) ++ (hB kA n_2 d1)) ++ [(n_3, gC (d2 0) z0), ((d2 0), wC kA z0), (n_4, .inr (2, [.int 0, .int 0, .int 0, .int 0]))]) := hD
  refine lv_dup hx hb dX5_init_41 rfl ?_
  refine cs_n (ws := ((([(q, .inr (5, [.ref n_1, .ref n_2, .ref n_3, .null, .null, .int 0]))] ++ (sB kA n_1 d0)) ++ (hB kA n_2 d1)) ++ [(n_3, gC (d2 0) z0), ((d2 0), wC kA z0)])) (nrunN (rest := [.ref n_4, .ref q]) (host := "ArmTolls") ⟨hx, hb, hml, hown, hts⟩ (m_X2_init l D kA n_4 H.size) rfl (by decide +kernel) q_154 q_6 q_155 hd_X2_init ⟨rfl, rfl⟩ ⟨Nat.le_of_ble_eq_true rfl, Nat.le_of_ble_eq_true rfl⟩ hK (ws := [(n_4, .inr (2, [.int 0, .int 0, .int 0, .int 0]))]) (P1 hP (i := 82) rfl) (D1 hD (i := 82) rfl) hN hl.1 rfl (Nat.le_of_ble_eq_true rfl) dX5_init_42 ⟨Nat.le_of_ble_eq_true rfl, Nat.le_of_ble_eq_true rfl⟩) hP hD hS hA (fun d3 H locs hP hD hS => ?_)
  have hP : va_P D vwCl ((([(q, .inr (5, [.ref n_1, .ref n_2, .ref n_3, .null, .null, .int 0]))] ++ (sB kA n_1 d0)) ++ (hB kA n_2 d1)) ++ [(n_3, gC (d2 0) z0), ((d2 0), wC kA z0), (n_4, dC z0)]) _ := hP
  have hD : va_D (va_A [(q, .inr (5, [.null, .null, .null, .null, .null, .int 0]))] s.heap.size) ((([(q, .inr (5, [.ref n_1, .ref n_2, .ref n_3, .null, .null, .int 0]))] ++ (sB kA n_1 d0)) ++ (hB kA n_2 d1)) ++ [(n_3, gC (d2 0) z0), ((d2 0), wC kA z0), (n_4, dC z0)]) := hD
  refine va_putF (ci := 5) (v := .ref n_4) (ty := tyX5 3) (C := RX5) (T := TX5) (N := 6) hx hb hts inX5 tyX5 tyX5_ok nmX5 hown hK hP hD hS 0 rfl rfl 3 (by decide) (hts _ q_173) (fun _ h9 => h9) rfl (hnm.trans rfl) rfl (tyX5_ok 3 (by decide)) rfl rfl (Nat.le_of_ble_eq_true rfl) dX5_init_45 (fun H locs hP hD hS => ?_)
  have hP : va_P D vwCl ((([(q, .inr (5, [.ref n_1, .ref n_2, .ref n_3, .ref n_4, .null, .int 0]))] ++ (sB kA n_1 d0)) ++ (hB kA n_2 d1)) ++ [(n_3, gC (d2 0) z0), ((d2 0), wC kA z0), (n_4, dC z0)]) _ := hP
  have hD : va_D (va_A [(q, .inr (5, [.null, .null, .null, .null, .null, .int 0]))] s.heap.size) ((([(q, .inr (5, [.ref n_1, .ref n_2, .ref n_3, .ref n_4, .null, .int 0]))] ++ (sB kA n_1 d0)) ++ (hB kA n_2 d1)) ++ [(n_3, gC (d2 0) z0), ((d2 0), wC kA z0), (n_4, dC z0)]) := hD
  refine lv_aload_n hx hb dX5_init_48 rfl (lv_at hl 0 rfl) ?_
  refine lv_bipush (v := 60) hx hb dX5_init_49 (by decide) ?_
  refine va_newa (atype := .int) (ty := .int) hx hb (hts _ q_112) rfl hK hP hD hS hA (n := 60) (N' := 60) (a0 := (60, .inl (fun _ => 0))) (fun _ => rfl) (by decide) rfl (by decide) (Nat.le_of_ble_eq_true rfl) (Nat.le_of_ble_eq_true rfl) dX5_init_51 (fun n_5 cA H hK9 hP hD hS => ?_)
  obtain rfl : cA = kA 0 := ua_eq hK9 (i := 3) (j := 0) rfl rfl
  clear hK9
  have hP : va_P D vwCl ((([(q, .inr (5, [.ref n_1, .ref n_2, .ref n_3, .ref n_4, .null, .int 0]))] ++ (sB kA n_1 d0)) ++ (hB kA n_2 d1)) ++ [(n_3, gC (d2 0) z0), ((d2 0), wC kA z0), (n_4, dC z0), (n_5, .inl (kA 0, 60, .inl (fun _ => 0)))]) _ := hP
  have hD : va_D (va_A [(q, .inr (5, [.null, .null, .null, .null, .null, .int 0]))] s.heap.size) ((([(q, .inr (5, [.ref n_1, .ref n_2, .ref n_3, .ref n_4, .null, .int 0]))] ++ (sB kA n_1 d0)) ++ (hB kA n_2 d1)) ++ [(n_3, gC (d2 0) z0), ((d2 0), wC kA z0), (n_4, dC z0), (n_5, .inl (kA 0, 60, .inl (fun _ => 0)))]) := hD
  refine va_putF (ci := 5) (v := .ref n_5) (ty := tyX5 4) (C := RX5) (T := TX5) (N := 6) hx hb hts inX5 tyX5 tyX5_ok nmX5 hown hK hP hD hS 0 rfl rfl 4 (by decide) (hts _ q_174) (fun _ h9 => h9) rfl (hnm.trans rfl) rfl (tyX5_ok 4 (by decide)) rfl rfl (Nat.le_of_ble_eq_true rfl) dX5_init_53 (fun H locs hP hD hS => ?_)
  have hP : va_P D vwCl ((([(q, .inr (5, [.ref n_1, .ref n_2, .ref n_3, .ref n_4, .ref n_5, .int 0]))] ++ (sB kA n_1 d0)) ++ (hB kA n_2 d1)) ++ [(n_3, gC (d2 0) z0), ((d2 0), wC kA z0), (n_4, dC z0), (n_5, .inl (kA 0, 60, .inl (fun _ => 0)))]) _ := hP
  have hD : va_D (va_A [(q, .inr (5, [.null, .null, .null, .null, .null, .int 0]))] s.heap.size) ((([(q, .inr (5, [.ref n_1, .ref n_2, .ref n_3, .ref n_4, .ref n_5, .int 0]))] ++ (sB kA n_1 d0)) ++ (hB kA n_2 d1)) ++ [(n_3, gC (d2 0) z0), ((d2 0), wC kA z0), (n_4, dC z0), (n_5, .inl (kA 0, 60, .inl (fun _ => 0)))]) := hD
  refine lv_aload_n hx hb dX5_init_56 rfl (lv_at hl 0 rfl) ?_
  refine lv_iconst (v := 0) hx hb dX5_init_57 (by decide) ?_
  refine va_put (ci := 5) (v := .int 0) (ty := tyX5 5) (C := RX5) (T := TX5) (N := 6) hx hb hts inX5 tyX5 tyX5_ok nmX5 hown hK hP hD hS 0 rfl rfl 5 (by decide) (hts _ q_175) (fun _ h9 => h9) rfl (tyX5_ok 5 (by decide)) rfl rfl (Nat.le_of_ble_eq_true rfl) dX5_init_58 (fun H locs hP hD hS => ?_)
  have hP : va_P D vwCl ((([(q, .inr (5, [.ref n_1, .ref n_2, .ref n_3, .ref n_4, .ref n_5, .int 0]))] ++ (sB kA n_1 d0)) ++ (hB kA n_2 d1)) ++ [(n_3, gC (d2 0) z0), ((d2 0), wC kA z0), (n_4, dC z0), (n_5, .inl (kA 0, 60, .inl (fun _ => 0)))]) _ := hP
  have hD : va_D (va_A [(q, .inr (5, [.null, .null, .null, .null, .null, .int 0]))] s.heap.size) ((([(q, .inr (5, [.ref n_1, .ref n_2, .ref n_3, .ref n_4, .ref n_5, .int 0]))] ++ (sB kA n_1 d0)) ++ (hB kA n_2 d1)) ++ [(n_3, gC (d2 0) z0), ((d2 0), wC kA z0), (n_4, dC z0), (n_5, .inl (kA 0, 60, .inl (fun _ => 0)))]) := hD
  have hPs : va_P D vwCl (aB kA q (fun i => if i < 1 then n_1 else if i < 11 then d0 (i - 1) else if i < 12 then n_2 else if i < 79 then d1 (i - 12) else if i < 80 then n_3 else if i < 81 then (d2 0) else if i < 82 then n_4 else n_5)) H := by
    have h1 := sB_congr (d' := fun i => (fun i => if i < 1 then n_1 else if i < 11 then d0 (i - 1) else if i < 12 then n_2 else if i < 79 then d1 (i - 12) else if i < 80 then n_3 else if i < 81 then (d2 0) else if i < 82 then n_4 else n_5) (1 + i)) rfl (fun i hi => by rcases (show i = 0 ∨ i = 1 ∨ i = 2 ∨ i = 3 ∨ i = 4 ∨ i = 5 ∨ i = 6 ∨ i = 7 ∨ i = 8 ∨ i = 9 by omega) with rfl | rfl | rfl | rfl | rfl | rfl | rfl | rfl | rfl | rfl <;> rfl) hP.l.l.r
    have h2 := hB_congr (d' := fun i => (fun i => if i < 1 then n_1 else if i < 11 then d0 (i - 1) else if i < 12 then n_2 else if i < 79 then d1 (i - 12) else if i < 80 then n_3 else if i < 81 then (d2 0) else if i < 82 then n_4 else n_5) (12 + i)) rfl (fun i hi => by show d1 i = (fun i => if i < 1 then n_1 else if i < 11 then d0 (i - 1) else if i < 12 then n_2 else if i < 79 then d1 (i - 12) else if i < 80 then n_3 else if i < 81 then (d2 0) else if i < 82 then n_4 else n_5) (12 + i); simp only []; rw [if_neg (by omega), if_neg (by omega), if_neg (by omega), if_pos (by omega), Nat.add_sub_cancel_left]) hP.l.r
    exact va_P.app (va_P.app (va_P.app hP.l.l.l h1) h2) hP.r
  exact end_nv (d := fun i => if i < 1 then n_1 else if i < 11 then d0 (i - 1) else if i < 12 then n_2 else if i < 79 then d1 (i - 12) else if i < 80 then n_3 else if i < 81 then (d2 0) else if i < 82 then n_4 else n_5) hx hb hrt hlk hP (va_D.congr (by rfl) hD) hS (fun _ => hPs) (fun h => va_D.congr (by rfl) h) dX5_init_61

