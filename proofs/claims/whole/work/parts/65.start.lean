
theorem st_ne {kA : Nat → Nat} {q0 : Nat} {d0 : Nat → Nat} {A : Nat → Prop} {w2 : va_W} (hD : va_D A (aB kA q0 d0 ++ w2)) : ∀ (i j : Nat) (x y : Nat × va_E), w2[i]? = some x → (cw kA (adI q0 d0) XI)[j]? = some y → x.1 ≠ y.1 := by
  intro i j x y hx hy hxy
  obtain ⟨hj, rfl⟩ := cw_inv hy
  obtain ⟨e1, h1⟩ := aB_at (kA := kA) (q := q0) (d := d0) (ppK_lt j hj)
  exact hD.ne h1 hx hxy.symm
set_option maxRecDepth 100000 in
set_option maxHeartbeats 4000000 in
theorem whole_start {p : Program} {e : Env} {s : State} {m : MethodId} {below : List Frame} {meth : Method} {c : Code} (l : Launch) (hflags : l.flags = flags0) {b L : Nat} {xs : Nat → Int32} (hL : L ≤ 2048) (C0 : lw_At p s m meth c b L xs) : W p l e room_1 s m #[Value.ref b] below meth c s.heap [] 0 0 (lw_Z below #[Value.ref b] s) (entryFrame m ([Value.ref b] : List Value).toArray 9) := by
  obtain ⟨hx, hb, hr, hml, hown, htt, hXb, hbl, hlocks, hgv⟩ := id C0
  have hb : c.code = cL_law := hb
  have hown : s.vm.findClass RL = some m.cls := hown
  have hnt : l.stackTraces = false := by unfold Launch.stackTraces; rw [hflags]; decide +kernel
  have hts : ∀ w ∈ AW, w.before #[Value.ref b] s = true := fun w hw => htt w (List.mem_filter.mp hw).1
  obtain ⟨D, kA, hK⟩ := st_K htt
  have hn1 := nd1_of hgv
  have hX0 : XW (fun q : Nat => s.heap.size ≤ q) s s.heap := st_X htt hn1 (fun a h => Nat.not_le.mpr h)
  have hN := st_N htt
  have hLW := st_L hn1
  have C1 : LC l p s m meth c D kA b L xs := ⟨hx, hb, hml, hown, hts, hK, hXb, hbl, hX0, hLW, hnt⟩
  have hA : ∀ q : Nat, s.heap.size ≤ q → (fun q : Nat => s.heap.size ≤ q) q := fun _ h => h
  have hS : va_S (fun q : Nat => s.heap.size ≤ q) s.heap s.heap [] := va_S.rf
  have hP : va_P D vwCl [] s.heap := fun k q h => by simp at h
  have hD : va_D (fun q : Nat => s.heap.size ≤ q) [] := ⟨fun i j p q h => by simp at h, fun k q h => by simp at h⟩
  have hl := lv_entry ([.ref b]) (n := 9) (Nat.le_of_ble_eq_true rfl)
  rw [lg_entry_eq]
  generalize (lg_sl ([.ref b]) ++ List.replicate (9 - (lg_sl ([.ref b])).length) Slot.unset).toArray = ls at hl ⊢
  have hl : lv_has ls 9 [(0, .ref b)] := hl
  refine va_new (ci := 5) (fs := [.null, .null, .null, .null, .null, .int 0]) (C := RX5) (T := TX5) (N := 6) hx hb hts inX5 tyX5 tyX5_ok hown (hts _ q_17) (hts _ q_18) (hts _ q_1) hK hP hD hS hA rfl (fun j hj => by rcases (show j = 0 ∨ j = 1 ∨ j = 2 ∨ j = 3 ∨ j = 4 ∨ j = 5 by omega) with rfl | rfl | rfl | rfl | rfl | rfl <;> rfl) (Nat.le_of_ble_eq_true rfl) (Nat.le_of_ble_eq_true rfl) dL_law_0 (fun q0 H hP hD hS => ?_)
  have hP : va_P D vwCl ([] ++ [(q0, .inr (5, [.null, .null, .null, .null, .null, .int 0]))]) H := hP
  have hD : va_D (fun q : Nat => s.heap.size ≤ q) ([] ++ [(q0, .inr (5, [.null, .null, .null, .null, .null, .int 0]))]) := hD
  refine lv_dup hx hb dL_law_3 rfl ?_
  refine cs_n (ws := []) (nrunI (rest := [.ref q0]) ⟨hx, hb, hml, hown, hts⟩ (m_X5_init l D kA q0 H.size) rfl q_19 q_20 q_1 q_21 hd_X5_init ⟨rfl, rfl⟩ ⟨Nat.le_of_ble_eq_true rfl, Nat.le_of_ble_eq_true rfl⟩ hK (ws := [(q0, .inr (5, [.null, .null, .null, .null, .null, .int 0]))]) hP hD hN hl.1 rfl (Nat.le_of_ble_eq_true rfl) dL_law_4 ⟨Nat.le_of_ble_eq_true rfl, Nat.le_of_ble_eq_true rfl⟩) hP hD hS hA (fun d0 H locs hP hD hS => ?_)
  have hP : va_P D vwCl (aB kA q0 d0) H := hP
  have hD : va_D (fun q : Nat => s.heap.size ≤ q) (aB kA q0 d0) := hD
  refine lv_astore_n (lv' := [(1, .ref q0), (0, .ref b)]) hx hb dL_law_7 rfl hl (by decide) rfl (fun ls hl => ?_)
  refine va_new (ci := 6) (fs := [.null, .int 0, .null, .int 0, .null, .int 0, .int 0, .null, .int 0, .int 0, .int 0, .null, .long 0]) (C := RX6) (T := TX6) (N := 13) hx hb hts inX6 tyX6 tyX6_ok hown (hts _ q_764) (hts _ q_765) (hts _ q_7) hK hP hD hS hA rfl (fun j hj => by rcases (show j = 0 ∨ j = 1 ∨ j = 2 ∨ j = 3 ∨ j = 4 ∨ j = 5 ∨ j = 6 ∨ j = 7 ∨ j = 8 ∨ j = 9 ∨ j = 10 ∨ j = 11 ∨ j = 12 by omega) with rfl | rfl | rfl | rfl | rfl | rfl | rfl | rfl | rfl | rfl | rfl | rfl | rfl <;> rfl) (Nat.le_of_ble_eq_true rfl) (Nat.le_of_ble_eq_true rfl) dL_law_8 (fun q1 H hP hD hS => ?_)
  refine lv_dup hx hb dL_law_11 rfl ?_
  refine cs_n (ws := aB kA q0 d0) (nrunI (rest := [.ref q1]) ⟨hx, hb, hml, hown, hts⟩ (m_X6_init l D kA q1 H.size) rfl q_766 q_767 q_7 q_768 hd_X6_init ⟨rfl, rfl⟩ ⟨Nat.le_of_ble_eq_true rfl, Nat.le_of_ble_eq_true rfl⟩ hK (ws := [(q1, .inr (6, [.null, .int 0, .null, .int 0, .null, .int 0, .int 0, .null, .int 0, .int 0, .int 0, .null, .long 0]))]) hP.r hD.rt hN hl.1 rfl (Nat.le_of_ble_eq_true rfl) dL_law_12 ⟨Nat.le_of_ble_eq_true rfl, Nat.le_of_ble_eq_true rfl⟩) hP hD hS hA (fun d1 H locs hP hD hS => ?_)
  refine lv_astore_n (lv' := [(2, .ref q1), (1, .ref q0), (0, .ref b)]) hx hb dL_law_15 rfl hl (by decide) rfl (fun ls hl => ?_)
  refine lv_iconst (v := 1) hx hb dL_law_16 (by decide) ?_
  refine va_newa (atype := .long) (ty := .long) hx hb (hts _ q_1119) rfl hK hP hD hS hA (n := 1) (N' := 1) (a0 := (1, .inr (.inl (fun _ => 0)))) (fun _ => rfl) (by decide) rfl (by decide) (Nat.le_of_ble_eq_true rfl) (Nat.le_of_ble_eq_true rfl) dL_law_17 (fun o cA H hK9 hP hD hS => ?_)
  obtain rfl : cA = kA 3 := ua_eq hK9 (i := 4) (j := 3) rfl rfl
  clear hK9
  refine lv_astore_n (lv' := [(3, .ref o), (2, .ref q1), (1, .ref q0), (0, .ref b)]) hx hb dL_law_19 rfl hl (by decide) rfl (fun ls hl => ?_)
  refine lv_iconst (v := 0) hx hb dL_law_20 (by decide) ?_
  refine lv_istore (lv' := [(4, .int 0), (3, .ref o), (2, .ref q1), (1, .ref q0), (0, .ref b)]) hx hb dL_law_21 hl (by decide) rfl (fun ls hl => ?_)
  have hPm : va_P D vwCl (mL kA q1 (d1 0) (d1 1) (d1 2) (d1 3) (d1 4) zI z0 z0 z0 z0 (nI 0) (nI 0) 0 (-1) 0 0 0 0) H := hP.l.r
  have hPo : va_P D vwCl [(o, oO kA (fun _ => 0))] H := hP.r
  have hPw := va_P.app hPm (va_P.app hPo (cw_newP hP.l.l))
  have hDm : va_D (fun q : Nat => s.heap.size ≤ q) (mL kA q1 (d1 0) (d1 1) (d1 2) (d1 3) (d1 4) zI z0 z0 z0 z0 (nI 0) (nI 0) 0 (-1) 0 0 0 0 ++ [(o, oO kA (fun _ => 0))]) := by
    have h9 := hD
    rw [List.append_assoc] at h9
    exact h9.rt
  have hDx : va_D (fun q : Nat => s.heap.size ≤ q) (aB kA q0 d0 ++ (mL kA q1 (d1 0) (d1 1) (d1 2) (d1 3) (d1 4) zI z0 z0 z0 z0 (nI 0) (nI 0) 0 (-1) 0 0 0 0 ++ [(o, oO kA (fun _ => 0))])) := by
    have h9 := hD
    rw [List.append_assoc] at h9
    exact h9
  have hDw : va_D (fun q : Nat => s.heap.size ≤ q) (mL kA q1 (d1 0) (d1 1) (d1 2) (d1 3) (d1 4) zI z0 z0 z0 z0 (nI 0) (nI 0) 0 (-1) 0 0 0 0 ++ ([(o, oO kA (fun _ => 0))] ++ cw kA (adI q0 d0) XI)) := by
    have h9 := va_D.app hDm (cw_newD hD.lf.lf) (st_ne hDx)
    rw [List.append_assoc] at h9
    exact h9
  refine law_loop (ad := adI q0 d0) (m0 := q1) (m1 := d1 0) (m2 := d1 1) (m3 := d1 2) (m4 := d1 3) (m5 := d1 4) (o := o) C1 hL ?_ 512 0 0 0 _ _ XI zI z0 z0 z0 z0 0 0 0 0 0 0 0 0 (fun _ => 0) H locs ls rfl rfl rfl (Nat.le_of_ble_eq_true rfl) (Nat.le_of_ble_eq_true rfl) st_REL hPw hDw hS (lv_sub hl [4, 3, 2, 1, 0] rfl)
  intro H locs ls cells slots hS hc hs
  refine va_forget (fun q hq => hS.2.2 q hq) ?_
  refine W.widen (k := 601024) (n := 7293034) hc hs ?_
  refine lv_iconst (v := 1) hx hb dL_law_1683 (by decide) ?_
  exact W.base (lw_ret (d0 := s.drawn) (Drawn.sameBut.refl s.drawn lw_cs) hx hb hr hlocks dL_law_1684)
