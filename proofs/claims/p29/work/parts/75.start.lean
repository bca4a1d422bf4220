/-! the law's start -/
theorem sl_zJ {a i : Nat} : sl zI a i = 0 := by
  unfold sl zI rI
  split
  · rw [if_neg (by omega), if_neg (by omega), if_neg (by omega), if_neg (by omega), if_neg (by omega), if_neg (by omega), if_neg (by omega)]
  · rfl
def alI (b0 b1 b2 b3 b4 b5 b6 b7 b8 b9 : Nat) : Nat → Nat := fun j => if j = 0 then b0 else if j = 1 then b1 else if j = 2 then b2 else if j = 3 then b3 else if j = 4 then b4 else if j = 5 then b5 else if j = 6 then b6 else if j = 7 then b7 else if j = 8 then b8 else b9
theorem st_n : (upd (upd (upd (upd (upd (upd (upd (fun _ => 0) 0 1000) 3 3) 4 10) 5 40) 6 1) 7 12) 8 15 : Nat → Int32) = lqN zI 0 := funext fun i => by
  by_cases h : i < 9
  · rcases (by omega : i = 0 ∨ i = 1 ∨ i = 2 ∨ i = 3 ∨ i = 4 ∨ i = 5 ∨ i = 6 ∨ i = 7 ∨ i = 8) with rfl | rfl | rfl | rfl | rfl | rfl | rfl | rfl | rfl <;> rfl
  · rw [lqN_hi h, upd_ne (by omega), upd_ne (by omega), upd_ne (by omega), upd_ne (by omega), upd_ne (by omega), upd_ne (by omega), upd_ne (by omega)]
theorem st_lw {kA : Nat → Nat} {b0 b1 b2 b3 b4 b5 b6 b7 b8 b9 : Nat} : ([(b0, .inl (kA 0, 9, .inl (upd (upd (upd (upd (upd (upd (upd (fun _ => 0) 0 1000) 3 3) 4 10) 5 40) 6 1) 7 12) 8 15))), (b1, .inl (kA 0, 4, .inl (fun _ => 0))), (b2, .inl (kA 0, 4, .inl (fun _ => 0))), (b3, .inl (kA 0, 4, .inl (fun _ => 0))), (b4, .inl (kA 0, 4, .inl (fun _ => 0))), (b5, .inl (kA 0, 4, .inl (fun _ => 0))), (b6, .inl (kA 0, 4, .inl (fun _ => 0))), (b7, .inl (kA 0, 20, .inl (fun _ => 0))), (b8, .inl (kA 0, 48, .inl (fun _ => 0))), (b9, .inl (kA 0, 48, .inl (fun _ => 0)))] : va_W) = lqW kA (alI b0 b1 b2 b3 b4 b5 b6 b7 b8 b9) (XI 0) (XI 8 1) := by
  have hg : ∀ j, (fun _ => 0 : Nat → Int32) = lqG (XI 0) j := fun j => funext fun b => (sl_zJ (a := b) (i := j)).symm
  have hu : (fun _ => 0 : Nat → Int32) = lqU (XI 0) := funext fun i => (sl_zJ (a := i / 5) (i := 6 + i % 5)).symm
  have ht : ∀ o, (fun _ => 0 : Nat → Int32) = lqT (XI 0) o := fun o => funext fun i => (sl_zJ (a := i / 12) (i := o + i % 12)).symm
  have hn : (upd (upd (upd (upd (upd (upd (upd (fun _ => 0) 0 1000) 3 3) 4 10) 5 40) 6 1) 7 12) 8 15 : Nat → Int32) = lqN (XI 0) (XI 8 1) := st_n
  unfold lqW
  rw [hn, ← hg 0, ← hg 1, ← hg 2, ← hg 3, ← hg 4, ← hg 5, ← hu, ← ht 11, ← ht 23]
  rfl
theorem va_D.sw {A : Nat → Prop} {x y : va_W} (h : va_D A (x ++ y)) : va_D A (y ++ x) := va_D.app h.rt h.lf (fun i j p q hp hq e => h.ne hq hp e.symm)
set_option maxRecDepth 100000 in
set_option maxHeartbeats 4000000 in
theorem whole_start {p : Program} {e : Env} {s : State} {m : MethodId} {below : List Frame} {meth : Method} {c : Code} (l : Launch) (hflags : l.flags = flags0) {b L : Nat} {xs : Nat → Int32} (hL : L ≤ 260) (C0 : lw_At p s m meth c b L xs) : W p l e room_1 s m #[Value.ref b] below meth c s.heap [] 0 0 (lw_Z below #[Value.ref b] s) (entryFrame m ([Value.ref b] : List Value).toArray 16) := by
  obtain ⟨hx, hb, hr, hml, hown, htt, hXb, hbl, hlocks, hgv⟩ := id C0
  have hb : c.code = cL_law := hb
  have hown : s.vm.findClass RL = some m.cls := hown
  have hts : ∀ w ∈ AW, w.before #[Value.ref b] s = true := fun w hw => htt w (List.mem_filter.mp hw).1
  obtain ⟨D, kA, hK⟩ := st_K htt
  have hn1 := nd1_of hgv
  have hX0 : XW (fun q : Nat => s.heap.size ≤ q) s s.heap := st_X htt hn1 (fun a h => Nat.not_le.mpr h)
  have hN := st_N htt
  have C1 : LC l p s m meth c D kA b L xs := ⟨hx, hb, hml, hown, hts, hK, hXb, hbl, hX0⟩
  have hA : ∀ q : Nat, s.heap.size ≤ q → (fun q : Nat => s.heap.size ≤ q) q := fun _ h => h
  have hS : va_S (fun q : Nat => s.heap.size ≤ q) s.heap s.heap [] := va_S.rf
  have hP : va_P D vwCl [] s.heap := fun k q h => by simp at h
  have hD : va_D (fun q : Nat => s.heap.size ≤ q) [] := ⟨fun i j p q h => by simp at h, fun k q h => by simp at h⟩
  have hl := lv_entry ([.ref b]) (n := 16) (Nat.le_of_ble_eq_true rfl)
  rw [lg_entry_eq]
  generalize (lg_sl ([.ref b]) ++ List.replicate (16 - (lg_sl ([.ref b])).length) Slot.unset).toArray = ls at hl ⊢
  have hl : lv_has ls 16 [(0, .ref b)] := hl
  refine va_new (ci := 5) (fs := [.null, .null, .null, .null, .null, .int 0]) (C := RX5) (T := TX5) (N := 6) hx hb hts inX5 tyX5 tyX5_ok hown (hts _ q_15) (hts _ q_16) (hts _ q_1) hK hP hD hS hA rfl (fun j hj => by rcases (show j = 0 ∨ j = 1 ∨ j = 2 ∨ j = 3 ∨ j = 4 ∨ j = 5 by omega) with rfl | rfl | rfl | rfl | rfl | rfl <;> rfl) (Nat.le_of_ble_eq_true rfl) (Nat.le_of_ble_eq_true rfl) dL_law_0 (fun q0 H hP hD hS => ?_)
  have hP : va_P D vwCl ([] ++ [(q0, .inr (5, [.null, .null, .null, .null, .null, .int 0]))]) H := hP
  have hD : va_D (fun q : Nat => s.heap.size ≤ q) ([] ++ [(q0, .inr (5, [.null, .null, .null, .null, .null, .int 0]))]) := hD
  refine lv_dup hx hb dL_law_3 rfl ?_
  refine cs_n (ws := []) (nrunI (rest := [.ref q0]) ⟨hx, hb, hml, hown, hts⟩ (m_X5_init l D kA q0 H.size) rfl q_17 q_18 q_1 q_19 hd_X5_init ⟨rfl, rfl⟩ ⟨Nat.le_of_ble_eq_true rfl, Nat.le_of_ble_eq_true rfl⟩ hK (ws := [(q0, .inr (5, [.null, .null, .null, .null, .null, .int 0]))]) hP hD hN hl.1 rfl (Nat.le_of_ble_eq_true rfl) dL_law_4 ⟨Nat.le_of_ble_eq_true rfl, Nat.le_of_ble_eq_true rfl⟩) hP hD hS hA (fun d0 H locs hP hD hS => ?_)
  have hP : va_P D vwCl (cw kA (adI q0 d0) XI) H := cw_newP hP
  have hD : va_D (fun q : Nat => s.heap.size ≤ q) (cw kA (adI q0 d0) XI) := cw_newD hD
  refine lv_astore_n (lv' := [(1, .ref q0), (0, .ref b)]) hx hb dL_law_7 rfl hl (by decide) rfl (fun ls hl => ?_)
  refine lv_bipush (v := 9) hx hb dL_law_8 (by decide) ?_
  refine va_newa (atype := .int) (ty := .int) hx hb (hts _ q_112) rfl hK hP hD hS hA (n := 9) (N' := 9) (a0 := (9, .inl (fun _ => 0))) (fun _ => rfl) (by decide) rfl (by decide) (Nat.le_of_ble_eq_true rfl) (Nat.le_of_ble_eq_true rfl) dL_law_10 (fun b0 cA H hK9 hP hD hS => ?_)
  obtain rfl : cA = kA 0 := ua_eq hK9 (i := 3) (j := 0) rfl rfl
  clear hK9
  refine lv_astore_n (lv' := [(2, .ref b0), (1, .ref q0), (0, .ref b)]) hx hb dL_law_12 rfl hl (by decide) rfl (fun ls hl => ?_)
  refine lv_iconst (v := 4) hx hb dL_law_13 (by decide) ?_
  refine va_newa (atype := .int) (ty := .int) hx hb (hts _ q_112) rfl hK hP hD hS hA (n := 4) (N' := 4) (a0 := (4, .inl (fun _ => 0))) (fun _ => rfl) (by decide) rfl (by decide) (Nat.le_of_ble_eq_true rfl) (Nat.le_of_ble_eq_true rfl) dL_law_14 (fun b1 cA H hK9 hP hD hS => ?_)
  obtain rfl : cA = kA 0 := ua_eq hK9 (i := 3) (j := 0) rfl rfl
  clear hK9
  refine lv_astore_n (lv' := [(3, .ref b1), (2, .ref b0), (1, .ref q0), (0, .ref b)]) hx hb dL_law_16 rfl hl (by decide) rfl (fun ls hl => ?_)
  refine lv_iconst (v := 4) hx hb dL_law_17 (by decide) ?_
  refine va_newa (atype := .int) (ty := .int) hx hb (hts _ q_112) rfl hK hP hD hS hA (n := 4) (N' := 4) (a0 := (4, .inl (fun _ => 0))) (fun _ => rfl) (by decide) rfl (by decide) (Nat.le_of_ble_eq_true rfl) (Nat.le_of_ble_eq_true rfl) dL_law_18 (fun b2 cA H hK9 hP hD hS => ?_)
  obtain rfl : cA = kA 0 := ua_eq hK9 (i := 3) (j := 0) rfl rfl
  clear hK9
  refine lv_astore (lv' := [(4, .ref b2), (3, .ref b1), (2, .ref b0), (1, .ref q0), (0, .ref b)]) hx hb dL_law_20 hl (by decide) rfl (fun ls hl => ?_)
  refine lv_iconst (v := 4) hx hb dL_law_22 (by decide) ?_
  refine va_newa (atype := .int) (ty := .int) hx hb (hts _ q_112) rfl hK hP hD hS hA (n := 4) (N' := 4) (a0 := (4, .inl (fun _ => 0))) (fun _ => rfl) (by decide) rfl (by decide) (Nat.le_of_ble_eq_true rfl) (Nat.le_of_ble_eq_true rfl) dL_law_23 (fun b3 cA H hK9 hP hD hS => ?_)
  obtain rfl : cA = kA 0 := ua_eq hK9 (i := 3) (j := 0) rfl rfl
  clear hK9
  refine lv_astore (lv' := [(5, .ref b3), (4, .ref b2), (3, .ref b1), (2, .ref b0), (1, .ref q0), (0, .ref b)]) hx hb dL_law_25 hl (by decide) rfl (fun ls hl => ?_)
  refine lv_iconst (v := 4) hx hb dL_law_27 (by decide) ?_
  refine va_newa (atype := .int) (ty := .int) hx hb (hts _ q_112) rfl hK hP hD hS hA (n := 4) (N' := 4) (a0 := (4, .inl (fun _ => 0))) (fun _ => rfl) (by decide) rfl (by decide) (Nat.le_of_ble_eq_true rfl) (Nat.le_of_ble_eq_true rfl) dL_law_28 (fun b4 cA H hK9 hP hD hS => ?_)
  obtain rfl : cA = kA 0 := ua_eq hK9 (i := 3) (j := 0) rfl rfl
  clear hK9
  refine lv_astore (lv' := [(6, .ref b4), (5, .ref b3), (4, .ref b2), (3, .ref b1), (2, .ref b0), (1, .ref q0), (0, .ref b)]) hx hb dL_law_30 hl (by decide) rfl (fun ls hl => ?_)
  refine lv_iconst (v := 4) hx hb dL_law_32 (by decide) ?_
  refine va_newa (atype := .int) (ty := .int) hx hb (hts _ q_112) rfl hK hP hD hS hA (n := 4) (N' := 4) (a0 := (4, .inl (fun _ => 0))) (fun _ => rfl) (by decide) rfl (by decide) (Nat.le_of_ble_eq_true rfl) (Nat.le_of_ble_eq_true rfl) dL_law_33 (fun b5 cA H hK9 hP hD hS => ?_)
  obtain rfl : cA = kA 0 := ua_eq hK9 (i := 3) (j := 0) rfl rfl
  clear hK9
  refine lv_astore (lv' := [(7, .ref b5), (6, .ref b4), (5, .ref b3), (4, .ref b2), (3, .ref b1), (2, .ref b0), (1, .ref q0), (0, .ref b)]) hx hb dL_law_35 hl (by decide) rfl (fun ls hl => ?_)
  refine lv_iconst (v := 4) hx hb dL_law_37 (by decide) ?_
  refine va_newa (atype := .int) (ty := .int) hx hb (hts _ q_112) rfl hK hP hD hS hA (n := 4) (N' := 4) (a0 := (4, .inl (fun _ => 0))) (fun _ => rfl) (by decide) rfl (by decide) (Nat.le_of_ble_eq_true rfl) (Nat.le_of_ble_eq_true rfl) dL_law_38 (fun b6 cA H hK9 hP hD hS => ?_)
  obtain rfl : cA = kA 0 := ua_eq hK9 (i := 3) (j := 0) rfl rfl
  clear hK9
  refine lv_astore (lv' := [(8, .ref b6), (7, .ref b5), (6, .ref b4), (5, .ref b3), (4, .ref b2), (3, .ref b1), (2, .ref b0), (1, .ref q0), (0, .ref b)]) hx hb dL_law_40 hl (by decide) rfl (fun ls hl => ?_)
  refine lv_bipush (v := 20) hx hb dL_law_42 (by decide) ?_
  refine va_newa (atype := .int) (ty := .int) hx hb (hts _ q_112) rfl hK hP hD hS hA (n := 20) (N' := 20) (a0 := (20, .inl (fun _ => 0))) (fun _ => rfl) (by decide) rfl (by decide) (Nat.le_of_ble_eq_true rfl) (Nat.le_of_ble_eq_true rfl) dL_law_44 (fun b7 cA H hK9 hP hD hS => ?_)
  obtain rfl : cA = kA 0 := ua_eq hK9 (i := 3) (j := 0) rfl rfl
  clear hK9
  refine lv_astore (lv' := [(9, .ref b7), (8, .ref b6), (7, .ref b5), (6, .ref b4), (5, .ref b3), (4, .ref b2), (3, .ref b1), (2, .ref b0), (1, .ref q0), (0, .ref b)]) hx hb dL_law_46 hl (by decide) rfl (fun ls hl => ?_)
  refine lv_bipush (v := 48) hx hb dL_law_48 (by decide) ?_
  refine va_newa (atype := .int) (ty := .int) hx hb (hts _ q_112) rfl hK hP hD hS hA (n := 48) (N' := 48) (a0 := (48, .inl (fun _ => 0))) (fun _ => rfl) (by decide) rfl (by decide) (Nat.le_of_ble_eq_true rfl) (Nat.le_of_ble_eq_true rfl) dL_law_50 (fun b8 cA H hK9 hP hD hS => ?_)
  obtain rfl : cA = kA 0 := ua_eq hK9 (i := 3) (j := 0) rfl rfl
  clear hK9
  refine lv_astore (lv' := [(10, .ref b8), (9, .ref b7), (8, .ref b6), (7, .ref b5), (6, .ref b4), (5, .ref b3), (4, .ref b2), (3, .ref b1), (2, .ref b0), (1, .ref q0), (0, .ref b)]) hx hb dL_law_52 hl (by decide) rfl (fun ls hl => ?_)
  refine lv_bipush (v := 48) hx hb dL_law_54 (by decide) ?_
  refine va_newa (atype := .int) (ty := .int) hx hb (hts _ q_112) rfl hK hP hD hS hA (n := 48) (N' := 48) (a0 := (48, .inl (fun _ => 0))) (fun _ => rfl) (by decide) rfl (by decide) (Nat.le_of_ble_eq_true rfl) (Nat.le_of_ble_eq_true rfl) dL_law_56 (fun b9 cA H hK9 hP hD hS => ?_)
  obtain rfl : cA = kA 0 := ua_eq hK9 (i := 3) (j := 0) rfl rfl
  clear hK9
  refine lv_astore (lv' := [(11, .ref b9), (10, .ref b8), (9, .ref b7), (8, .ref b6), (7, .ref b5), (6, .ref b4), (5, .ref b3), (4, .ref b2), (3, .ref b1), (2, .ref b0), (1, .ref q0), (0, .ref b)]) hx hb dL_law_58 hl (by decide) rfl (fun ls hl => ?_)
  have hPc : va_P D vwCl (cw kA (adI q0 d0) XI) H := hP.l.l.l.l.l.l.l.l.l.l
  have hPw := va_P.app (hP.l.l.l.l.l.l.l.l.l.r) (va_P.app (hP.l.l.l.l.l.l.l.l.r) (va_P.app (hP.l.l.l.l.l.l.l.r) (va_P.app (hP.l.l.l.l.l.l.r) (va_P.app (hP.l.l.l.l.l.r) (va_P.app (hP.l.l.l.l.r) (va_P.app (hP.l.l.l.r) (va_P.app (hP.l.l.r) (va_P.app (hP.l.r) (va_P.app (hP.r) (hPc))))))))))
  have hP : va_P D vwCl ([(b0, .inl (kA 0, 9, .inl (fun _ => 0))), (b1, .inl (kA 0, 4, .inl (fun _ => 0))), (b2, .inl (kA 0, 4, .inl (fun _ => 0))), (b3, .inl (kA 0, 4, .inl (fun _ => 0))), (b4, .inl (kA 0, 4, .inl (fun _ => 0))), (b5, .inl (kA 0, 4, .inl (fun _ => 0))), (b6, .inl (kA 0, 4, .inl (fun _ => 0))), (b7, .inl (kA 0, 20, .inl (fun _ => 0))), (b8, .inl (kA 0, 48, .inl (fun _ => 0))), (b9, .inl (kA 0, 48, .inl (fun _ => 0)))] ++ cw kA (adI q0 d0) XI) H := hPw
  simp only [List.append_assoc] at hD
  have hD : va_D (fun q : Nat => s.heap.size ≤ q) ([(b0, .inl (kA 0, 9, .inl (fun _ => 0))), (b1, .inl (kA 0, 4, .inl (fun _ => 0))), (b2, .inl (kA 0, 4, .inl (fun _ => 0))), (b3, .inl (kA 0, 4, .inl (fun _ => 0))), (b4, .inl (kA 0, 4, .inl (fun _ => 0))), (b5, .inl (kA 0, 4, .inl (fun _ => 0))), (b6, .inl (kA 0, 4, .inl (fun _ => 0))), (b7, .inl (kA 0, 20, .inl (fun _ => 0))), (b8, .inl (kA 0, 48, .inl (fun _ => 0))), (b9, .inl (kA 0, 48, .inl (fun _ => 0)))] ++ cw kA (adI q0 d0) XI) := va_D.sw (x := cw kA (adI q0 d0) XI) (y := [(b0, .inl (kA 0, 9, .inl (fun _ => 0))), (b1, .inl (kA 0, 4, .inl (fun _ => 0))), (b2, .inl (kA 0, 4, .inl (fun _ => 0))), (b3, .inl (kA 0, 4, .inl (fun _ => 0))), (b4, .inl (kA 0, 4, .inl (fun _ => 0))), (b5, .inl (kA 0, 4, .inl (fun _ => 0))), (b6, .inl (kA 0, 4, .inl (fun _ => 0))), (b7, .inl (kA 0, 20, .inl (fun _ => 0))), (b8, .inl (kA 0, 48, .inl (fun _ => 0))), (b9, .inl (kA 0, 48, .inl (fun _ => 0)))]) hD
  refine lv_aload_n hx hb dL_law_60 rfl (lv_at hl 9 rfl) ?_
  refine lv_iconst (v := 0) hx hb dL_law_61 (by decide) ?_
  refine lv_sipush (v := 1000) hx hb dL_law_62 (by decide) ?_
  refine va_iast (f := (fun _ => 0)) hx hb hK hP hD hS 0 0 rfl rfl (in_nI (j := 0) rfl (by omega) (by decide)) dL_law_65 (fun H locs hP hD hS => ?_)
  have hP : va_P D vwCl ([(b0, .inl (kA 0, 9, .inl (upd (fun _ => 0) 0 1000))), (b1, .inl (kA 0, 4, .inl (fun _ => 0))), (b2, .inl (kA 0, 4, .inl (fun _ => 0))), (b3, .inl (kA 0, 4, .inl (fun _ => 0))), (b4, .inl (kA 0, 4, .inl (fun _ => 0))), (b5, .inl (kA 0, 4, .inl (fun _ => 0))), (b6, .inl (kA 0, 4, .inl (fun _ => 0))), (b7, .inl (kA 0, 20, .inl (fun _ => 0))), (b8, .inl (kA 0, 48, .inl (fun _ => 0))), (b9, .inl (kA 0, 48, .inl (fun _ => 0)))] ++ cw kA (adI q0 d0) XI) H := hP
  have hD : va_D (fun q : Nat => s.heap.size ≤ q) ([(b0, .inl (kA 0, 9, .inl (upd (fun _ => 0) 0 1000))), (b1, .inl (kA 0, 4, .inl (fun _ => 0))), (b2, .inl (kA 0, 4, .inl (fun _ => 0))), (b3, .inl (kA 0, 4, .inl (fun _ => 0))), (b4, .inl (kA 0, 4, .inl (fun _ => 0))), (b5, .inl (kA 0, 4, .inl (fun _ => 0))), (b6, .inl (kA 0, 4, .inl (fun _ => 0))), (b7, .inl (kA 0, 20, .inl (fun _ => 0))), (b8, .inl (kA 0, 48, .inl (fun _ => 0))), (b9, .inl (kA 0, 48, .inl (fun _ => 0)))] ++ cw kA (adI q0 d0) XI) := hD
  refine lv_aload_n hx hb dL_law_66 rfl (lv_at hl 9 rfl) ?_
  refine lv_iconst (v := 3) hx hb dL_law_67 (by decide) ?_
  refine lv_iconst (v := 3) hx hb dL_law_68 (by decide) ?_
  refine va_iast (f := upd (fun _ => 0) 0 1000) hx hb hK hP hD hS 0 0 rfl rfl (in_nI (j := 3) rfl (by omega) (by decide)) dL_law_69 (fun H locs hP hD hS => ?_)
  have hP : va_P D vwCl ([(b0, .inl (kA 0, 9, .inl (upd (upd (fun _ => 0) 0 1000) 3 3))), (b1, .inl (kA 0, 4, .inl (fun _ => 0))), (b2, .inl (kA 0, 4, .inl (fun _ => 0))), (b3, .inl (kA 0, 4, .inl (fun _ => 0))), (b4, .inl (kA 0, 4, .inl (fun _ => 0))), (b5, .inl (kA 0, 4, .inl (fun _ => 0))), (b6, .inl (kA 0, 4, .inl (fun _ => 0))), (b7, .inl (kA 0, 20, .inl (fun _ => 0))), (b8, .inl (kA 0, 48, .inl (fun _ => 0))), (b9, .inl (kA 0, 48, .inl (fun _ => 0)))] ++ cw kA (adI q0 d0) XI) H := hP
  have hD : va_D (fun q : Nat => s.heap.size ≤ q) ([(b0, .inl (kA 0, 9, .inl (upd (upd (fun _ => 0) 0 1000) 3 3))), (b1, .inl (kA 0, 4, .inl (fun _ => 0))), (b2, .inl (kA 0, 4, .inl (fun _ => 0))), (b3, .inl (kA 0, 4, .inl (fun _ => 0))), (b4, .inl (kA 0, 4, .inl (fun _ => 0))), (b5, .inl (kA 0, 4, .inl (fun _ => 0))), (b6, .inl (kA 0, 4, .inl (fun _ => 0))), (b7, .inl (kA 0, 20, .inl (fun _ => 0))), (b8, .inl (kA 0, 48, .inl (fun _ => 0))), (b9, .inl (kA 0, 48, .inl (fun _ => 0)))] ++ cw kA (adI q0 d0) XI) := hD
  refine lv_aload_n hx hb dL_law_70 rfl (lv_at hl 9 rfl) ?_
  refine lv_iconst (v := 4) hx hb dL_law_71 (by decide) ?_
  refine lv_bipush (v := 10) hx hb dL_law_72 (by decide) ?_
  refine va_iast (f := upd (upd (fun _ => 0) 0 1000) 3 3) hx hb hK hP hD hS 0 0 rfl rfl (in_nI (j := 4) rfl (by omega) (by decide)) dL_law_74 (fun H locs hP hD hS => ?_)
  have hP : va_P D vwCl ([(b0, .inl (kA 0, 9, .inl (upd (upd (upd (fun _ => 0) 0 1000) 3 3) 4 10))), (b1, .inl (kA 0, 4, .inl (fun _ => 0))), (b2, .inl (kA 0, 4, .inl (fun _ => 0))), (b3, .inl (kA 0, 4, .inl (fun _ => 0))), (b4, .inl (kA 0, 4, .inl (fun _ => 0))), (b5, .inl (kA 0, 4, .inl (fun _ => 0))), (b6, .inl (kA 0, 4, .inl (fun _ => 0))), (b7, .inl (kA 0, 20, .inl (fun _ => 0))), (b8, .inl (kA 0, 48, .inl (fun _ => 0))), (b9, .inl (kA 0, 48, .inl (fun _ => 0)))] ++ cw kA (adI q0 d0) XI) H := hP
  have hD : va_D (fun q : Nat => s.heap.size ≤ q) ([(b0, .inl (kA 0, 9, .inl (upd (upd (upd (fun _ => 0) 0 1000) 3 3) 4 10))), (b1, .inl (kA 0, 4, .inl (fun _ => 0))), (b2, .inl (kA 0, 4, .inl (fun _ => 0))), (b3, .inl (kA 0, 4, .inl (fun _ => 0))), (b4, .inl (kA 0, 4, .inl (fun _ => 0))), (b5, .inl (kA 0, 4, .inl (fun _ => 0))), (b6, .inl (kA 0, 4, .inl (fun _ => 0))), (b7, .inl (kA 0, 20, .inl (fun _ => 0))), (b8, .inl (kA 0, 48, .inl (fun _ => 0))), (b9, .inl (kA 0, 48, .inl (fun _ => 0)))] ++ cw kA (adI q0 d0) XI) := hD
  refine lv_aload_n hx hb dL_law_75 rfl (lv_at hl 9 rfl) ?_
  refine lv_iconst (v := 5) hx hb dL_law_76 (by decide) ?_
  refine lv_bipush (v := 40) hx hb dL_law_77 (by decide) ?_
  refine va_iast (f := upd (upd (upd (fun _ => 0) 0 1000) 3 3) 4 10) hx hb hK hP hD hS 0 0 rfl rfl (in_nI (j := 5) rfl (by omega) (by decide)) dL_law_79 (fun H locs hP hD hS => ?_)
  have hP : va_P D vwCl ([(b0, .inl (kA 0, 9, .inl (upd (upd (upd (upd (fun _ => 0) 0 1000) 3 3) 4 10) 5 40))), (b1, .inl (kA 0, 4, .inl (fun _ => 0))), (b2, .inl (kA 0, 4, .inl (fun _ => 0))), (b3, .inl (kA 0, 4, .inl (fun _ => 0))), (b4, .inl (kA 0, 4, .inl (fun _ => 0))), (b5, .inl (kA 0, 4, .inl (fun _ => 0))), (b6, .inl (kA 0, 4, .inl (fun _ => 0))), (b7, .inl (kA 0, 20, .inl (fun _ => 0))), (b8, .inl (kA 0, 48, .inl (fun _ => 0))), (b9, .inl (kA 0, 48, .inl (fun _ => 0)))] ++ cw kA (adI q0 d0) XI) H := hP
  have hD : va_D (fun q : Nat => s.heap.size ≤ q) ([(b0, .inl (kA 0, 9, .inl (upd (upd (upd (upd (fun _ => 0) 0 1000) 3 3) 4 10) 5 40))), (b1, .inl (kA 0, 4, .inl (fun _ => 0))), (b2, .inl (kA 0, 4, .inl (fun _ => 0))), (b3, .inl (kA 0, 4, .inl (fun _ => 0))), (b4, .inl (kA 0, 4, .inl (fun _ => 0))), (b5, .inl (kA 0, 4, .inl (fun _ => 0))), (b6, .inl (kA 0, 4, .inl (fun _ => 0))), (b7, .inl (kA 0, 20, .inl (fun _ => 0))), (b8, .inl (kA 0, 48, .inl (fun _ => 0))), (b9, .inl (kA 0, 48, .inl (fun _ => 0)))] ++ cw kA (adI q0 d0) XI) := hD
  refine lv_aload_n hx hb dL_law_80 rfl (lv_at hl 9 rfl) ?_
  refine lv_bipush (v := 6) hx hb dL_law_81 (by decide) ?_
  refine lv_iconst (v := 1) hx hb dL_law_83 (by decide) ?_
  refine va_iast (f := upd (upd (upd (upd (fun _ => 0) 0 1000) 3 3) 4 10) 5 40) hx hb hK hP hD hS 0 0 rfl rfl (in_nI (j := 6) rfl (by omega) (by decide)) dL_law_84 (fun H locs hP hD hS => ?_)
  have hP : va_P D vwCl ([(b0, .inl (kA 0, 9, .inl (upd (upd (upd (upd (upd (fun _ => 0) 0 1000) 3 3) 4 10) 5 40) 6 1))), (b1, .inl (kA 0, 4, .inl (fun _ => 0))), (b2, .inl (kA 0, 4, .inl (fun _ => 0))), (b3, .inl (kA 0, 4, .inl (fun _ => 0))), (b4, .inl (kA 0, 4, .inl (fun _ => 0))), (b5, .inl (kA 0, 4, .inl (fun _ => 0))), (b6, .inl (kA 0, 4, .inl (fun _ => 0))), (b7, .inl (kA 0, 20, .inl (fun _ => 0))), (b8, .inl (kA 0, 48, .inl (fun _ => 0))), (b9, .inl (kA 0, 48, .inl (fun _ => 0)))] ++ cw kA (adI q0 d0) XI) H := hP
  have hD : va_D (fun q : Nat => s.heap.size ≤ q) ([(b0, .inl (kA 0, 9, .inl (upd (upd (upd (upd (upd (fun _ => 0) 0 1000) 3 3) 4 10) 5 40) 6 1))), (b1, .inl (kA 0, 4, .inl (fun _ => 0))), (b2, .inl (kA 0, 4, .inl (fun _ => 0))), (b3, .inl (kA 0, 4, .inl (fun _ => 0))), (b4, .inl (kA 0, 4, .inl (fun _ => 0))), (b5, .inl (kA 0, 4, .inl (fun _ => 0))), (b6, .inl (kA 0, 4, .inl (fun _ => 0))), (b7, .inl (kA 0, 20, .inl (fun _ => 0))), (b8, .inl (kA 0, 48, .inl (fun _ => 0))), (b9, .inl (kA 0, 48, .inl (fun _ => 0)))] ++ cw kA (adI q0 d0) XI) := hD
  refine lv_aload_n hx hb dL_law_85 rfl (lv_at hl 9 rfl) ?_
  refine lv_bipush (v := 7) hx hb dL_law_86 (by decide) ?_
  refine lv_bipush (v := 12) hx hb dL_law_88 (by decide) ?_
  refine va_iast (f := upd (upd (upd (upd (upd (fun _ => 0) 0 1000) 3 3) 4 10) 5 40) 6 1) hx hb hK hP hD hS 0 0 rfl rfl (in_nI (j := 7) rfl (by omega) (by decide)) dL_law_90 (fun H locs hP hD hS => ?_)
  have hP : va_P D vwCl ([(b0, .inl (kA 0, 9, .inl (upd (upd (upd (upd (upd (upd (fun _ => 0) 0 1000) 3 3) 4 10) 5 40) 6 1) 7 12))), (b1, .inl (kA 0, 4, .inl (fun _ => 0))), (b2, .inl (kA 0, 4, .inl (fun _ => 0))), (b3, .inl (kA 0, 4, .inl (fun _ => 0))), (b4, .inl (kA 0, 4, .inl (fun _ => 0))), (b5, .inl (kA 0, 4, .inl (fun _ => 0))), (b6, .inl (kA 0, 4, .inl (fun _ => 0))), (b7, .inl (kA 0, 20, .inl (fun _ => 0))), (b8, .inl (kA 0, 48, .inl (fun _ => 0))), (b9, .inl (kA 0, 48, .inl (fun _ => 0)))] ++ cw kA (adI q0 d0) XI) H := hP
  have hD : va_D (fun q : Nat => s.heap.size ≤ q) ([(b0, .inl (kA 0, 9, .inl (upd (upd (upd (upd (upd (upd (fun _ => 0) 0 1000) 3 3) 4 10) 5 40) 6 1) 7 12))), (b1, .inl (kA 0, 4, .inl (fun _ => 0))), (b2, .inl (kA 0, 4, .inl (fun _ => 0))), (b3, .inl (kA 0, 4, .inl (fun _ => 0))), (b4, .inl (kA 0, 4, .inl (fun _ => 0))), (b5, .inl (kA 0, 4, .inl (fun _ => 0))), (b6, .inl (kA 0, 4, .inl (fun _ => 0))), (b7, .inl (kA 0, 20, .inl (fun _ => 0))), (b8, .inl (kA 0, 48, .inl (fun _ => 0))), (b9, .inl (kA 0, 48, .inl (fun _ => 0)))] ++ cw kA (adI q0 d0) XI) := hD
  refine lv_aload_n hx hb dL_law_91 rfl (lv_at hl 9 rfl) ?_
  refine lv_bipush (v := 8) hx hb dL_law_92 (by decide) ?_
  refine lv_bipush (v := 15) hx hb dL_law_94 (by decide) ?_
  refine va_iast (f := upd (upd (upd (upd (upd (upd (fun _ => 0) 0 1000) 3 3) 4 10) 5 40) 6 1) 7 12) hx hb hK hP hD hS 0 0 rfl rfl (in_nI (j := 8) rfl (by omega) (by decide)) dL_law_96 (fun H locs hP hD hS => ?_)
  have hP : va_P D vwCl ([(b0, .inl (kA 0, 9, .inl (upd (upd (upd (upd (upd (upd (upd (fun _ => 0) 0 1000) 3 3) 4 10) 5 40) 6 1) 7 12) 8 15))), (b1, .inl (kA 0, 4, .inl (fun _ => 0))), (b2, .inl (kA 0, 4, .inl (fun _ => 0))), (b3, .inl (kA 0, 4, .inl (fun _ => 0))), (b4, .inl (kA 0, 4, .inl (fun _ => 0))), (b5, .inl (kA 0, 4, .inl (fun _ => 0))), (b6, .inl (kA 0, 4, .inl (fun _ => 0))), (b7, .inl (kA 0, 20, .inl (fun _ => 0))), (b8, .inl (kA 0, 48, .inl (fun _ => 0))), (b9, .inl (kA 0, 48, .inl (fun _ => 0)))] ++ cw kA (adI q0 d0) XI) H := hP
  have hD : va_D (fun q : Nat => s.heap.size ≤ q) ([(b0, .inl (kA 0, 9, .inl (upd (upd (upd (upd (upd (upd (upd (fun _ => 0) 0 1000) 3 3) 4 10) 5 40) 6 1) 7 12) 8 15))), (b1, .inl (kA 0, 4, .inl (fun _ => 0))), (b2, .inl (kA 0, 4, .inl (fun _ => 0))), (b3, .inl (kA 0, 4, .inl (fun _ => 0))), (b4, .inl (kA 0, 4, .inl (fun _ => 0))), (b5, .inl (kA 0, 4, .inl (fun _ => 0))), (b6, .inl (kA 0, 4, .inl (fun _ => 0))), (b7, .inl (kA 0, 20, .inl (fun _ => 0))), (b8, .inl (kA 0, 48, .inl (fun _ => 0))), (b9, .inl (kA 0, 48, .inl (fun _ => 0)))] ++ cw kA (adI q0 d0) XI) := hD
  refine lv_iconst (v := 0) hx hb dL_law_97 (by decide) ?_
  refine lv_istore (lv' := [(12, .int 0), (11, .ref b9), (10, .ref b8), (9, .ref b7), (8, .ref b6), (7, .ref b5), (6, .ref b4), (5, .ref b3), (4, .ref b2), (3, .ref b1), (2, .ref b0), (1, .ref q0), (0, .ref b)]) hx hb dL_law_98 hl (by decide) rfl (fun ls hl => ?_)
  rw [st_lw] at hP hD
  refine law_loop (ad := adI q0 d0) (al := alI b0 b1 b2 b3 b4 b5 b6 b7 b8 b9) C1 hL ⟨Nat.le_of_ble_eq_true rfl, Nat.le_of_ble_eq_true rfl⟩ ?_ 60 0 XI H locs ls rfl st_RQ hP hD hS (lv_sub hl [12, 11, 10, 9, 8, 7, 6, 5, 4, 3, 2, 1, 0] rfl)
  intro H locs ls hS
  refine va_forget (fun q hq => hS.2.2 q hq) ?_
  refine W.widen (k := 600130) (n := 7301080) (Nat.le_of_ble_eq_true rfl) (Nat.le_of_ble_eq_true rfl) ?_
  refine lv_iconst (v := 1) hx hb dL_law_227 (by decide) ?_
  exact lw_ret hx hb hr hlocks dL_law_228
