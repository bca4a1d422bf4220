/-! the constructors: what they make -/
theorem nobj {p : Program} {l : Launch} {e : Env} {R : Room} {s : State} {m : MethodId} {args : Array Value} {below : List Frame} {meth : Method} {c : Code} {H : Heap} {locs : List Loc} {cells slots : Nat} {Q : State → Prop} {pc : Nat} {ls : Array Slot} {rest : List Value} {cc : ByteArray} (hx : p.tables.exec = Jvm.exec) (hb : c.code = cc) {own : String} (hown : s.vm.findClass own = some m.cls) {idx : Nat}
    (hlink : (Cond.methodLink own idx Lib.objectInit).before args s = true) (hinst : (Cond.instanceMethod Lib.objectInit).before args s = true) (hcode : (Cond.code Lib.objectInit ⟨#[0xb1]⟩ 1 none).before args s = true) (hsize : ls.size = c.maxLocals) {a : Addr} (hd : decode cc pc = .ok (.invokespecial idx, 3))
    (hframes : 1 ≤ R.frames) (hlocals : (rest.map fun v => v.category).sum + 12 ≤ R.locals) (kk : W p l e R s m args below meth c H locs cells slots Q (F0 m (pc + 3) ls rest)) : W p l e R s m args below meth c H locs cells slots Q (F0 m pc ls (.ref a :: rest)) :=
  W.objInit hx hb hown hlink hinst hcode (g := F0 m pc ls (.ref a :: rest)) rfl hsize rfl hd hframes (by show 2 * 0 + _ + 12 ≤ _; omega) kk
def z0 : Nat → Int32 := fun _ => 0
def rI : Nat → Int32 := fun i => if i = 0 then 3 else if i = 1 then 10 else if i = 2 then 40 else if i = 3 then 1 else if i = 4 then 12 else if i = 5 then 15 else 0
def gB (kA : Nat → Nat) (q : Nat) (d : Nat → Nat) : va_W := [(q, gC (d 0) z0), (d 0, wC kA z0)]
def sB (kA : Nat → Nat) (q : Nat) (d : Nat → Nat) : va_W := [(q, .inr (4, [.ref (d 0), .ref (d 1), .int 1000, .int 0])), (d 0, rC rI), (d 1, .inl (kA 1, 4, .inr (.inr (.inr (.inr (fun j => some (d (2 + 2 * j)))))))), (d 2, gC (d 3) z0), (d 3, wC kA z0), (d 4, gC (d 5) z0), (d 5, wC kA z0), (d 6, gC (d 7) z0), (d 7, wC kA z0), (d 8, gC (d 9) z0), (d 9, wC kA z0)]
theorem hd_X3_init : yX3_init.cls ≠ "java/lang/invoke/MethodHandle" ∧ yX3_init.cls ≠ "java/lang/invoke/VarHandle" ∧ (parseMethodDescriptor yX3_init.desc).map (fun d => d.parameters.length) = some 0 := by decide +kernel
set_option maxRecDepth 100000 in
set_option maxHeartbeats 4000000 in
theorem m_X3_init (l : Launch) (D : va_G) (kA : Nat → Nat) (q sz : Nat) : Met l yX3_init (Cond.code yX3_init cX3_init 1 none :: AW) ({ frames := 1, cells := 0, slots := 0, locals := 12 } : Room) (Pn [.ref q] D (TY kA) [(q, .inr (3, [.int 0, .int 0, .int 0, .int 0, .int 0, .int 0]))] sz) (nQ D (fun _ => [(q, rC rI)]) [(q, .inr (3, [.int 0, .int 0, .int 0, .int 0, .int 0, .int 0]))] sz) 0 0 (va_A [(q, .inr (3, [.int 0, .int 0, .int 0, .int 0, .int 0, .int 0]))] sz) := by
  refine MetN (by decide +kernel) (Nat.le_of_ble_eq_true rfl) ?_
  intro p e s m below meth c ls hx hb hrt hts hown hml hlk hnm hP hK hD hS hl hN hsz
  subst hsz
  have hA : ∀ q9, s.heap.size ≤ q9 → va_A [(q, .inr (3, [.int 0, .int 0, .int 0, .int 0, .int 0, .int 0]))] s.heap.size q9 := fun _ h => Or.inr h
  have hl : lv_has ls 1 [(0, .ref q)] := hl
  refine lv_aload_n hx hb dX3_init_0 rfl (lv_at hl 0 rfl) ?_
  refine nobj hx hb hown (hts _ q_34) (hts _ q_21) (hts _ q_22) (by rw [hml]; exact hl.1) dX3_init_1 (Nat.le_of_ble_eq_true rfl) (Nat.le_of_ble_eq_true rfl) ?_
  refine lv_aload_n hx hb dX3_init_4 rfl (lv_at hl 0 rfl) ?_
  refine lv_iconst (v := 3) hx hb dX3_init_5 (by decide) ?_
  refine va_put (ci := 3) (v := .int 3) (ty := tyX3 0) (C := RX3) (T := TX3) (N := 6) hx hb hts inX3 tyX3 tyX3_ok nmX3 hown hK hP hD hS 0 rfl rfl 0 (by decide) (hts _ q_35) (fun _ h9 => h9) rfl (tyX3_ok 0 (by decide)) rfl rfl (Nat.le_of_ble_eq_true rfl) dX3_init_6 (fun H locs hP hD hS => ?_)
  have hP : va_P D vwCl [(q, .inr (3, [.int 3, .int 0, .int 0, .int 0, .int 0, .int 0]))] _ := hP
  have hD : va_D (va_A [(q, .inr (3, [.int 0, .int 0, .int 0, .int 0, .int 0, .int 0]))] s.heap.size) [(q, .inr (3, [.int 3, .int 0, .int 0, .int 0, .int 0, .int 0]))] := hD
  refine lv_aload_n hx hb dX3_init_9 rfl (lv_at hl 0 rfl) ?_
  refine lv_bipush (v := 10) hx hb dX3_init_10 (by decide) ?_
  refine va_put (ci := 3) (v := .int 10) (ty := tyX3 1) (C := RX3) (T := TX3) (N := 6) hx hb hts inX3 tyX3 tyX3_ok nmX3 hown hK hP hD hS 0 rfl rfl 1 (by decide) (hts _ q_37) (fun _ h9 => h9) rfl (tyX3_ok 1 (by decide)) rfl rfl (Nat.le_of_ble_eq_true rfl) dX3_init_12 (fun H locs hP hD hS => ?_)
  have hP : va_P D vwCl [(q, .inr (3, [.int 3, .int 10, .int 0, .int 0, .int 0, .int 0]))] _ := hP
  have hD : va_D (va_A [(q, .inr (3, [.int 0, .int 0, .int 0, .int 0, .int 0, .int 0]))] s.heap.size) [(q, .inr (3, [.int 3, .int 10, .int 0, .int 0, .int 0, .int 0]))] := hD
  refine lv_aload_n hx hb dX3_init_15 rfl (lv_at hl 0 rfl) ?_
  refine lv_bipush (v := 40) hx hb dX3_init_16 (by decide) ?_
  refine va_put (ci := 3) (v := .int 40) (ty := tyX3 2) (C := RX3) (T := TX3) (N := 6) hx hb hts inX3 tyX3 tyX3_ok nmX3 hown hK hP hD hS 0 rfl rfl 2 (by decide) (hts _ q_39) (fun _ h9 => h9) rfl (tyX3_ok 2 (by decide)) rfl rfl (Nat.le_of_ble_eq_true rfl) dX3_init_18 (fun H locs hP hD hS => ?_)
  have hP : va_P D vwCl [(q, .inr (3, [.int 3, .int 10, .int 40, .int 0, .int 0, .int 0]))] _ := hP
  have hD : va_D (va_A [(q, .inr (3, [.int 0, .int 0, .int 0, .int 0, .int 0, .int 0]))] s.heap.size) [(q, .inr (3, [.int 3, .int 10, .int 40, .int 0, .int 0, .int 0]))] := hD
  refine lv_aload_n hx hb dX3_init_21 rfl (lv_at hl 0 rfl) ?_
  refine lv_iconst (v := 1) hx hb dX3_init_22 (by decide) ?_
  refine va_put (ci := 3) (v := .int 1) (ty := tyX3 3) (C := RX3) (T := TX3) (N := 6) hx hb hts inX3 tyX3 tyX3_ok nmX3 hown hK hP hD hS 0 rfl rfl 3 (by decide) (hts _ q_42) (fun _ h9 => h9) rfl (tyX3_ok 3 (by decide)) rfl rfl (Nat.le_of_ble_eq_true rfl) dX3_init_23 (fun H locs hP hD hS => ?_)
  have hP : va_P D vwCl [(q, .inr (3, [.int 3, .int 10, .int 40, .int 1, .int 0, .int 0]))] _ := hP
  have hD : va_D (va_A [(q, .inr (3, [.int 0, .int 0, .int 0, .int 0, .int 0, .int 0]))] s.heap.size) [(q, .inr (3, [.int 3, .int 10, .int 40, .int 1, .int 0, .int 0]))] := hD
  refine lv_aload_n hx hb dX3_init_26 rfl (lv_at hl 0 rfl) ?_
  refine lv_bipush (v := 12) hx hb dX3_init_27 (by decide) ?_
  refine va_put (ci := 3) (v := .int 12) (ty := tyX3 4) (C := RX3) (T := TX3) (N := 6) hx hb hts inX3 tyX3 tyX3_ok nmX3 hown hK hP hD hS 0 rfl rfl 4 (by decide) (hts _ q_44) (fun _ h9 => h9) rfl (tyX3_ok 4 (by decide)) rfl rfl (Nat.le_of_ble_eq_true rfl) dX3_init_29 (fun H locs hP hD hS => ?_)
  have hP : va_P D vwCl [(q, .inr (3, [.int 3, .int 10, .int 40, .int 1, .int 12, .int 0]))] _ := hP
  have hD : va_D (va_A [(q, .inr (3, [.int 0, .int 0, .int 0, .int 0, .int 0, .int 0]))] s.heap.size) [(q, .inr (3, [.int 3, .int 10, .int 40, .int 1, .int 12, .int 0]))] := hD
  refine lv_aload_n hx hb dX3_init_32 rfl (lv_at hl 0 rfl) ?_
  refine lv_bipush (v := 15) hx hb dX3_init_33 (by decide) ?_
  refine va_put (ci := 3) (v := .int 15) (ty := tyX3 5) (C := RX3) (T := TX3) (N := 6) hx hb hts inX3 tyX3 tyX3_ok nmX3 hown hK hP hD hS 0 rfl rfl 5 (by decide) (hts _ q_46) (fun _ h9 => h9) rfl (tyX3_ok 5 (by decide)) rfl rfl (Nat.le_of_ble_eq_true rfl) dX3_init_35 (fun H locs hP hD hS => ?_)
  have hP : va_P D vwCl [(q, .inr (3, [.int 3, .int 10, .int 40, .int 1, .int 12, .int 15]))] _ := hP
  have hD : va_D (va_A [(q, .inr (3, [.int 0, .int 0, .int 0, .int 0, .int 0, .int 0]))] s.heap.size) [(q, .inr (3, [.int 3, .int 10, .int 40, .int 1, .int 12, .int 15]))] := hD
  exact end_nv (d := fun _ => 0) hx hb hrt hlk hP (va_D.congr (by rfl) hD) hS (fun h => h) (fun h => va_D.congr (by rfl) h) dX3_init_38

theorem hd_X2_init : yX2_init.cls ≠ "java/lang/invoke/MethodHandle" ∧ yX2_init.cls ≠ "java/lang/invoke/VarHandle" ∧ (parseMethodDescriptor yX2_init.desc).map (fun d => d.parameters.length) = some 0 := by decide +kernel
set_option maxRecDepth 100000 in
set_option maxHeartbeats 4000000 in
theorem m_X2_init (l : Launch) (D : va_G) (kA : Nat → Nat) (q sz : Nat) : Met l yX2_init (Cond.code yX2_init cX2_init 1 none :: AW) ({ frames := 1, cells := 0, slots := 0, locals := 12 } : Room) (Pn [.ref q] D (TY kA) [(q, .inr (2, [.int 0, .int 0, .int 0, .int 0]))] sz) (nQ D (fun _ => [(q, dC z0)]) [(q, .inr (2, [.int 0, .int 0, .int 0, .int 0]))] sz) 0 0 (va_A [(q, .inr (2, [.int 0, .int 0, .int 0, .int 0]))] sz) := by
  refine MetN (by decide +kernel) (Nat.le_of_ble_eq_true rfl) ?_
  intro p e s m below meth c ls hx hb hrt hts hown hml hlk hnm hP hK hD hS hl hN hsz
  subst hsz
  have hA : ∀ q9, s.heap.size ≤ q9 → va_A [(q, .inr (2, [.int 0, .int 0, .int 0, .int 0]))] s.heap.size q9 := fun _ h => Or.inr h
  have hl : lv_has ls 1 [(0, .ref q)] := hl
  refine lv_aload_n hx hb dX2_init_0 rfl (lv_at hl 0 rfl) ?_
  refine nobj hx hb hown (hts _ q_156) (hts _ q_21) (hts _ q_22) (by rw [hml]; exact hl.1) dX2_init_1 (Nat.le_of_ble_eq_true rfl) (Nat.le_of_ble_eq_true rfl) ?_
  refine lv_aload_n hx hb dX2_init_4 rfl (lv_at hl 0 rfl) ?_
  refine lv_iconst (v := 0) hx hb dX2_init_5 (by decide) ?_
  refine va_put (ci := 2) (v := .int 0) (ty := tyX2 0) (C := RX2) (T := TX2) (N := 4) hx hb hts inX2 tyX2 tyX2_ok nmX2 hown hK hP hD hS 0 rfl rfl 0 (by decide) (hts _ q_157) (fun _ h9 => h9) rfl (tyX2_ok 0 (by decide)) rfl rfl (Nat.le_of_ble_eq_true rfl) dX2_init_6 (fun H locs hP hD hS => ?_)
  have hP : va_P D vwCl [(q, .inr (2, [.int 0, .int 0, .int 0, .int 0]))] _ := hP
  have hD : va_D (va_A [(q, .inr (2, [.int 0, .int 0, .int 0, .int 0]))] s.heap.size) [(q, .inr (2, [.int 0, .int 0, .int 0, .int 0]))] := hD
  refine lv_aload_n hx hb dX2_init_9 rfl (lv_at hl 0 rfl) ?_
  refine lv_iconst (v := 0) hx hb dX2_init_10 (by decide) ?_
  refine va_put (ci := 2) (v := .int 0) (ty := tyX2 1) (C := RX2) (T := TX2) (N := 4) hx hb hts inX2 tyX2 tyX2_ok nmX2 hown hK hP hD hS 0 rfl rfl 1 (by decide) (hts _ q_158) (fun _ h9 => h9) rfl (tyX2_ok 1 (by decide)) rfl rfl (Nat.le_of_ble_eq_true rfl) dX2_init_11 (fun H locs hP hD hS => ?_)
  have hP : va_P D vwCl [(q, .inr (2, [.int 0, .int 0, .int 0, .int 0]))] _ := hP
  have hD : va_D (va_A [(q, .inr (2, [.int 0, .int 0, .int 0, .int 0]))] s.heap.size) [(q, .inr (2, [.int 0, .int 0, .int 0, .int 0]))] := hD
  refine lv_aload_n hx hb dX2_init_14 rfl (lv_at hl 0 rfl) ?_
  refine lv_iconst (v := 0) hx hb dX2_init_15 (by decide) ?_
  refine va_put (ci := 2) (v := .int 0) (ty := tyX2 2) (C := RX2) (T := TX2) (N := 4) hx hb hts inX2 tyX2 tyX2_ok nmX2 hown hK hP hD hS 0 rfl rfl 2 (by decide) (hts _ q_159) (fun _ h9 => h9) rfl (tyX2_ok 2 (by decide)) rfl rfl (Nat.le_of_ble_eq_true rfl) dX2_init_16 (fun H locs hP hD hS => ?_)
  have hP : va_P D vwCl [(q, .inr (2, [.int 0, .int 0, .int 0, .int 0]))] _ := hP
  have hD : va_D (va_A [(q, .inr (2, [.int 0, .int 0, .int 0, .int 0]))] s.heap.size) [(q, .inr (2, [.int 0, .int 0, .int 0, .int 0]))] := hD
  refine lv_aload_n hx hb dX2_init_19 rfl (lv_at hl 0 rfl) ?_
  refine lv_iconst (v := 0) hx hb dX2_init_20 (by decide) ?_
  refine va_put (ci := 2) (v := .int 0) (ty := tyX2 3) (C := RX2) (T := TX2) (N := 4) hx hb hts inX2 tyX2 tyX2_ok nmX2 hown hK hP hD hS 0 rfl rfl 3 (by decide) (hts _ q_160) (fun _ h9 => h9) rfl (tyX2_ok 3 (by decide)) rfl rfl (Nat.le_of_ble_eq_true rfl) dX2_init_21 (fun H locs hP hD hS => ?_)
  have hP : va_P D vwCl [(q, .inr (2, [.int 0, .int 0, .int 0, .int 0]))] _ := hP
  have hD : va_D (va_A [(q, .inr (2, [.int 0, .int 0, .int 0, .int 0]))] s.heap.size) [(q, .inr (2, [.int 0, .int 0, .int 0, .int 0]))] := hD
  exact end_nv (d := fun _ => 0) hx hb hrt hlk hP (va_D.congr (by rfl) hD) hS (fun h => h) (fun h => va_D.congr (by rfl) h) dX2_init_24

theorem hd_X0_init : yX0_init.cls ≠ "java/lang/invoke/MethodHandle" ∧ yX0_init.cls ≠ "java/lang/invoke/VarHandle" ∧ (parseMethodDescriptor yX0_init.desc).map (fun d => d.parameters.length) = some 0 := by decide +kernel
set_option maxRecDepth 100000 in
set_option maxHeartbeats 4000000 in
theorem m_X0_init (l : Launch) (D : va_G) (kA : Nat → Nat) (q sz : Nat) : Met l yX0_init (Cond.code yX0_init cX0_init 1 none :: AW) ({ frames := 1, cells := 1, slots := 24, locals := 12 } : Room) (Pn [.ref q] D (TY kA) [(q, .inr (0, [.null, .int 0, .int 0, .int 0, .int 0, .int 0, .int 0, .int 0, .int 0, .int 0, .int 0, .int 0]))] sz) (nQ D (fun d => gB kA q d) [(q, .inr (0, [.null, .int 0, .int 0, .int 0, .int 0, .int 0, .int 0, .int 0, .int 0, .int 0, .int 0, .int 0]))] sz) 1 24 (va_A [(q, .inr (0, [.null, .int 0, .int 0, .int 0, .int 0, .int 0, .int 0, .int 0, .int 0, .int 0, .int 0, .int 0]))] sz) := by
  refine MetN (by decide +kernel) (Nat.le_of_ble_eq_true rfl) ?_
  intro p e s m below meth c ls hx hb hrt hts hown hml hlk hnm hP hK hD hS hl hN hsz
  subst hsz
  have hA : ∀ q9, s.heap.size ≤ q9 → va_A [(q, .inr (0, [.null, .int 0, .int 0, .int 0, .int 0, .int 0, .int 0, .int 0, .int 0, .int 0, .int 0, .int 0]))] s.heap.size q9 := fun _ h => Or.inr h
  have hl : lv_has ls 1 [(0, .ref q)] := hl
  refine lv_aload_n hx hb dX0_init_0 rfl (lv_at hl 0 rfl) ?_
  refine nobj hx hb hown (hts _ q_67) (hts _ q_21) (hts _ q_22) (by rw [hml]; exact hl.1) dX0_init_1 (Nat.le_of_ble_eq_true rfl) (Nat.le_of_ble_eq_true rfl) ?_
  refine lv_aload_n hx hb dX0_init_4 rfl (lv_at hl 0 rfl) ?_
  refine lv_bipush (v := 24) hx hb dX0_init_5 (by decide) ?_
  refine va_newa (atype := .int) (ty := .int) hx hb (hts _ q_112) rfl hK hP hD hS hA (n := 24) (N' := 24) (a0 := (24, .inl (fun _ => 0))) (fun _ => rfl) (by decide) rfl (by decide) (Nat.le_of_ble_eq_true rfl) (Nat.le_of_ble_eq_true rfl) dX0_init_7 (fun n_1 cA H hK9 hP hD hS => ?_)
  obtain rfl : cA = kA 0 := ua_eq hK9 (i := 3) (j := 0) rfl rfl
  clear hK9
  have hP : va_P D vwCl [(q, .inr (0, [.null, .int 0, .int 0, .int 0, .int 0, .int 0, .int 0, .int 0, .int 0, .int 0, .int 0, .int 0])), (n_1, .inl (kA 0, 24, .inl (fun _ => 0)))] _ := hP
  have hD : va_D (va_A [(q, .inr (0, [.null, .int 0, .int 0, .int 0, .int 0, .int 0, .int 0, .int 0, .int 0, .int 0, .int 0, .int 0]))] s.heap.size) [(q, .inr (0, [.null, .int 0, .int 0, .int 0, .int 0, .int 0, .int 0, .int 0, .int 0, .int 0, .int 0, .int 0])), (n_1, .inl (kA 0, 24, .inl (fun _ => 0)))] := hD
  refine va_putF (ci := 0) (v := .ref n_1) (ty := tyX0 0) (C := RX0) (T := TX0) (N := 12) hx hb hts inX0 tyX0 tyX0_ok nmX0 hown hK hP hD hS 0 rfl rfl 0 (by decide) (hts _ q_68) (fun _ h9 => h9) rfl (hnm.trans rfl) rfl (tyX0_ok 0 (by decide)) rfl rfl (Nat.le_of_ble_eq_true rfl) dX0_init_9 (fun H locs hP hD hS => ?_)
  have hP : va_P D vwCl [(q, .inr (0, [.ref n_1, .int 0, .int 0, .int 0, .int 0, .int 0, .int 0, .int 0, .int 0, .int 0, .int 0, .int 0])), (n_1, .inl (kA 0, 24, .inl (fun _ => 0)))] _ := hP
  have hD : va_D (va_A [(q, .inr (0, [.null, .int 0, .int 0, .int 0, .int 0, .int 0, .int 0, .int 0, .int 0, .int 0, .int 0, .int 0]))] s.heap.size) [(q, .inr (0, [.ref n_1, .int 0, .int 0, .int 0, .int 0, .int 0, .int 0, .int 0, .int 0, .int 0, .int 0, .int 0])), (n_1, .inl (kA 0, 24, .inl (fun _ => 0)))] := hD
  refine lv_aload_n hx hb dX0_init_12 rfl (lv_at hl 0 rfl) ?_
  refine lv_iconst (v := 0) hx hb dX0_init_13 (by decide) ?_
  refine va_put (ci := 0) (v := .int 0) (ty := tyX0 1) (C := RX0) (T := TX0) (N := 12) hx hb hts inX0 tyX0 tyX0_ok nmX0 hown hK hP hD hS 0 rfl rfl 1 (by decide) (hts _ q_69) (fun _ h9 => h9) rfl (tyX0_ok 1 (by decide)) rfl rfl (Nat.le_of_ble_eq_true rfl) dX0_init_14 (fun H locs hP hD hS => ?_)
  have hP : va_P D vwCl [(q, .inr (0, [.ref n_1, .int 0, .int 0, .int 0, .int 0, .int 0, .int 0, .int 0, .int 0, .int 0, .int 0, .int 0])), (n_1, .inl (kA 0, 24, .inl (fun _ => 0)))] _ := hP
  have hD : va_D (va_A [(q, .inr (0, [.null, .int 0, .int 0, .int 0, .int 0, .int 0, .int 0, .int 0, .int 0, .int 0, .int 0, .int 0]))] s.heap.size) [(q, .inr (0, [.ref n_1, .int 0, .int 0, .int 0, .int 0, .int 0, .int 0, .int 0, .int 0, .int 0, .int 0, .int 0])), (n_1, .inl (kA 0, 24, .inl (fun _ => 0)))] := hD
  refine lv_aload_n hx hb dX0_init_17 rfl (lv_at hl 0 rfl) ?_
  refine lv_iconst (v := 0) hx hb dX0_init_18 (by decide) ?_
  refine va_put (ci := 0) (v := .int 0) (ty := tyX0 2) (C := RX0) (T := TX0) (N := 12) hx hb hts inX0 tyX0 tyX0_ok nmX0 hown hK hP hD hS 0 rfl rfl 2 (by decide) (hts _ q_71) (fun _ h9 => h9) rfl (tyX0_ok 2 (by decide)) rfl rfl (Nat.le_of_ble_eq_true rfl) dX0_init_19 (fun H locs hP hD hS => ?_)
  have hP : va_P D vwCl [(q, .inr (0, [.ref n_1, .int 0, .int 0, .int 0, .int 0, .int 0, .int 0, .int 0, .int 0, .int 0, .int 0, .int 0])), (n_1, .inl (kA 0, 24, .inl (fun _ => 0)))] _ := hP
  have hD : va_D (va_A [(q, .inr (0, [.null, .int 0, .int 0, .int 0, .int 0, .int 0, .int 0, .int 0, .int 0, .int 0, .int 0, .int 0]))] s.heap.size) [(q, .inr (0, [.ref n_1, .int 0, .int 0, .int 0, .int 0, .int 0, .int 0, .int 0, .int 0, .int 0, .int 0, .int 0])), (n_1, .inl (kA 0, 24, .inl (fun _ => 0)))] := hD
  refine lv_aload_n hx hb dX0_init_22 rfl (lv_at hl 0 rfl) ?_
  refine lv_iconst (v := 0) hx hb dX0_init_23 (by decide) ?_
  refine va_put (ci := 0) (v := .int 0) (ty := tyX0 3) (C := RX0) (T := TX0) (N := 12) hx hb hts inX0 tyX0 tyX0_ok nmX0 hown hK hP hD hS 0 rfl rfl 3 (by decide) (hts _ q_74) (fun _ h9 => h9) rfl (tyX0_ok 3 (by decide)) rfl rfl (Nat.le_of_ble_eq_true rfl) dX0_init_24 (fun H locs hP hD hS => ?_)
  have hP : va_P D vwCl [(q, .inr (0, [.ref n_1, .int 0, .int 0, .int 0, .int 0, .int 0, .int 0, .int 0, .int 0, .int 0, .int 0, .int 0])), (n_1, .inl (kA 0, 24, .inl (fun _ => 0)))] _ := hP
  have hD : va_D (va_A [(q, .inr (0, [.null, .int 0, .int 0, .int 0, .int 0, .int 0, .int 0, .int 0, .int 0, .int 0, .int 0, .int 0]))] s.heap.size) [(q, .inr (0, [.ref n_1, .int 0, .int 0, .int 0, .int 0, .int 0, .int 0, .int 0, .int 0, .int 0, .int 0, .int 0])), (n_1, .inl (kA 0, 24, .inl (fun _ => 0)))] := hD
  refine lv_aload_n hx hb dX0_init_27 rfl (lv_at hl 0 rfl) ?_
  refine lv_iconst (v := 0) hx hb dX0_init_28 (by decide) ?_
  refine va_put (ci := 0) (v := .int 0) (ty := tyX0 4) (C := RX0) (T := TX0) (N := 12) hx hb hts inX0 tyX0 tyX0_ok nmX0 hown hK hP hD hS 0 rfl rfl 4 (by decide) (hts _ q_76) (fun _ h9 => h9) rfl (tyX0_ok 4 (by decide)) rfl rfl (Nat.le_of_ble_eq_true rfl) dX0_init_29 (fun H locs hP hD hS => ?_)
  have hP : va_P D vwCl [(q, .inr (0, [.ref n_1, .int 0, .int 0, .int 0, .int 0, .int 0, .int 0, .int 0, .int 0, .int 0, .int 0, .int 0])), (n_1, .inl (kA 0, 24, .inl (fun _ => 0)))] _ := hP
  have hD : va_D (va_A [(q, .inr (0, [.null, .int 0, .int 0, .int 0, .int 0, .int 0, .int 0, .int 0, .int 0, .int 0, .int 0, .int 0]))] s.heap.size) [(q, .inr (0, [.ref n_1, .int 0, .int 0, .int 0, .int 0, .int 0, .int 0, .int 0, .int 0, .int 0, .int 0, .int 0])), (n_1, .inl (kA 0, 24, .inl (fun _ => 0)))] := hD
  refine lv_aload_n hx hb dX0_init_32 rfl (lv_at hl 0 rfl) ?_
  refine lv_iconst (v := 0) hx hb dX0_init_33 (by decide) ?_
  refine va_put (ci := 0) (v := .int 0) (ty := tyX0 5) (C := RX0) (T := TX0) (N := 12) hx hb hts inX0 tyX0 tyX0_ok nmX0 hown hK hP hD hS 0 rfl rfl 5 (by decide) (hts _ q_77) (fun _ h9 => h9) rfl (tyX0_ok 5 (by decide)) rfl rfl (Nat.le_of_ble_eq_true rfl) dX0_init_34 (fun H locs hP hD hS => ?_)
  have hP : va_P D vwCl [(q, .inr (0, [.ref n_1, .int 0, .int 0, .int 0, .int 0, .int 0, .int 0, .int 0, .int 0, .int 0, .int 0, .int 0])), (n_1, .inl (kA 0, 24, .inl (fun _ => 0)))] _ := hP
  have hD : va_D (va_A [(q, .inr (0, [.null, .int 0, .int 0, .int 0, .int 0, .int 0, .int 0, .int 0, .int 0, .int 0, .int 0, .int 0]))] s.heap.size) [(q, .inr (0, [.ref n_1, .int 0, .int 0, .int 0, .int 0, .int 0, .int 0, .int 0, .int 0, .int 0, .int 0, .int 0])), (n_1, .inl (kA 0, 24, .inl (fun _ => 0)))] := hD
  refine lv_aload_n hx hb dX0_init_37 rfl (lv_at hl 0 rfl) ?_
  refine lv_iconst (v := 0) hx hb dX0_init_38 (by decide) ?_
  refine va_put (ci := 0) (v := .int 0) (ty := tyX0 6) (C := RX0) (T := TX0) (N := 12) hx hb hts inX0 tyX0 tyX0_ok nmX0 hown hK hP hD hS 0 rfl rfl 6 (by decide) (hts _ q_78) (fun _ h9 => h9) rfl (tyX0_ok 6 (by decide)) rfl rfl (Nat.le_of_ble_eq_true rfl) dX0_init_39 (fun H locs hP hD hS => ?_)
  have hP : va_P D vwCl [(q, .inr (0, [.ref n_1, .int 0, .int 0, .int 0, .int 0, .int 0, .int 0, .int 0, .int 0, .int 0, .int 0, .int 0])), (n_1, .inl (kA 0, 24, .inl (fun _ => 0)))] _ := hP
  have hD : va_D (va_A [(q, .inr (0, [.null, .int 0, .int 0, .int 0, .int 0, .int 0, .int 0, .int 0, .int 0, .int 0, .int 0, .int 0]))] s.heap.size) [(q, .inr (0, [.ref n_1, .int 0, .int 0, .int 0, .int 0, .int 0, .int 0, .int 0, .int 0, .int 0, .int 0, .int 0])), (n_1, .inl (kA 0, 24, .inl (fun _ => 0)))] := hD
  refine lv_aload_n hx hb dX0_init_42 rfl (lv_at hl 0 rfl) ?_
  refine lv_iconst (v := 0) hx hb dX0_init_43 (by decide) ?_
  refine va_put (ci := 0) (v := .int 0) (ty := tyX0 7) (C := RX0) (T := TX0) (N := 12) hx hb hts inX0 tyX0 tyX0_ok nmX0 hown hK hP hD hS 0 rfl rfl 7 (by decide) (hts _ q_80) (fun _ h9 => h9) rfl (tyX0_ok 7 (by decide)) rfl rfl (Nat.le_of_ble_eq_true rfl) dX0_init_44 (fun H locs hP hD hS => ?_)
  have hP : va_P D vwCl [(q, .inr (0, [.ref n_1, .int 0, .int 0, .int 0, .int 0, .int 0, .int 0, .int 0, .int 0, .int 0, .int 0, .int 0])), (n_1, .inl (kA 0, 24, .inl (fun _ => 0)))] _ := hP
  have hD : va_D (va_A [(q, .inr (0, [.null, .int 0, .int 0, .int 0, .int 0, .int 0, .int 0, .int 0, .int 0, .int 0, .int 0, .int 0]))] s.heap.size) [(q, .inr (0, [.ref n_1, .int 0, .int 0, .int 0, .int 0, .int 0, .int 0, .int 0, .int 0, .int 0, .int 0, .int 0])), (n_1, .inl (kA 0, 24, .inl (fun _ => 0)))] := hD
  refine lv_aload_n hx hb dX0_init_47 rfl (lv_at hl 0 rfl) ?_
  refine lv_iconst (v := 0) hx hb dX0_init_48 (by decide) ?_
  refine va_put (ci := 0) (v := .int 0) (ty := tyX0 8) (C := RX0) (T := TX0) (N := 12) hx hb hts inX0 tyX0 tyX0_ok nmX0 hown hK hP hD hS 0 rfl rfl 8 (by decide) (hts _ q_82) (fun _ h9 => h9) rfl (tyX0_ok 8 (by decide)) rfl rfl (Nat.le_of_ble_eq_true rfl) dX0_init_49 (fun H locs hP hD hS => ?_)
  have hP : va_P D vwCl [(q, .inr (0, [.ref n_1, .int 0, .int 0, .int 0, .int 0, .int 0, .int 0, .int 0, .int 0, .int 0, .int 0, .int 0])), (n_1, .inl (kA 0, 24, .inl (fun _ => 0)))] _ := hP
  have hD : va_D (va_A [(q, .inr (0, [.null, .int 0, .int 0, .int 0, .int 0, .int 0, .int 0, .int 0, .int 0, .int 0, .int 0, .int 0]))] s.heap.size) [(q, .inr (0, [.ref n_1, .int 0, .int 0, .int 0, .int 0, .int 0, .int 0, .int 0, .int 0, .int 0, .int 0, .int 0])), (n_1, .inl (kA 0, 24, .inl (fun _ => 0)))] := hD
  refine lv_aload_n hx hb dX0_init_52 rfl (lv_at hl 0 rfl) ?_
  refine lv_iconst (v := 0) hx hb dX0_init_53 (by decide) ?_
  refine va_put (ci := 0) (v := .int 0) (ty := tyX0 9) (C := RX0) (T := TX0) (N := 12) hx hb hts inX0 tyX0 tyX0_ok nmX0 hown hK hP hD hS 0 rfl rfl 9 (by decide) (hts _ q_83) (fun _ h9 => h9) rfl (tyX0_ok 9 (by decide)) rfl rfl (Nat.le_of_ble_eq_true rfl) dX0_init_54 (fun H locs hP hD hS => ?_)
  have hP : va_P D vwCl [(q, .inr (0, [.ref n_1, .int 0, .int 0, .int 0, .int 0, .int 0, .int 0, .int 0, .int 0, .int 0, .int 0, .int 0])), (n_1, .inl (kA 0, 24, .inl (fun _ => 0)))] _ := hP
  have hD : va_D (va_A [(q, .inr (0, [.null, .int 0, .int 0, .int 0, .int 0, .int 0, .int 0, .int 0, .int 0, .int 0, .int 0, .int 0]))] s.heap.size) [(q, .inr (0, [.ref n_1, .int 0, .int 0, .int 0, .int 0, .int 0, .int 0, .int 0, .int 0, .int 0, .int 0, .int 0])), (n_1, .inl (kA 0, 24, .inl (fun _ => 0)))] := hD
  refine lv_aload_n hx hb dX0_init_57 rfl (lv_at hl 0 rfl) ?_
  refine lv_iconst (v := 0) hx hb dX0_init_58 (by decide) ?_
  refine va_put (ci := 0) (v := .int 0) (ty := tyX0 10) (C := RX0) (T := TX0) (N := 12) hx hb hts inX0 tyX0 tyX0_ok nmX0 hown hK hP hD hS 0 rfl rfl 10 (by decide) (hts _ q_84) (fun _ h9 => h9) rfl (tyX0_ok 10 (by decide)) rfl rfl (Nat.le_of_ble_eq_true rfl) dX0_init_59 (fun H locs hP hD hS => ?_)
  have hP : va_P D vwCl [(q, .inr (0, [.ref n_1, .int 0, .int 0, .int 0, .int 0, .int 0, .int 0, .int 0, .int 0, .int 0, .int 0, .int 0])), (n_1, .inl (kA 0, 24, .inl (fun _ => 0)))] _ := hP
  have hD : va_D (va_A [(q, .inr (0, [.null, .int 0, .int 0, .int 0, .int 0, .int 0, .int 0, .int 0, .int 0, .int 0, .int 0, .int 0]))] s.heap.size) [(q, .inr (0, [.ref n_1, .int 0, .int 0, .int 0, .int 0, .int 0, .int 0, .int 0, .int 0, .int 0, .int 0, .int 0])), (n_1, .inl (kA 0, 24, .inl (fun _ => 0)))] := hD
  refine lv_aload_n hx hb dX0_init_62 rfl (lv_at hl 0 rfl) ?_
  refine lv_iconst (v := 0) hx hb dX0_init_63 (by decide) ?_
  refine va_put (ci := 0) (v := .int 0) (ty := tyX0 11) (C := RX0) (T := TX0) (N := 12) hx hb hts inX0 tyX0 tyX0_ok nmX0 hown hK hP hD hS 0 rfl rfl 11 (by decide) (hts _ q_85) (fun _ h9 => h9) rfl (tyX0_ok 11 (by decide)) rfl rfl (Nat.le_of_ble_eq_true rfl) dX0_init_64 (fun H locs hP hD hS => ?_)
  have hP : va_P D vwCl [(q, .inr (0, [.ref n_1, .int 0, .int 0, .int 0, .int 0, .int 0, .int 0, .int 0, .int 0, .int 0, .int 0, .int 0])), (n_1, .inl (kA 0, 24, .inl (fun _ => 0)))] _ := hP
  have hD : va_D (va_A [(q, .inr (0, [.null, .int 0, .int 0, .int 0, .int 0, .int 0, .int 0, .int 0, .int 0, .int 0, .int 0, .int 0]))] s.heap.size) [(q, .inr (0, [.ref n_1, .int 0, .int 0, .int 0, .int 0, .int 0, .int 0, .int 0, .int 0, .int 0, .int 0, .int 0])), (n_1, .inl (kA 0, 24, .inl (fun _ => 0)))] := hD
  exact end_nv (d := fun _ => n_1) hx hb hrt hlk hP (va_D.congr (by rfl) hD) hS (fun h => h) (fun h => va_D.congr (by rfl) h) dX0_init_67

theorem hd_X4_init : yX4_init.cls ≠ "java/lang/invoke/MethodHandle" ∧ yX4_init.cls ≠ "java/lang/invoke/VarHandle" ∧ (parseMethodDescriptor yX4_init.desc).map (fun d => d.parameters.length) = some 0 := by decide +kernel
set_option maxRecDepth 100000 in
set_option maxHeartbeats 4000000 in
theorem m_X4_init (l : Launch) (D : va_G) (kA : Nat → Nat) (q sz : Nat) : Met l yX4_init (Cond.code yX4_init cX4_init 2 none :: AW) ({ frames := 2, cells := 10, slots := 154, locals := 32 } : Room) (Pn [.ref q] D (TY kA) [(q, .inr (4, [.null, .null, .int 0, .int 0]))] sz) (nQ D (fun d => sB kA q d) [(q, .inr (4, [.null, .null, .int 0, .int 0]))] sz) 10 154 (va_A [(q, .inr (4, [.null, .null, .int 0, .int 0]))] sz) := by
  refine MetN (by decide +kernel) (Nat.le_of_ble_eq_true rfl) ?_
  intro p e s m below meth c ls hx hb hrt hts hown hml hlk hnm hP hK hD hS hl hN hsz
  subst hsz
  have hA : ∀ q9, s.heap.size ≤ q9 → va_A [(q, .inr (4, [.null, .null, .int 0, .int 0]))] s.heap.size q9 := fun _ h => Or.inr h
  have hl : lv_has ls 2 [(0, .ref q)] := hl
  refine lv_aload_n hx hb dX4_init_0 rfl (lv_at hl 0 rfl) ?_
  refine nobj hx hb hown (hts _ q_28) (hts _ q_21) (hts _ q_22) (by rw [hml]; exact hl.1) dX4_init_1 (Nat.le_of_ble_eq_true rfl) (Nat.le_of_ble_eq_true rfl) ?_
  refine lv_aload_n hx hb dX4_init_4 rfl (lv_at hl 0 rfl) ?_
  refine va_new (ci := 3) (fs := [.int 0, .int 0, .int 0, .int 0, .int 0, .int 0]) (C := RX3) (T := TX3) (N := 6) hx hb hts inX3 tyX3 tyX3_ok hown (hts _ q_29) (hts _ q_30) (hts _ q_3) hK hP hD hS hA rfl (fun j hj => by rcases (show j = 0 ∨ j = 1 ∨ j = 2 ∨ j = 3 ∨ j = 4 ∨ j = 5 by omega) with rfl | rfl | rfl | rfl | rfl | rfl <;> rfl) (Nat.le_of_ble_eq_true rfl) (Nat.le_of_ble_eq_true rfl) dX4_init_5 (fun n_1 H hP hD hS => ?_)
  have hP : va_P D vwCl [(q, .inr (4, [.null, .null, .int 0, .int 0])), (n_1, .inr (3, [.int 0, .int 0, .int 0, .int 0, .int 0, .int 0]))] _ := hP
  have hD : va_D (va_A [(q, .inr (4, [.null, .null, .int 0, .int 0]))] s.heap.size) [(q, .inr (4, [.null, .null, .int 0, .int 0])), (n_1, .inr (3, [.int 0, .int 0, .int 0, .int 0, .int 0, .int 0]))] := hD
  refine lv_dup hx hb dX4_init_8 rfl ?_
  refine cs_n (ws := [(q, .inr (4, [.null, .null, .int 0, .int 0]))]) (nrunN (rest := [.ref n_1, .ref q]) (host := "ArmTolls") ⟨hx, hb, hml, hown, hts⟩ (m_X3_init l D kA n_1 H.size) rfl (by decide +kernel) q_32 q_3 q_33 hd_X3_init ⟨rfl, rfl⟩ ⟨Nat.le_of_ble_eq_true rfl, Nat.le_of_ble_eq_true rfl⟩ hK (ws := [(n_1, .inr (3, [.int 0, .int 0, .int 0, .int 0, .int 0, .int 0]))]) (P1 hP (i := 1) rfl) (D1 hD (i := 1) rfl) hN hl.1 rfl (Nat.le_of_ble_eq_true rfl) dX4_init_9 ⟨Nat.le_of_ble_eq_true rfl, Nat.le_of_ble_eq_true rfl⟩) hP hD hS hA (fun d0 H locs hP hD hS => ?_)
  have hP : va_P D vwCl [(q, .inr (4, [.null, .null, .int 0, .int 0])), (n_1, rC rI)] _ := hP
  have hD : va_D (va_A [(q, .inr (4, [.null, .null, .int 0, .int 0]))] s.heap.size) [(q, .inr (4, [.null, .null, .int 0, .int 0])), (n_1, rC rI)] := hD
  refine va_putF (ci := 4) (v := .ref n_1) (ty := tyX4 0) (C := RX4) (T := TX4) (N := 4) hx hb hts inX4 tyX4 tyX4_ok nmX4 hown hK hP hD hS 0 rfl rfl 0 (by decide) (hts _ q_113) (fun _ h9 => h9) rfl (hnm.trans rfl) rfl (tyX4_ok 0 (by decide)) rfl rfl (Nat.le_of_ble_eq_true rfl) dX4_init_12 (fun H locs hP hD hS => ?_)
  have hP : va_P D vwCl [(q, .inr (4, [.ref n_1, .null, .int 0, .int 0])), (n_1, rC rI)] _ := hP
  have hD : va_D (va_A [(q, .inr (4, [.null, .null, .int 0, .int 0]))] s.heap.size) [(q, .inr (4, [.ref n_1, .null, .int 0, .int 0])), (n_1, rC rI)] := hD
  refine lv_aload_n hx hb dX4_init_15 rfl (lv_at hl 0 rfl) ?_
  refine lv_iconst (v := 4) hx hb dX4_init_16 (by decide) ?_
  refine va_newq (C := "ArmTolls$Gear") hx hb hown (hts _ q_61) hN.2.1 hK hP hD hS hA (n := 4) (N' := 4) (by decide) rfl (by decide) (Nat.le_of_ble_eq_true rfl) (Nat.le_of_ble_eq_true rfl) dX4_init_17 (fun n_2 cA H hK9 hP hD hS => ?_)
  obtain rfl : cA = kA 1 := ua_eq hK9 (i := 3) (j := 1) rfl rfl
  clear hK9
  have hP : va_P D vwCl [(q, .inr (4, [.ref n_1, .null, .int 0, .int 0])), (n_1, rC rI), (n_2, .inl (kA 1, 4, .inr (.inr (.inr (.inr (fun _ => none))))))] _ := hP
  have hD : va_D (va_A [(q, .inr (4, [.null, .null, .int 0, .int 0]))] s.heap.size) [(q, .inr (4, [.ref n_1, .null, .int 0, .int 0])), (n_1, rC rI), (n_2, .inl (kA 1, 4, .inr (.inr (.inr (.inr (fun _ => none))))))] := hD
  refine va_putF (ci := 4) (v := .ref n_2) (ty := tyX4 1) (C := RX4) (T := TX4) (N := 4) hx hb hts inX4 tyX4 tyX4_ok nmX4 hown hK hP hD hS 0 rfl rfl 1 (by decide) (hts _ q_115) (fun _ h9 => h9) rfl (hnm.trans rfl) rfl (tyX4_ok 1 (by decide)) rfl rfl (Nat.le_of_ble_eq_true rfl) dX4_init_20 (fun H locs hP hD hS => ?_)
  have hP : va_P D vwCl [(q, .inr (4, [.ref n_1, .ref n_2, .int 0, .int 0])), (n_1, rC rI), (n_2, .inl (kA 1, 4, .inr (.inr (.inr (.inr (fun _ => none))))))] _ := hP
  have hD : va_D (va_A [(q, .inr (4, [.null, .null, .int 0, .int 0]))] s.heap.size) [(q, .inr (4, [.ref n_1, .ref n_2, .int 0, .int 0])), (n_1, rC rI), (n_2, .inl (kA 1, 4, .inr (.inr (.inr (.inr (fun _ => none))))))] := hD
  refine lv_aload_n hx hb dX4_init_23 rfl (lv_at hl 0 rfl) ?_
  refine lv_sipush (v := 1000) hx hb dX4_init_24 (by decide) ?_
  refine va_put (ci := 4) (v := .int 1000) (ty := tyX4 2) (C := RX4) (T := TX4) (N := 4) hx hb hts inX4 tyX4 tyX4_ok nmX4 hown hK hP hD hS 0 rfl rfl 2 (by decide) (hts _ q_116) (fun _ h9 => h9) rfl (tyX4_ok 2 (by decide)) rfl rfl (Nat.le_of_ble_eq_true rfl) dX4_init_27 (fun H locs hP hD hS => ?_)
  have hP : va_P D vwCl [(q, .inr (4, [.ref n_1, .ref n_2, .int 1000, .int 0])), (n_1, rC rI), (n_2, .inl (kA 1, 4, .inr (.inr (.inr (.inr (fun _ => none))))))] _ := hP
  have hD : va_D (va_A [(q, .inr (4, [.null, .null, .int 0, .int 0]))] s.heap.size) [(q, .inr (4, [.ref n_1, .ref n_2, .int 1000, .int 0])), (n_1, rC rI), (n_2, .inl (kA 1, 4, .inr (.inr (.inr (.inr (fun _ => none))))))] := hD
  refine lv_aload_n hx hb dX4_init_30 rfl (lv_at hl 0 rfl) ?_
  refine lv_iconst (v := 0) hx hb dX4_init_31 (by decide) ?_
  refine va_put (ci := 4) (v := .int 0) (ty := tyX4 3) (C := RX4) (T := TX4) (N := 4) hx hb hts inX4 tyX4 tyX4_ok nmX4 hown hK hP hD hS 0 rfl rfl 3 (by decide) (hts _ q_118) (fun _ h9 => h9) rfl (tyX4_ok 3 (by decide)) rfl rfl (Nat.le_of_ble_eq_true rfl) dX4_init_32 (fun H locs hP hD hS => ?_)
  have hP : va_P D vwCl [(q, .inr (4, [.ref n_1, .ref n_2, .int 1000, .int 0])), (n_1, rC rI), (n_2, .inl (kA 1, 4, .inr (.inr (.inr (.inr (fun _ => none))))))] _ := hP
  have hD : va_D (va_A [(q, .inr (4, [.null, .null, .int 0, .int 0]))] s.heap.size) [(q, .inr (4, [.ref n_1, .ref n_2, .int 1000, .int 0])), (n_1, rC rI), (n_2, .inl (kA 1, 4, .inr (.inr (.inr (.inr (fun _ => none))))))] := hD
  refine lv_iconst (v := 0) hx hb dX4_init_35 (by decide) ?_
  refine lv_istore_n (lv' := [(1, .int 0), (0, .ref q)]) hx hb dX4_init_36 rfl hl (by decide) rfl (fun ls hl => ?_)
  refine lv_iload_n hx hb dX4_init_37 rfl (lv_at hl 0 rfl) ?_
  refine lv_aload_n hx hb dX4_init_38 rfl (lv_at hl 1 rfl) ?_
  refine va_get (ci := 4) (v := .ref n_2) (C := RX4) (T := TX4) (N := 4) hx hb hts inX4 hown hK hP 0 rfl rfl 1 (by decide) (hts _ q_115) (fun _ h9 => h9) rfl dX4_init_39 ?_
  refine va_alen (v := 4) hx hb hK hP _ 1 (show _ from (rfl : [(q, .inr (4, [.ref n_1, .ref n_2, .int 1000, .int 0])), (n_1, rC rI), (n_2, .inl (kA 1, 4, .inr (.inr (.inr (.inr (fun _ => none))))))][2]? = some (n_2, .inl (kA 1, 4, .inr (.inr (.inr (.inr (fun _ => none)))))))) rfl rfl dX4_init_42 ?_
  refine lv_icmp_ge (tgt := 65) hx hb dX4_init_43 (by decide) (fun c_3 => ?_) (fun c_3 => ?_)
  · exact absurd c_3 (by decide)
  · skip
    replace c_3 := nge_l c_3
    refine lv_aload_n hx hb dX4_init_46 rfl (lv_at hl 1 rfl) ?_
    refine va_get (ci := 4) (v := .ref n_2) (C := RX4) (T := TX4) (N := 4) hx hb hts inX4 hown hK hP 0 rfl rfl 1 (by decide) (hts _ q_115) (fun _ h9 => h9) rfl dX4_init_47 ?_
    refine lv_iload_n hx hb dX4_init_50 rfl (lv_at hl 0 rfl) ?_
    refine va_new (ci := 0) (fs := [.null, .int 0, .int 0, .int 0, .int 0, .int 0, .int 0, .int 0, .int 0, .int 0, .int 0, .int 0]) (C := RX0) (T := TX0) (N := 12) hx hb hts inX0 tyX0 tyX0_ok hown (hts _ q_61) (hts _ q_63) (hts _ q_4) hK hP hD hS hA rfl (fun j hj => by rcases (show j = 0 ∨ j = 1 ∨ j = 2 ∨ j = 3 ∨ j = 4 ∨ j = 5 ∨ j = 6 ∨ j = 7 ∨ j = 8 ∨ j = 9 ∨ j = 10 ∨ j = 11 by omega) with rfl | rfl | rfl | rfl | rfl | rfl | rfl | rfl | rfl | rfl | rfl | rfl <;> rfl) (Nat.le_of_ble_eq_true rfl) (Nat.le_of_ble_eq_true rfl) dX4_init_51 (fun n_4 H hP hD hS => ?_)
    have hP : va_P D vwCl [(q, .inr (4, [.ref n_1, .ref n_2, .int 1000, .int 0])), (n_1, rC rI), (n_2, .inl (kA 1, 4, .inr (.inr (.inr (.inr (fun _ => none)))))), (n_4, .inr (0, [.null, .int 0, .int 0, .int 0, .int 0, .int 0, .int 0, .int 0, .int 0, .int 0, .int 0, .int 0]))] _ := hP
    have hD : va_D (va_A [(q, .inr (4, [.null, .null, .int 0, .int 0]))] s.heap.size) [(q, .inr (4, [.ref n_1, .ref n_2, .int 1000, .int 0])), (n_1, rC rI), (n_2, .inl (kA 1, 4, .inr (.inr (.inr (.inr (fun _ => none)))))), (n_4, .inr (0, [.null, .int 0, .int 0, .int 0, .int 0, .int 0, .int 0, .int 0, .int 0, .int 0, .int 0, .int 0]))] := hD
    refine lv_dup hx hb dX4_init_54 rfl ?_
    refine cs_n (ws := [(q, .inr (4, [.ref n_1, .ref n_2, .int 1000, .int 0])), (n_1, rC rI), (n_2, .inl (kA 1, 4, .inr (.inr (.inr (.inr (fun _ => none))))))]) (nrunN (rest := [.ref n_4, .int 0, .ref n_2]) (host := "ArmTolls") ⟨hx, hb, hml, hown, hts⟩ (m_X0_init l D kA n_4 H.size) rfl (by decide +kernel) q_65 q_4 q_66 hd_X0_init ⟨rfl, rfl⟩ ⟨Nat.le_of_ble_eq_true rfl, Nat.le_of_ble_eq_true rfl⟩ hK (ws := [(n_4, .inr (0, [.null, .int 0, .int 0, .int 0, .int 0, .int 0, .int 0, .int 0, .int 0, .int 0, .int 0, .int 0]))]) (P1 hP (i := 3) rfl) (D1 hD (i := 3) rfl) hN hl.1 rfl (Nat.le_of_ble_eq_true rfl) dX4_init_55 ⟨Nat.le_of_ble_eq_true rfl, Nat.le_of_ble_eq_true rfl⟩) hP hD hS hA (fun d1 H locs hP hD hS => ?_)
    have hP : va_P D vwCl [(q, .inr (4, [.ref n_1, .ref n_2, .int 1000, .int 0])), (n_1, rC rI), (n_2, .inl (kA 1, 4, .inr (.inr (.inr (.inr (fun _ => none)))))), (n_4, gC (d1 0) z0), ((d1 0), wC kA z0)] _ := hP
    have hD : va_D (va_A [(q, .inr (4, [.null, .null, .int 0, .int 0]))] s.heap.size) [(q, .inr (4, [.ref n_1, .ref n_2, .int 1000, .int 0])), (n_1, rC rI), (n_2, .inl (kA 1, 4, .inr (.inr (.inr (.inr (fun _ => none)))))), (n_4, gC (d1 0) z0), ((d1 0), wC kA z0)] := hD
    refine va_astq (f := (fun _ => none)) (vs := [.ref (d1 0), .int 0, .int 0, .int 0, .int 0, .int 0, .int 0, .int 0, .int 0, .int 0, .int 0, .int 0]) hx hb hK hP hD hS 2 1 3 0 rfl rfl rfl rfl (i := 0) (in_nI (j := 0) rfl (by omega) (by decide)) dX4_init_58 (fun H locs hP hD hS => ?_)
    have hP : va_P D vwCl [(q, .inr (4, [.ref n_1, .ref n_2, .int 1000, .int 0])), (n_1, rC rI), (n_2, .inl (kA 1, 4, .inr (.inr (.inr (.inr (va_up (fun _ => none) 0 (some n_4))))))), (n_4, gC (d1 0) z0), ((d1 0), wC kA z0)] _ := hP
    have hD : va_D (va_A [(q, .inr (4, [.null, .null, .int 0, .int 0]))] s.heap.size) [(q, .inr (4, [.ref n_1, .ref n_2, .int 1000, .int 0])), (n_1, rC rI), (n_2, .inl (kA 1, 4, .inr (.inr (.inr (.inr (va_up (fun _ => none) 0 (some n_4))))))), (n_4, gC (d1 0) z0), ((d1 0), wC kA z0)] := hD
    refine lv_iinc (v := 1) (lv' := [(1, .int 1), (0, .ref q)]) hx hb dX4_init_59 hl (k := 0) rfl (by first | rfl | decide) (by decide) rfl (fun ls hl => ?_)
    refine lv_goto (tgt := 37) hx hb dX4_init_62 (by decide) ?_
    refine lv_iload_n hx hb dX4_init_37 rfl (lv_at hl 0 rfl) ?_
    refine lv_aload_n hx hb dX4_init_38 rfl (lv_at hl 1 rfl) ?_
    refine va_get (ci := 4) (v := .ref n_2) (C := RX4) (T := TX4) (N := 4) hx hb hts inX4 hown hK hP 0 rfl rfl 1 (by decide) (hts _ q_115) (fun _ h9 => h9) rfl dX4_init_39 ?_
    refine va_alen (v := 4) hx hb hK hP _ 1 (show _ from (rfl : [(q, .inr (4, [.ref n_1, .ref n_2, .int 1000, .int 0])), (n_1, rC rI), (n_2, .inl (kA 1, 4, .inr (.inr (.inr (.inr (va_up (fun _ => none) 0 (some n_4))))))), (n_4, gC (d1 0) z0), ((d1 0), wC kA z0)][2]? = some (n_2, .inl (kA 1, 4, .inr (.inr (.inr (.inr (va_up (fun _ => none) 0 (some n_4))))))))) rfl rfl dX4_init_42 ?_
    refine lv_icmp_ge (tgt := 65) hx hb dX4_init_43 (by decide) (fun c_5 => ?_) (fun c_5 => ?_)
    · exact absurd c_5 (by decide)
    · skip
      replace c_5 := nge_l c_5
      refine lv_aload_n hx hb dX4_init_46 rfl (lv_at hl 1 rfl) ?_
      refine va_get (ci := 4) (v := .ref n_2) (C := RX4) (T := TX4) (N := 4) hx hb hts inX4 hown hK hP 0 rfl rfl 1 (by decide) (hts _ q_115) (fun _ h9 => h9) rfl dX4_init_47 ?_
      refine lv_iload_n hx hb dX4_init_50 rfl (lv_at hl 0 rfl) ?_
      refine va_new (ci := 0) (fs := [.null, .int 0, .int 0, .int 0, .int 0, .int 0, .int 0, .int 0, .int 0, .int 0, .int 0, .int 0]) (C := RX0) (T := TX0) (N := 12) hx hb hts inX0 tyX0 tyX0_ok hown (hts _ q_61) (hts _ q_63) (hts _ q_4) hK hP hD hS hA rfl (fun j hj => by rcases (show j = 0 ∨ j = 1 ∨ j = 2 ∨ j = 3 ∨ j = 4 ∨ j = 5 ∨ j = 6 ∨ j = 7 ∨ j = 8 ∨ j = 9 ∨ j = 10 ∨ j = 11 by omega) with rfl | rfl | rfl | rfl | rfl | rfl | rfl | rfl | rfl | rfl | rfl | rfl <;> rfl) (Nat.le_of_ble_eq_true rfl) (Nat.le_of_ble_eq_true rfl) dX4_init_51 (fun n_6 H hP hD hS => ?_)
      have hP : va_P D vwCl [(q, .inr (4, [.ref n_1, .ref n_2, .int 1000, .int 0])), (n_1, rC rI), (n_2, .inl (kA 1, 4, .inr (.inr (.inr (.inr (va_up (fun _ => none) 0 (some n_4))))))), (n_4, gC (d1 0) z0), ((d1 0), wC kA z0), (n_6, .inr (0, [.null, .int 0, .int 0, .int 0, .int 0, .int 0, .int 0, .int 0, .int 0, .int 0, .int 0, .int 0]))] _ := hP
      have hD : va_D (va_A [(q, .inr (4, [.null, .null, .int 0, .int 0]))] s.heap.size) [(q, .inr (4, [.ref n_1, .ref n_2, .int 1000, .int 0])), (n_1, rC rI), (n_2, .inl (kA 1, 4, .inr (.inr (.inr (.inr (va_up (fun _ => none) 0 (some n_4))))))), (n_4, gC (d1 0) z0), ((d1 0), wC kA z0), (n_6, .inr (0, [.null, .int 0, .int 0, .int 0, .int 0, .int 0, .int 0, .int 0, .int 0, .int 0, .int 0, .int 0]))] := hD
      refine lv_dup hx hb dX4_init_54 rfl ?_
      refine cs_n (ws := [(q, .inr (4, [.ref n_1, .ref n_2, .int 1000, .int 0])), (n_1, rC rI), (n_2, .inl (kA 1, 4, .inr (.inr (.inr (.inr (va_up (fun _ => none) 0 (some n_4))))))), (n_4, gC (d1 0) z0), ((d1 0), wC kA z0)]) (nrunN (rest := [.ref n_6, .int 1, .ref n_2]) (host := "ArmTolls") ⟨hx, hb, hml, hown, hts⟩ (m_X0_init l D kA n_6 H.size) rfl (by decide +kernel) q_65 q_4 q_66 hd_X0_init ⟨rfl, rfl⟩ ⟨Nat.le_of_ble_eq_true rfl, Nat.le_of_ble_eq_true rfl⟩ hK (ws := [(n_6, .inr (0, [.null, .int 0, .int 0, .int 0, .int 0, .int 0, .int 0, .int 0, .int 0, .int 0, .int 0, .int 0]))]) (P1 hP (i := 5) rfl) (D1 hD (i := 5) rfl) hN hl.1 rfl (Nat.le_of_ble_eq_true rfl) dX4_init_55 ⟨Nat.le_of_ble_eq_true rfl, Nat.le_of_ble_eq_true rfl⟩) hP hD hS hA (fun d2 H locs hP hD hS => ?_)
      have hP : va_P D vwCl [(q, .inr (4, [.ref n_1, .ref n_2, .int 1000, .int 0])), (n_1, rC rI), (n_2, .inl (kA 1, 4, .inr (.inr (.inr (.inr (va_up (fun _ => none) 0 (some n_4))))))), (n_4, gC (d1 0) z0), ((d1 0), wC kA z0), (n_6, gC (d2 0) z0), ((d2 0), wC kA z0)] _ := hP
      have hD : va_D (va_A [(q, .inr (4, [.null, .null, .int 0, .int 0]))] s.heap.size) [(q, .inr (4, [.ref n_1, .ref n_2, .int 1000, .int 0])), (n_1, rC rI), (n_2, .inl (kA 1, 4, .inr (.inr (.inr (.inr (va_up (fun _ => none) 0 (some n_4))))))), (n_4, gC (d1 0) z0), ((d1 0), wC kA z0), (n_6, gC (d2 0) z0), ((d2 0), wC kA z0)] := hD
      refine va_astq (f := (va_up (fun _ => none) 0 (some n_4))) (vs := [.ref (d2 0), .int 0, .int 0, .int 0, .int 0, .int 0, .int 0, .int 0, .int 0, .int 0, .int 0, .int 0]) hx hb hK hP hD hS 2 1 5 0 rfl rfl rfl rfl (i := 1) (in_nI (j := 1) rfl (by omega) (by decide)) dX4_init_58 (fun H locs hP hD hS => ?_)
      have hP : va_P D vwCl [(q, .inr (4, [.ref n_1, .ref n_2, .int 1000, .int 0])), (n_1, rC rI), (n_2, .inl (kA 1, 4, .inr (.inr (.inr (.inr (va_up (va_up (fun _ => none) 0 (some n_4)) 1 (some n_6))))))), (n_4, gC (d1 0) z0), ((d1 0), wC kA z0), (n_6, gC (d2 0) z0), ((d2 0), wC kA z0)] _ := hP
      have hD : va_D (va_A [(q, .inr (4, [.null, .null, .int 0, .int 0]))] s.heap.size) [(q, .inr (4, [.ref n_1, .ref n_2, .int 1000, .int 0])), (n_1, rC rI), (n_2, .inl (kA 1, 4, .inr (.inr (.inr (.inr (va_up (va_up (fun _ => none) 0 (some n_4)) 1 (some n_6))))))), (n_4, gC (d1 0) z0), ((d1 0), wC kA z0), (n_6, gC (d2 0) z0), ((d2 0), wC kA z0)] := hD
      refine lv_iinc (v := 2) (lv' := [(1, .int 2), (0, .ref q)]) hx hb dX4_init_59 hl (k := 0) rfl (by first | rfl | decide) (by decide) rfl (fun ls hl => ?_)
      refine lv_goto (tgt := 37) hx hb dX4_init_62 (by decide) ?_
      refine lv_iload_n hx hb dX4_init_37 rfl (lv_at hl 0 rfl) ?_
      refine lv_aload_n hx hb dX4_init_38 rfl (lv_at hl 1 rfl) ?_
      refine va_get (ci := 4) (v := .ref n_2) (C := RX4) (T := TX4) (N := 4) hx hb hts inX4 hown hK hP 0 rfl rfl 1 (by decide) (hts _ q_115) (fun _ h9 => h9) rfl dX4_init_39 ?_
      refine va_alen (v := 4) hx hb hK hP _ 1 (show _ from (rfl : [(q, .inr (4, [.ref n_1, .ref n_2, .int 1000, .int 0])), (n_1, rC rI), (n_2, .inl (kA 1, 4, .inr (.inr (.inr (.inr (va_up (va_up (fun _ => none) 0 (some n_4)) 1 (some n_6))))))), (n_4, gC (d1 0) z0), ((d1 0), wC kA z0), (n_6, gC (d2 0) z0), ((d2 0), wC kA z0)][2]? = some (n_2, .inl (kA 1, 4, .inr (.inr (.inr (.inr (va_up (va_up (fun _ => none) 0 (some n_4)) 1 (some n_6))))))))) rfl rfl dX4_init_42 ?_
      refine lv_icmp_ge (tgt := 65) hx hb dX4_init_43 (by decide) (fun c_7 => ?_) (fun c_7 => ?_)
      · exact absurd c_7 (by decide)
      · skip
        replace c_7 := nge_l c_7
        refine lv_aload_n hx hb dX4_init_46 rfl (lv_at hl 1 rfl) ?_
        refine va_get (ci := 4) (v := .ref n_2) (C := RX4) (T := TX4) (N := 4) hx hb hts inX4 hown hK hP 0 rfl rfl 1 (by decide) (hts _ q_115) (fun _ h9 => h9) rfl dX4_init_47 ?_
        refine lv_iload_n hx hb dX4_init_50 rfl (lv_at hl 0 rfl) ?_
        refine va_new (ci := 0) (fs := [.null, .int 0, .int 0, .int 0, .int 0, .int 0, .int 0, .int 0, .int 0, .int 0, .int 0, .int 0]) (C := RX0) (T := TX0) (N := 12) hx hb hts inX0 tyX0 tyX0_ok hown (hts _ q_61) (hts _ q_63) (hts _ q_4) hK hP hD hS hA rfl (fun j hj => by rcases (show j = 0 ∨ j = 1 ∨ j = 2 ∨ j = 3 ∨ j = 4 ∨ j = 5 ∨ j = 6 ∨ j = 7 ∨ j = 8 ∨ j = 9 ∨ j = 10 ∨ j = 11 by omega) with rfl | rfl | rfl | rfl | rfl | rfl | rfl | rfl | rfl | rfl | rfl | rfl <;> rfl) (Nat.le_of_ble_eq_true rfl) (Nat.le_of_ble_eq_true rfl) dX4_init_51 (fun n_8 H hP hD hS => ?_)
        have hP : va_P D vwCl [(q, .inr (4, [.ref n_1, .ref n_2, .int 1000, .int 0])), (n_1, rC rI), (n_2, .inl (kA 1, 4, .inr (.inr (.inr (.inr (va_up (va_up (fun _ => none) 0 (some n_4)) 1 (some n_6))))))), (n_4, gC (d1 0) z0), ((d1 0), wC kA z0), (n_6, gC (d2 0) z0), ((d2 0), wC kA z0), (n_8, .inr (0, [.null, .int 0, .int 0, .int 0, .int 0, .int 0, .int 0, .int 0, .int 0, .int 0, .int 0, .int 0]))] _ := hP
        have hD : va_D (va_A [(q, .inr (4, [.null, .null, .int 0, .int 0]))] s.heap.size) [(q, .inr (4, [.ref n_1, .ref n_2, .int 1000, .int 0])), (n_1, rC rI), (n_2, .inl (kA 1, 4, .inr (.inr (.inr (.inr (va_up (va_up (fun _ => none) 0 (some n_4)) 1 (some n_6))))))), (n_4, gC (d1 0) z0), ((d1 0), wC kA z0), (n_6, gC (d2 0) z0), ((d2 0), wC kA z0), (n_8, .inr (0, [.null, .int 0, .int 0, .int 0, .int 0, .int 0, .int 0, .int 0, .int 0, .int 0, .int 0, .int 0]))] := hD
        refine lv_dup hx hb dX4_init_54 rfl ?_
        refine cs_n (ws := [(q, .inr (4, [.ref n_1, .ref n_2, .int 1000, .int 0])), (n_1, rC rI), (n_2, .inl (kA 1, 4, .inr (.inr (.inr (.inr (va_up (va_up (fun _ => none) 0 (some n_4)) 1 (some n_6))))))), (n_4, gC (d1 0) z0), ((d1 0), wC kA z0), (n_6, gC (d2 0) z0), ((d2 0), wC kA z0)]) (nrunN (rest := [.ref n_8, .int 2, .ref n_2]) (host := "ArmTolls") ⟨hx, hb, hml, hown, hts⟩ (m_X0_init l D kA n_8 H.size) rfl (by decide +kernel) q_65 q_4 q_66 hd_X0_init ⟨rfl, rfl⟩ ⟨Nat.le_of_ble_eq_true rfl, Nat.le_of_ble_eq_true rfl⟩ hK (ws := [(n_8, .inr (0, [.null, .int 0, .int 0, .int 0, .int 0, .int 0, .int 0, .int 0, .int 0, .int 0, .int 0, .int 0]))]) (P1 hP (i := 7) rfl) (D1 hD (i := 7) rfl) hN hl.1 rfl (Nat.le_of_ble_eq_true rfl) dX4_init_55 ⟨Nat.le_of_ble_eq_true rfl, Nat.le_of_ble_eq_true rfl⟩) hP hD hS hA (fun d3 H locs hP hD hS => ?_)
        have hP : va_P D vwCl [(q, .inr (4, [.ref n_1, .ref n_2, .int 1000, .int 0])), (n_1, rC rI), (n_2, .inl (kA 1, 4, .inr (.inr (.inr (.inr (va_up (va_up (fun _ => none) 0 (some n_4)) 1 (some n_6))))))), (n_4, gC (d1 0) z0), ((d1 0), wC kA z0), (n_6, gC (d2 0) z0), ((d2 0), wC kA z0), (n_8, gC (d3 0) z0), ((d3 0), wC kA z0)] _ := hP
        have hD : va_D (va_A [(q, .inr (4, [.null, .null, .int 0, .int 0]))] s.heap.size) [(q, .inr (4, [.ref n_1, .ref n_2, .int 1000, .int 0])), (n_1, rC rI), (n_2, .inl (kA 1, 4, .inr (.inr (.inr (.inr (va_up (va_up (fun _ => none) 0 (some n_4)) 1 (some n_6))))))), (n_4, gC (d1 0) z0), ((d1 0), wC kA z0), (n_6, gC (d2 0) z0), ((d2 0), wC kA z0), (n_8, gC (d3 0) z0), ((d3 0), wC kA z0)] := hD
        refine va_astq (f := (va_up (va_up (fun _ => none) 0 (some n_4)) 1 (some n_6))) (vs := [.ref (d3 0), .int 0, .int 0, .int 0, .int 0, .int 0, .int 0, .int 0, .int 0, .int 0, .int 0, .int 0]) hx hb hK hP hD hS 2 1 7 0 rfl rfl rfl rfl (i := 2) (in_nI (j := 2) rfl (by omega) (by decide)) dX4_init_58 (fun H locs hP hD hS => ?_)
        have hP : va_P D vwCl [(q, .inr (4, [.ref n_1, .ref n_2, .int 1000, .int 0])), (n_1, rC rI), (n_2, .inl (kA 1, 4, .inr (.inr (.inr (.inr (va_up (va_up (va_up (fun _ => none) 0 (some n_4)) 1 (some n_6)) 2 (some n_8))))))), (n_4, gC (d1 0) z0), ((d1 0), wC kA z0), (n_6, gC (d2 0) z0), ((d2 0), wC kA z0), (n_8, gC (d3 0) z0), ((d3 0), wC kA z0)] _ := hP
        have hD : va_D (va_A [(q, .inr (4, [.null, .null, .int 0, .int 0]))] s.heap.size) [(q, .inr (4, [.ref n_1, .ref n_2, .int 1000, .int 0])), (n_1, rC rI), (n_2, .inl (kA 1, 4, .inr (.inr (.inr (.inr (va_up (va_up (va_up (fun _ => none) 0 (some n_4)) 1 (some n_6)) 2 (some n_8))))))), (n_4, gC (d1 0) z0), ((d1 0), wC kA z0), (n_6, gC (d2 0) z0), ((d2 0), wC kA z0), (n_8, gC (d3 0) z0), ((d3 0), wC kA z0)] := hD
        refine lv_iinc (v := 3) (lv' := [(1, .int 3), (0, .ref q)]) hx hb dX4_init_59 hl (k := 0) rfl (by first | rfl | decide) (by decide) rfl (fun ls hl => ?_)
        refine lv_goto (tgt := 37) hx hb dX4_init_62 (by decide) ?_
        refine lv_iload_n hx hb dX4_init_37 rfl (lv_at hl 0 rfl) ?_
        refine lv_aload_n hx hb dX4_init_38 rfl (lv_at hl 1 rfl) ?_
        refine va_get (ci := 4) (v := .ref n_2) (C := RX4) (T := TX4) (N := 4) hx hb hts inX4 hown hK hP 0 rfl rfl 1 (by decide) (hts _ q_115) (fun _ h9 => h9) rfl dX4_init_39 ?_
        refine va_alen (v := 4) hx hb hK hP _ 1 (show _ from (rfl : [(q, .inr (4, [.ref n_1, .ref n_2, .int 1000, .int 0])), (n_1, rC rI), (n_2, .inl (kA 1, 4, .inr (.inr (.inr (.inr (va_up (va_up (va_up (fun _ => none) 0 (some n_4)) 1 (some n_6)) 2 (some n_8))))))), (n_4, gC (d1 0) z0), ((d1 0), wC kA z0), (n_6, gC (d2 0) z0), ((d2 0), wC kA z0), (n_8, gC (d3 0) z0), ((d3 0), wC kA z0)][2]? = some (n_2, .inl (kA 1, 4, .inr (.inr (.inr (.inr (va_up (va_up (va_up (fun _ => none) 0 (some n_4)) 1 (some n_6)) 2 (some n_8))))))))) rfl rfl dX4_init_42 ?_
        refine lv_icmp_ge (tgt := 65) hx hb dX4_init_43 (by decide) (fun c_9 => ?_) (fun c_9 => ?_)
        · exact absurd c_9 (by decide)
        · skip
          replace c_9 := nge_l c_9
          refine lv_aload_n hx hb dX4_init_46 rfl (lv_at hl 1 rfl) ?_
          refine va_get (ci := 4) (v := .ref n_2) (C := RX4) (T := TX4) (N := 4) hx hb hts inX4 hown hK hP 0 rfl rfl 1 (by decide) (hts _ q_115) (fun _ h9 => h9) rfl dX4_init_47 ?_
          refine lv_iload_n hx hb dX4_init_50 rfl (lv_at hl 0 rfl) ?_
          refine va_new (ci := 0) (fs := [.null, .int 0, .int 0, .int 0, .int 0, .int 0, .int 0, .int 0, .int 0, .int 0, .int 0, .int 0]) (C := RX0) (T := TX0) (N := 12) hx hb hts inX0 tyX0 tyX0_ok hown (hts _ q_61) (hts _ q_63) (hts _ q_4) hK hP hD hS hA rfl (fun j hj => by rcases (show j = 0 ∨ j = 1 ∨ j = 2 ∨ j = 3 ∨ j = 4 ∨ j = 5 ∨ j = 6 ∨ j = 7 ∨ j = 8 ∨ j = 9 ∨ j = 10 ∨ j = 11 by omega) with rfl | rfl | rfl | rfl | rfl | rfl | rfl | rfl | rfl | rfl | rfl | rfl <;> rfl) (Nat.le_of_ble_eq_true rfl) (Nat.le_of_ble_eq_true rfl) dX4_init_51 (fun n_10 H hP hD hS => ?_)
          have hP : va_P D vwCl [(q, .inr (4, [.ref n_1, .ref n_2, .int 1000, .int 0])), (n_1, rC rI), (n_2, .inl (kA 1, 4, .inr (.inr (.inr (.inr (va_up (va_up (va_up (fun _ => none) 0 (some n_4)) 1 (some n_6)) 2 (some n_8))))))), (n_4, gC (d1 0) z0), ((d1 0), wC kA z0), (n_6, gC (d2 0) z0), ((d2 0), wC kA z0), (n_8, gC (d3 0) z0), ((d3 0), wC kA z0), (n_10, .inr (0, [.null, .int 0, .int 0, .int 0, .int 0, .int 0, .int 0, .int 0, .int 0, .int 0, .int 0, .int 0]))] _ := hP
          have hD : va_D (va_A [(q, .inr (4, [.null, .null, .int 0, .int 0]))] s.heap.size) [(q, .inr (4, [.ref n_1, .ref n_2, .int 1000, .int 0])), (n_1, rC rI), (n_2, .inl (kA 1, 4, .inr (.inr (.inr (.inr (va_up (va_up (va_up (fun _ => none) 0 (some n_4)) 1 (some n_6)) 2 (some n_8))))))), (n_4, gC (d1 0) z0), ((d1 0), wC kA z0), (n_6, gC (d2 0) z0), ((d2 0), wC kA z0), (n_8, gC (d3 0) z0), ((d3 0), wC kA z0), (n_10, .inr (0, [.null, .int 0, .int 0, .int 0, .int 0, .int 0, .int 0, .int 0, .int 0, .int 0, .int 0, .int 0]))] := hD
          refine lv_dup hx hb dX4_init_54 rfl ?_
          refine cs_n (ws := [(q, .inr (4, [.ref n_1, .ref n_2, .int 1000, .int 0])), (n_1, rC rI), (n_2, .inl (kA 1, 4, .inr (.inr (.inr (.inr (va_up (va_up (va_up (fun _ => none) 0 (some n_4)) 1 (some n_6)) 2 (some n_8))))))), (n_4, gC (d1 0) z0), ((d1 0), wC kA z0), (n_6, gC (d2 0) z0), ((d2 0), wC kA z0), (n_8, gC (d3 0) z0), ((d3 0), wC kA z0)]) (nrunN (rest := [.ref n_10, .int 3, .ref n_2]) (host := "ArmTolls") ⟨hx, hb, hml, hown, hts⟩ (m_X0_init l D kA n_10 H.size) rfl (by decide +kernel) q_65 q_4 q_66 hd_X0_init ⟨rfl, rfl⟩ ⟨Nat.le_of_ble_eq_true rfl, Nat.le_of_ble_eq_true rfl⟩ hK (ws := [(n_10, .inr (0, [.null, .int 0, .int 0, .int 0, .int 0, .int 0, .int 0, .int 0, .int 0, .int 0, .int 0, .int 0]))]) (P1 hP (i := 9) rfl) (D1 hD (i := 9) rfl) hN hl.1 rfl (Nat.le_of_ble_eq_true rfl) dX4_init_55 ⟨Nat.le_of_ble_eq_true rfl, Nat.le_of_ble_eq_true rfl⟩) hP hD hS hA (fun d4 H locs hP hD hS => ?_)
          have hP : va_P D vwCl [(q, .inr (4, [.ref n_1, .ref n_2, .int 1000, .int 0])), (n_1, rC rI), (n_2, .inl (kA 1, 4, .inr (.inr (.inr (.inr (va_up (va_up (va_up (fun _ => none) 0 (some n_4)) 1 (some n_6)) 2 (some n_8))))))), (n_4, gC (d1 0) z0), ((d1 0), wC kA z0), (n_6, gC (d2 0) z0), ((d2 0), wC kA z0), (n_8, gC (d3 0) z0), ((d3 0), wC kA z0), (n_10, gC (d4 0) z0), ((d4 0), wC kA z0)] _ := hP
          have hD : va_D (va_A [(q, .inr (4, [.null, .null, .int 0, .int 0]))] s.heap.size) [(q, .inr (4, [.ref n_1, .ref n_2, .int 1000, .int 0])), (n_1, rC rI), (n_2, .inl (kA 1, 4, .inr (.inr (.inr (.inr (va_up (va_up (va_up (fun _ => none) 0 (some n_4)) 1 (some n_6)) 2 (some n_8))))))), (n_4, gC (d1 0) z0), ((d1 0), wC kA z0), (n_6, gC (d2 0) z0), ((d2 0), wC kA z0), (n_8, gC (d3 0) z0), ((d3 0), wC kA z0), (n_10, gC (d4 0) z0), ((d4 0), wC kA z0)] := hD
          refine va_astq (f := (va_up (va_up (va_up (fun _ => none) 0 (some n_4)) 1 (some n_6)) 2 (some n_8))) (vs := [.ref (d4 0), .int 0, .int 0, .int 0, .int 0, .int 0, .int 0, .int 0, .int 0, .int 0, .int 0, .int 0]) hx hb hK hP hD hS 2 1 9 0 rfl rfl rfl rfl (i := 3) (in_nI (j := 3) rfl (by omega) (by decide)) dX4_init_58 (fun H locs hP hD hS => ?_)
          have hP : va_P D vwCl [(q, .inr (4, [.ref n_1, .ref n_2, .int 1000, .int 0])), (n_1, rC rI), (n_2, .inl (kA 1, 4, .inr (.inr (.inr (.inr (va_up (va_up (va_up (va_up (fun _ => none) 0 (some n_4)) 1 (some n_6)) 2 (some n_8)) 3 (some n_10))))))), (n_4, gC (d1 0) z0), ((d1 0), wC kA z0), (n_6, gC (d2 0) z0), ((d2 0), wC kA z0), (n_8, gC (d3 0) z0), ((d3 0), wC kA z0), (n_10, gC (d4 0) z0), ((d4 0), wC kA z0)] _ := hP
          have hD : va_D (va_A [(q, .inr (4, [.null, .null, .int 0, .int 0]))] s.heap.size) [(q, .inr (4, [.ref n_1, .ref n_2, .int 1000, .int 0])), (n_1, rC rI), (n_2, .inl (kA 1, 4, .inr (.inr (.inr (.inr (va_up (va_up (va_up (va_up (fun _ => none) 0 (some n_4)) 1 (some n_6)) 2 (some n_8)) 3 (some n_10))))))), (n_4, gC (d1 0) z0), ((d1 0), wC kA z0), (n_6, gC (d2 0) z0), ((d2 0), wC kA z0), (n_8, gC (d3 0) z0), ((d3 0), wC kA z0), (n_10, gC (d4 0) z0), ((d4 0), wC kA z0)] := hD
          refine lv_iinc (v := 4) (lv' := [(1, .int 4), (0, .ref q)]) hx hb dX4_init_59 hl (k := 0) rfl (by first | rfl | decide) (by decide) rfl (fun ls hl => ?_)
          refine lv_goto (tgt := 37) hx hb dX4_init_62 (by decide) ?_
          refine lv_iload_n hx hb dX4_init_37 rfl (lv_at hl 0 rfl) ?_
          refine lv_aload_n hx hb dX4_init_38 rfl (lv_at hl 1 rfl) ?_
          refine va_get (ci := 4) (v := .ref n_2) (C := RX4) (T := TX4) (N := 4) hx hb hts inX4 hown hK hP 0 rfl rfl 1 (by decide) (hts _ q_115) (fun _ h9 => h9) rfl dX4_init_39 ?_
          refine va_alen (v := 4) hx hb hK hP _ 1 (show _ from (rfl : [(q, .inr (4, [.ref n_1, .ref n_2, .int 1000, .int 0])), (n_1, rC rI), (n_2, .inl (kA 1, 4, .inr (.inr (.inr (.inr (va_up (va_up (va_up (va_up (fun _ => none) 0 (some n_4)) 1 (some n_6)) 2 (some n_8)) 3 (some n_10))))))), (n_4, gC (d1 0) z0), ((d1 0), wC kA z0), (n_6, gC (d2 0) z0), ((d2 0), wC kA z0), (n_8, gC (d3 0) z0), ((d3 0), wC kA z0), (n_10, gC (d4 0) z0), ((d4 0), wC kA z0)][2]? = some (n_2, .inl (kA 1, 4, .inr (.inr (.inr (.inr (va_up (va_up (va_up (va_up (fun _ => none) 0 (some n_4)) 1 (some n_6)) 2 (some n_8)) 3 (some n_10))))))))) rfl rfl dX4_init_42 ?_
          refine lv_icmp_ge (tgt := 65) hx hb dX4_init_43 (by decide) (fun c_11 => ?_) (fun c_11 => ?_)
          · skip
            replace c_11 := ge_n c_11
            have hP := va_P.refs (g := fun j => some ((fun i => if i = 0 then n_1 else if i = 1 then n_2 else if i = 2 then n_4 else if i = 3 then (d1 0) else if i = 4 then n_6 else if i = 5 then (d2 0) else if i = 6 then n_8 else if i = 7 then (d3 0) else if i = 8 then n_10 else (d4 0)) (2 + 2 * j))) hP (k := 2) rfl (fun j hj => by rcases (show j = 0 ∨ j = 1 ∨ j = 2 ∨ j = 3 by omega) with rfl | rfl | rfl | rfl <;> rfl)
            exact end_nv (d := fun i => if i = 0 then n_1 else if i = 1 then n_2 else if i = 2 then n_4 else if i = 3 then (d1 0) else if i = 4 then n_6 else if i = 5 then (d2 0) else if i = 6 then n_8 else if i = 7 then (d3 0) else if i = 8 then n_10 else (d4 0)) hx hb hrt hlk hP (va_D.congr (by rfl) hD) hS (fun h => h) (fun h => va_D.congr (by rfl) h) dX4_init_65
          · exact absurd c_11 (by decide)

