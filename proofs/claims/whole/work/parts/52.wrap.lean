/-! the law's wrappers: the class's calls, their exceptions caught -/
def oO (kA : Nat → Nat) (f : Nat → Int64) : va_E := .inl (kA 3, 1, .inr (.inl f))
def LW (s : State) : Prop := va_Nc eA eI s ∧ va_Nc eS eA s ∧ va_Nc eS eI s
def Pw (av : List Value) (D : va_G) (tys : List (ClassId × FieldType)) (ws : va_W) (A : Nat → Prop) : Array Value → State → Prop := fun v U => Pz av D tys ws v U ∧ XW A U U.heap ∧ LW U
theorem LW.moved {u U : State} (hvm : u.vm.Alike U.vm) (h : LW u) : LW U := ⟨va_Nc.moved hvm h.1, va_Nc.moved hvm h.2.1, va_Nc.moved hvm h.2.2⟩
section WB
variable {p : Program} {l : Launch} {e : Env} {R : Room} {s : State} {m : MethodId} {args : Array Value} {below : List Frame} {meth : Method} {c : Code} {H : Heap} {locs : List Loc} {cells slots : Nat} {Q : State → Prop}
variable {pc : Nat} {ls : Array Slot} {rest st0 : List Value} {a : Array Value} {A0 A : Nat → Prop} {H0 : Heap} {D : va_G} {tys : List (ClassId × FieldType)} {cc : ByteArray} {ws : va_W}
theorem Pw.blind {av : List Value} : FrameBlind (Pw av D tys ws A) := fun a U g mk q => ⟨Pz.blind a U g mk q.1, XW.warm (s := U) (U := U.calling g mk a) (State.WarmedH.refl U) q.2.1, LW.moved (u := U) (U := U.calling g mk a) (Vm.Alike.refl U.vm) q.2.2⟩
theorem Pw.pre {av : List Value} {A1 : Nat → Prop} (hP : va_P D vwCl ws H) (hK : va_K D vwCl tys s) (hD : va_D A1 ws) (hX : XW A s H) (hL : LW s) : ∀ U : State, U.heap = H → s.WarmedH U.vm → Pw av D tys ws A av.toArray U :=
  fun U hU hW => ⟨Pz.pre hP hK hD U hU hW, by rw [hU]; exact hX.warm hW, hL.moved hW.alike⟩
theorem va_D.lf {a b : va_W} (h : va_D A (a ++ b)) : va_D A a := by
  have hi : ∀ {k : Nat} {q : Nat × va_E}, a[k]? = some q → (a ++ b)[k]? = some q := fun {k q} h => by rw [List.getElem?_append_left (List.getElem?_eq_some_iff.mp h).1]; exact h
  exact ⟨fun i j x y hx hy hxy => h.1 i j x y (hi hx) (hi hy) hxy, fun k q hq => h.2 k q (hi hq)⟩
theorem va_D.rt {a b : va_W} (h : va_D A (a ++ b)) : va_D A b := by
  have hi : ∀ {k : Nat} {q : Nat × va_E}, b[k]? = some q → (a ++ b)[a.length + k]? = some q := fun {k q} h => by rw [List.getElem?_append_right (Nat.le_add_right _ _), Nat.add_sub_cancel_left]; exact h
  exact ⟨fun i j x y hx hy hxy => by have := h.1 _ _ x y (hi hx) (hi hy) hxy; omega, fun k q hq => h.2 _ q (hi hq)⟩
theorem va_D.ne {a b : va_W} (h : va_D A (a ++ b)) {i j : Nat} {x y : Nat × va_E} (hx : a[i]? = some x) (hy : b[j]? = some y) : x.1 ≠ y.1 := fun hxy => by
  have hl := (List.getElem?_eq_some_iff.mp hx).1
  have := h.1 i (a.length + j) x y (by rw [List.getElem?_append_left hl]; exact hx) (by rw [List.getElem?_append_right (Nat.le_add_right _ _), Nat.add_sub_cancel_left]; exact hy) hxy
  omega
/-- the second part of a world was called, the first stays -/
theorem jR {cl : List vw_C} {a b b' : va_W} {H1 : Heap} (hP : va_P D cl (a ++ b) H) (hD : va_D A0 (a ++ b)) (hk : ∀ q : Nat, q < H.size → ¬ Aw b q → H1[q]? = H[q]?) (hP1 : va_P D cl b' H1) (hf : b'.map (fun q => q.1) = b.map (fun q => q.1)) : va_P D cl (a ++ b') H1 ∧ va_D A0 (a ++ b') := by
  refine ⟨va_P.app (fun k q hq => (hP.l k q hq).kept (hk q.1 ((hP.l k q hq).lt) (fun ⟨j, e9, hj⟩ => hD.ne hq hj rfl))) hP1, hD.congr (by rw [List.map_append, List.map_append, hf])⟩
theorem jL {cl : List vw_C} {a a' b : va_W} {H1 : Heap} (hP : va_P D cl (a ++ b) H) (hD : va_D A0 (a ++ b)) (hk : ∀ q : Nat, q < H.size → ¬ Aw a q → H1[q]? = H[q]?) (hP1 : va_P D cl a' H1) (hf : a'.map (fun q => q.1) = a.map (fun q => q.1)) : va_P D cl (a' ++ b) H1 ∧ va_D A0 (a' ++ b) := by
  refine ⟨va_P.app hP1 (fun k q hq => (hP.r k q hq).kept (hk q.1 ((hP.r k q hq).lt) (fun ⟨j, e9, hj⟩ => hD.ne hj hq rfl))), hD.congr (by rw [List.map_append, List.map_append, hf])⟩
theorem Aw.lf {a b : va_W} : ∀ q, Aw a q → Aw (a ++ b) q := fun q ⟨k, e9, h⟩ => ⟨k, e9, by rw [List.getElem?_append_left (List.getElem?_eq_some_iff.mp h).1]; exact h⟩
theorem Aw.rt {a b : va_W} : ∀ q, Aw b q → Aw (a ++ b) q := fun q ⟨k, e9, h⟩ => ⟨a.length + k, e9, by rw [List.getElem?_append_right (Nat.le_add_right _ _), Nat.add_sub_cancel_left]; exact h⟩
theorem MetW {y : MethodName} {maxL : Nat} {ret : Option FieldType} {rm : Room} {av : List Value} {hh : List (Nat × Nat × Nat × Nat)} {Qc : Array Value → State → Outcome → State → Prop} {free : Addr → Prop} {mc ms : Nat} (hy : plainName y.cls = true) (hlen : (lg_sl av).length ≤ maxL)
    (body : ∀ (p : Program) (e : Env) (s : State) (m : MethodId) (below : List Frame) (meth : Method) (c : Code) (ls : Array Slot), p.tables.exec = Jvm.exec → c.code = cc → meth.sig.returnType = ret → (∀ w ∈ AW, w.before av.toArray s = true) → s.vm.findClass y.cls = some m.cls → c.maxLocals = maxL → meth.locks = false → va_P D vwCl ws s.heap → va_K D vwCl tys s → va_D (Aw ws) ws → va_S (Aw ws) s.heap s.heap [] → lv_has ls maxL (lv_args 0 av) → XW A s s.heap → LW s → c.exceptionTable.toList = tableOf hh →
      W p l e rm s m av.toArray below meth c s.heap [] 0 0 (MQ below Qc av.toArray s mc ms free) (F0 m 0 ls [])) : Met l y (Cond.codeWith y cc maxL ret hh :: AW) rm (Pw av D tys ws A) Qc mc ms free := by
  refine MetFree.of_bodyS (code := cc) (maxLocals := maxL) (ret := ret) hy ?_ ?_
  · intro args s m h hn
    obtain ⟨m9, meth, c, hn9, h1, h2, h3, h4, -, h5, h6, -⟩ := Cond.codeWith_spec (atoms_spec (ws := Cond.codeWith y cc maxL ret hh :: AW) h _ List.mem_cons_self)
    cases hn.symm.trans hn9
    exact ⟨meth, c, h1, h2, h3, h4, h5, h6⟩
  · intro p e s m args below meth c s₁ B hml hv _
    obtain ⟨⟨rfl, hP, hK, hD⟩, hX, hL⟩ := hv
    have hh0 : s₁.heap = s.heap := by rw [B.state]; rfl
    have hts := atoms_spec (ws := Cond.codeWith y cc maxL ret hh :: AW) B.pre
    have hl := lv_entry av (n := maxL) hlen
    have K := body p e s m below meth c _ B.exec B.bytes B.returns (fun w h => hts w (List.mem_cons_of_mem _ h)) (findClass_of_methodNamed B.named) hml B.notSynchronized hP hK ⟨hD.1, fun k q hk => ⟨k, q.2, hk⟩⟩ va_S.rf hl hX hL (vx_table (x := y) B (hts _ List.mem_cons_self))
    have K2 : W p l e rm s m av.toArray below meth c s.heap [] 0 0 (MQ below Qc av.toArray s mc ms free) (entryFrame m av.toArray maxL) := by rw [lg_entry_eq]; exact K
    obtain ⟨t, a1, o, b1, b2, b3⟩ := K2 s₁ hh0 (Stand.of_body B)
    exact ⟨t, o, a1, b1, b2, ⟨b3.1, b3.2⟩⟩
theorem cs_xw {T : Int32} {v : Option Value} {L : List String} {wc wc' wcx : va_W} (hr : vx_Run p l e R s m args below meth c H locs 0 0 1 6 (F0 m pc ls st0) rest (xQ T v D wc wc' a) (xX T L D wc wcx) (Aw wc)) (hS : va_S A0 H0 H locs) (hA : ∀ q, Aw wc q → A0 q)
    (kk : T = 0 → ∀ (H1 : Heap) (locs1 : List Loc), va_P D vwCl wc' H1 → (∀ q : Nat, q < H.size → ¬ Aw wc q → H1[q]? = H[q]?) → va_S A0 H0 H1 locs1 → W p l e R s m args below meth c H1 locs1 1 6 Q (F0 m (pc + 3) ls (v.toList ++ rest)))
    (kx : T ≠ 0 → ∀ (H1 : Heap) (locs1 : List Loc) (q9 : Addr) (ce : Cell), va_P D vwCl wcx H1 → (∀ q : Nat, q < H.size → ¬ Aw wc q → H1[q]? = H[q]?) → va_S A0 H0 H1 locs1 → H1[q9]? = some ce → ce.vm = .none → s.vm.findClass (xE L T) = some ce.cls → vx_W p l e R s m args below meth c H1 locs1 1 6 Q (F0 m pc ls rest) q9) : W p l e R s m args below meth c H locs 0 0 Q (F0 m pc ls st0) := by
  intro T0 hT0 X
  rcases hr T0 hT0 X with ⟨v9, st₀, t, T', L9, h0, X', hL, e1, e2, ⟨hz, hv, hp, hF⟩, st⟩ | ⟨q, st₀, t, T', L9, E, ce, h0, X', hL, e1, e2, ⟨hz, hE, hp, hF⟩, hce, hcv, hcl, st⟩
  · cases hv
    obtain ⟨k1, k2, k3⟩ := vx_keep h0 e1 hS (fun q _ h => hA q h) (fun q h => hA q h) hL hF
    obtain ⟨t2, a1, b1⟩ := kk hz T'.heap (locs ++ L9) (by rw [e1]; exact hp) k2 k3 T' rfl X'
    exact ⟨t2, st t2 a1, b1⟩
  · obtain ⟨k1, k2, k3⟩ := vx_keep h0 e1 hS (fun q _ h => hA q h) (fun q h => hA q h) hL hF
    obtain ⟨t2, a1, b1⟩ := kx hz T'.heap (locs ++ L9) q ce (by rw [e1]; exact hp) k2 k3 (by rw [e1]; exact hce) hcv (by rw [← hE]; exact hcl) T' rfl X'
    exact ⟨t2, st.trans a1, b1⟩
theorem gAWw {y : MethodName} {bytes : ByteArray} {maxL : Nat} {ret : Option FieldType} {hh : List (Nat × Nat × Nat × Nat)} (h5 : Cond.codeWith y bytes maxL ret hh ∈ AW) : GoodIn AW (Cond.codeWith y bytes maxL ret hh :: AW) := fun w hw => by
  rcases List.mem_cons.mp hw with h | h
  · rw [h]; exact ⟨h5, aw_good h5⟩
  · exact ⟨h, aw_good h⟩
theorem wrunS {y : MethodName} {bytes : ByteArray} {maxL nL n idx mc ms : Nat} {ret : Option FieldType} {rm : Room} {own : String} {As : List Value} {hh : List (Nat × Nat × Nat × Nat)} {Qc : Array Value → State → Outcome → State → Prop} {free : Addr → Prop} {A1 : Nat → Prop} (S : CallFix p m c cc nL s args AW own) (hM : Met l y (Cond.codeWith y bytes maxL ret hh :: AW) rm (Pw As D tys ws A) Qc mc ms free)
    (h1 : Cond.methodLink own idx y ∈ AW) (h2 : Cond.static y ∈ AW) (h4 : Cond.initialized y.cls ∈ AW) (h5 : Cond.codeWith y bytes maxL ret hh ∈ AW)
    (hd : y.cls ≠ "java/lang/invoke/MethodHandle" ∧ y.cls ≠ "java/lang/invoke/VarHandle" ∧ (parseMethodDescriptor y.desc).map (fun d => d.parameters.length) = some n) (hrm : rm.cells = mc ∧ rm.slots = ms) (hR : rm.frames + 1 ≤ R.frames ∧ 8 + (maxL + 11) + rm.locals ≤ R.locals)
    (hK : va_K D vwCl tys s) (hP : va_P D vwCl ws H) (hD : va_D A1 ws) (hX : XW A s H) (hL : LW s)
    (hn : As.length = n) (hsize : ls.size = nL) (hst : st0 = As.reverse ++ rest) (hW : (rest.map fun v => v.category).sum ≤ 8) (hdg : decode cc pc = .ok (.invokestatic idx, 3)) (hf : cells + mc ≤ R.cells ∧ slots + ms ≤ R.slots) :
    va_Run p l e R s m args below meth c H locs cells slots mc ms (F0 m pc ls st0) rest (Qc As.toArray) free :=
  vx_runSW S hM ⟨⟨hrm.1, hrm.2, hR.1, hR.2, pay_in S.2.2.2.2 (gAWw h5), List.mem_cons_self⟩, S.2.2.2.2 _ h5, S.2.2.2.2 _ h4, ⟨hd.1, hd.2.1⟩, fun sig h => by
      have h9 := hd.2.2
      rw [h] at h9
      exact (Option.some.inj h9).symm, S.2.2.2.2 _ h1, S.2.2.2.2 _ h2⟩ ⟨Pw.blind, Pw.pre hP hK hD hX hL⟩ rfl hn hsize hst (lv_room hW) hdg hf
end WB
theorem r_eaT {z : Nat → Int32} {p : Int32} : eaT z p = 0 ∨ eaT z p = 1 ∨ eaT z p = 2 := by
  unfold eaT
  (repeat' split) <;> simp
theorem r_loT {p : Int32} {q : Int32} : loT p q = 0 ∨ loT p q = 1 ∨ loT p q = 2 := by
  unfold loT
  (repeat' split) <;> simp
theorem r_seT {p : Int32} {q : Int32} : seT p q = 0 ∨ seT p q = 1 ∨ seT p q = 2 := by
  unfold seT
  (repeat' split) <;> simp
theorem r_spT {z : Nat → Int32} {p : Int32} {q : Int32} : spT z p q = 0 ∨ spT z p q = 1 ∨ spT z p q = 2 ∨ spT z p q = 3 := by
  unfold spT
  (repeat' split) <;> simp
theorem r_goT {z : Nat → Int32} {p : Int32} {q : Int32} : goT z p q = 0 ∨ goT z p q = 1 ∨ goT z p q = 2 ∨ goT z p q = 3 := by
  unfold goT
  (repeat' split) <;> simp
theorem r_axT {p : Int32} : axT p = 0 ∨ axT p = 1 := by
  unfold axT
  (repeat' split) <;> simp
theorem r_geT {z : Nat → Int32} {p : Int32} : geT z p = 0 ∨ geT z p = 1 ∨ geT z p = 2 := by
  unfold geT
  (repeat' split) <;> simp
theorem r_meT {z : Nat → Int32} {p : Int32} {q : Int32} : meT z p q = 0 ∨ meT z p q = 1 ∨ meT z p q = 2 := by
  unfold meT
  (repeat' split) <;> simp
theorem r_axpT {p : Int32} {q : Int32} : axpT p q = 0 ∨ axpT p q = 1 ∨ axpT p q = 2 := by
  unfold axpT
  (repeat' split) <;> simp
theorem r_unT {p : Int32} : unT p = 0 ∨ unT p = 1 := by
  unfold unT
  (repeat' split) <;> simp
theorem r_ruX {X : Nat → Nat → Int32} {L : Nat} : ruX X L = 0 ∨ ruX X L = 1 := by
  unfold ruX
  (repeat' split) <;> simp
theorem r_apxT {p : Int32} {q : Int32} : apxT p q = 0 ∨ apxT p q = 1 ∨ apxT p q = 2 := by
  unfold apxT
  (repeat' split) <;> simp
theorem r_weT {p : Int32} {q : Int32} : weT p q = 0 ∨ weT p q = 1 := by
  unfold weT
  (repeat' split) <;> simp
theorem r_couT {p : Int32} : couT p = 0 ∨ couT p = 1 := by
  unfold couT
  (repeat' split) <;> simp
theorem r_stgT {p : Int32} : stgT p = 0 ∨ stgT p = 1 := by
  unfold stgT
  (repeat' split) <;> simp
theorem r_coT {p : Int32} {q : Int32} : coT p q = 0 ∨ coT p q = 1 ∨ coT p q = 2 := by
  unfold coT
  (repeat' split) <;> simp
theorem r_ihT {p : Int32} {q : Int32} : ihT p q = 0 ∨ ihT p q = 1 ∨ ihT p q = 2 := by
  unfold ihT
  (repeat' split) <;> simp
theorem hdw_earn : yL_earn.cls ≠ "java/lang/invoke/MethodHandle" ∧ yL_earn.cls ≠ "java/lang/invoke/VarHandle" ∧ (parseMethodDescriptor yL_earn.desc).map (fun d => d.parameters.length) = some 3 := by decide +kernel
set_option maxRecDepth 100000 in
set_option maxHeartbeats 4000000 in
theorem w_earn (l : Launch) (D : va_G) (kA : Nat → Nat) (ad : Nat → Nat) (X : Nat → Nat → Int32) (p0 : Int32) (w : Nat) (o : Nat) (f : Nat → Int64) (hsw : X 8 0 = nI w) (hsw6 : w < 6) (hnt : l.stackTraces = false) : Met l yL_earn (Cond.codeWith yL_earn cL_earn 4 (some .int) [(0, 9, 12, 13), (0, 9, 15, 15)] :: AW) ({ frames := 7, cells := 1, slots := 6, locals := 148 } : Room) (Pw [.ref (ad 0), .int p0, .ref o] D (TY kA) ([(o, oO kA f)] ++ cw kA ad X) (Aw (cw kA ad X))) (fQ (some (.int (eaT (X 0) p0))) D ([(o, oO kA f)] ++ cw kA ad X) ([(o, oO kA (if (eaT (X 0) p0) = 0 then vp_updL f 0 (((up3 (svX X w) 0 6 ((((svX X w) 0) 6) + p0)) 0) 6 : Int32).toInt64 else f))] ++ cw kA ad (if (eaT (X 0) p0) = 0 then (up3 (svX X w) 0 6 ((((svX X w) 0) 6) + p0)) else X))) 1 6 (Aw ([(o, oO kA f)] ++ cw kA ad X)) := by
  refine MetW (by decide +kernel) (Nat.le_of_ble_eq_true rfl) ?_
  intro p e s m below meth c ls hx hb hrt hts hown hml hlk hP hK hD hS hl hXW hLW hxt
  have hl : lv_has ls 4 [(0, .ref (ad 0)), (1, .int p0), (2, .ref o)] := hl
  refine lv_aload_n hx hb dL_earn_0 rfl (lv_at hl 2 rfl) ?_
  refine lv_iconst (v := 0) hx hb dL_earn_1 (by decide) ?_
  refine lv_aload_n hx hb dL_earn_2 rfl (lv_at hl 0 rfl) ?_
  refine lv_iload_n hx hb dL_earn_3 rfl (lv_at hl 1 rfl) ?_
  refine cs_xw (xrunV (As := [.int p0]) (rest := [.int 0, .ref o]) ⟨hx, hb, hml, hown, hts⟩ (m_X5_earn l D kA ad X p0 w hsw hsw6 hnt) q_392 q_393 q_394 q_1 q_395 hd_X5_earn ⟨rfl, rfl⟩ ⟨Nat.le_of_ble_eq_true rfl, Nat.le_of_ble_eq_true rfl⟩ hK (ws := cw kA ad X) hP.r hD.rt hXW _ (ci := 5) (C := RX5) (Tt := TX5) (N := 6) rfl cw_arm rfl hl.1 rfl (Nat.le_of_ble_eq_true rfl) dL_earn_4 ⟨Nat.le_of_ble_eq_true rfl, Nat.le_of_ble_eq_true rfl⟩) hS Aw.rt (fun hT H locs hP1 hk1 hS => ?_) (fun hT H locs q9 ce hP1 hk1 hS hce hcv hcl => ?_)
  · obtain ⟨hP, hD⟩ := jR hP hD hk1 hP1 cw_fst
    refine lv_i2l (v := (((up3 (svX X w) 0 6 ((((svX X w) 0) 6) + p0)) 0) 6 : Int32).toInt64) hx hb dL_earn_7 rfl ?_
    refine va_last (f := f) hx hb hK hP hD hS 0 3 rfl rfl (in_nI (j := 0) rfl (by omega) (by decide)) dL_earn_8 (fun H locs hP hD hS => ?_)
    refine lv_goto (tgt := 18) hx hb dL_earn_9 (by decide) ?_
    refine lv_iconst (v := 0) hx hb dL_earn_18 (by decide) ?_
    exact end_fi hx hb hrt hlk hP hS hT.symm (fun h => by rw [if_pos hT, if_pos hT]; exact h) dL_earn_19
  · obtain ⟨hP, hD⟩ := jR hP hD hk1 hP1 cw_fst
    rcases (r_eaT : eaT (X 0) p0 = 0 ∨ eaT (X 0) p0 = 1 ∨ eaT (X 0) p0 = 2) with h0 | hTk | hTk
    · exact absurd h0 hT
    · have hcl : s.vm.findClass eA = some ce.cls := by rw [hTk] at hcl; exact hcl
      refine vx_catch (own := RL) (name := eA) (E := eA) hown [] ⟨0, 9, 12, 13⟩ [⟨0, 9, 15, 15⟩] (hxt.trans rfl) (fun z hz => absurd hz List.not_mem_nil) (by decide) (by decide) (hts _ q_390) (va_Nw.use rfl (hXW.2.2.1 _ (by decide +kernel))) hce hcv hcl ?_
      refine lv_astore_n (lv' := [(3, .ref q9), (0, .ref (ad 0)), (1, .int p0), (2, .ref o)]) hx hb dL_earn_12 rfl hl (by decide) rfl (fun ls hl => ?_)
      refine lv_iconst (v := 1) hx hb dL_earn_13 (by decide) ?_
      exact end_fi hx hb hrt hlk hP hS hTk.symm (fun h => by rw [if_neg hT, if_neg hT]; exact h) dL_earn_14
    · have hcl : s.vm.findClass eS = some ce.cls := by rw [hTk] at hcl; exact hcl
      refine vx_catch (own := RL) (name := eS) (E := eS) hown [⟨0, 9, 12, 13⟩] ⟨0, 9, 15, 15⟩ [] (hxt.trans rfl) (fun z hz => by simp only [List.mem_cons, List.not_mem_nil, or_false] at hz; rcases hz with rfl <;> first | exact Or.inr ⟨by decide, _, hts _ q_390, hLW.2.1⟩) (by decide) (by decide) (hts _ q_391) (va_Nw.use rfl (hXW.2.2.1 _ (by decide +kernel))) hce hcv hcl ?_
      refine lv_astore_n (lv' := [(3, .ref q9), (0, .ref (ad 0)), (1, .int p0), (2, .ref o)]) hx hb dL_earn_15 rfl hl (by decide) rfl (fun ls hl => ?_)
      refine lv_iconst (v := 2) hx hb dL_earn_16 (by decide) ?_
      exact end_fi hx hb hrt hlk hP hS hTk.symm (fun h => by rw [if_neg hT, if_neg hT]; exact h) dL_earn_17

theorem hdw_load : yL_load.cls ≠ "java/lang/invoke/MethodHandle" ∧ yL_load.cls ≠ "java/lang/invoke/VarHandle" ∧ (parseMethodDescriptor yL_load.desc).map (fun d => d.parameters.length) = some 4 := by decide +kernel
set_option maxRecDepth 100000 in
set_option maxHeartbeats 4000000 in
theorem w_load (l : Launch) (D : va_G) (kA : Nat → Nat) (ad : Nat → Nat) (X : Nat → Nat → Int32) (p0 : Int32) (p1 : Int32) (w : Nat) (o : Nat) (f : Nat → Int64) (hsw : X 8 0 = nI w) (hsw6 : w < 6) (hnt : l.stackTraces = false) : Met l yL_load (Cond.codeWith yL_load cL_load 5 (some .int) [(0, 10, 13, 21), (0, 10, 17, 13)] :: AW) ({ frames := 8, cells := 1, slots := 6, locals := 151 } : Room) (Pw [.ref (ad 0), .int p0, .int p1, .ref o] D (TY kA) ([(o, oO kA f)] ++ cw kA ad X) (Aw (cw kA ad X))) (fQ (some (.int (loT p0 p1))) D ([(o, oO kA f)] ++ cw kA ad X) ([(o, oO kA (if (loT p0 p1) = 0 then vp_updL f 0 (sl (((svX X w) 0)) p0.toNatClampNeg 2 : Int32).toInt64 else f))] ++ cw kA ad (if (loT p0 p1) = 0 then (up3 (svX X w) 0 (2 + (8 + 35 * p0.toNatClampNeg)) p1) else X))) 1 6 (Aw ([(o, oO kA f)] ++ cw kA ad X)) := by
  refine MetW (by decide +kernel) (Nat.le_of_ble_eq_true rfl) ?_
  intro p e s m below meth c ls hx hb hrt hts hown hml hlk hP hK hD hS hl hXW hLW hxt
  have hl : lv_has ls 5 [(0, .ref (ad 0)), (1, .int p0), (2, .int p1), (3, .ref o)] := hl
  refine lv_aload_n hx hb dL_load_0 rfl (lv_at hl 3 rfl) ?_
  refine lv_iconst (v := 0) hx hb dL_load_1 (by decide) ?_
  refine lv_aload_n hx hb dL_load_2 rfl (lv_at hl 0 rfl) ?_
  refine lv_iload_n hx hb dL_load_3 rfl (lv_at hl 1 rfl) ?_
  refine lv_iload_n hx hb dL_load_4 rfl (lv_at hl 2 rfl) ?_
  refine cs_xw (xrunV (As := [.int p0, .int p1]) (rest := [.int 0, .ref o]) ⟨hx, hb, hml, hown, hts⟩ (m_X5_load l D kA ad X p0 p1 w hsw hsw6 hnt) q_503 q_504 q_505 q_1 q_506 hd_X5_load ⟨rfl, rfl⟩ ⟨Nat.le_of_ble_eq_true rfl, Nat.le_of_ble_eq_true rfl⟩ hK (ws := cw kA ad X) hP.r hD.rt hXW _ (ci := 5) (C := RX5) (Tt := TX5) (N := 6) rfl cw_arm rfl hl.1 rfl (Nat.le_of_ble_eq_true rfl) dL_load_5 ⟨Nat.le_of_ble_eq_true rfl, Nat.le_of_ble_eq_true rfl⟩) hS Aw.rt (fun hT H locs hP1 hk1 hS => ?_) (fun hT H locs q9 ce hP1 hk1 hS hce hcv hcl => ?_)
  · obtain ⟨hP, hD⟩ := jR hP hD hk1 hP1 cw_fst
    refine lv_i2l (v := (sl (((svX X w) 0)) p0.toNatClampNeg 2 : Int32).toInt64) hx hb dL_load_8 rfl ?_
    refine va_last (f := f) hx hb hK hP hD hS 0 3 rfl rfl (in_nI (j := 0) rfl (by omega) (by decide)) dL_load_9 (fun H locs hP hD hS => ?_)
    refine lv_goto (tgt := 21) hx hb dL_load_10 (by decide) ?_
    refine lv_iconst (v := 0) hx hb dL_load_21 (by decide) ?_
    exact end_fi hx hb hrt hlk hP hS hT.symm (fun h => by rw [if_pos hT, if_pos hT]; exact h) dL_load_22
  · obtain ⟨hP, hD⟩ := jR hP hD hk1 hP1 cw_fst
    rcases (r_loT : loT p0 p1 = 0 ∨ loT p0 p1 = 1 ∨ loT p0 p1 = 2) with h0 | hTk | hTk
    · exact absurd h0 hT
    · have hcl : s.vm.findClass eI = some ce.cls := by rw [hTk] at hcl; exact hcl
      refine vx_catch (own := RL) (name := eI) (E := eI) hown [] ⟨0, 10, 13, 21⟩ [⟨0, 10, 17, 13⟩] (hxt.trans rfl) (fun z hz => absurd hz List.not_mem_nil) (by decide) (by decide) (hts _ q_502) (va_Nw.use rfl (hXW.2.2.1 _ (by decide +kernel))) hce hcv hcl ?_
      refine lv_astore (lv' := [(4, .ref q9), (0, .ref (ad 0)), (1, .int p0), (2, .int p1), (3, .ref o)]) hx hb dL_load_13 hl (by decide) rfl (fun ls hl => ?_)
      refine lv_iconst (v := 1) hx hb dL_load_15 (by decide) ?_
      exact end_fi hx hb hrt hlk hP hS hTk.symm (fun h => by rw [if_neg hT, if_neg hT]; exact h) dL_load_16
    · have hcl : s.vm.findClass eA = some ce.cls := by rw [hTk] at hcl; exact hcl
      refine vx_catch (own := RL) (name := eA) (E := eA) hown [⟨0, 10, 13, 21⟩] ⟨0, 10, 17, 13⟩ [] (hxt.trans rfl) (fun z hz => by simp only [List.mem_cons, List.not_mem_nil, or_false] at hz; rcases hz with rfl <;> first | exact Or.inr ⟨by decide, _, hts _ q_502, hLW.1⟩) (by decide) (by decide) (hts _ q_390) (va_Nw.use rfl (hXW.2.2.1 _ (by decide +kernel))) hce hcv hcl ?_
      refine lv_astore (lv' := [(4, .ref q9), (0, .ref (ad 0)), (1, .int p0), (2, .int p1), (3, .ref o)]) hx hb dL_load_17 hl (by decide) rfl (fun ls hl => ?_)
      refine lv_iconst (v := 2) hx hb dL_load_19 (by decide) ?_
      exact end_fi hx hb hrt hlk hP hS hTk.symm (fun h => by rw [if_neg hT, if_neg hT]; exact h) dL_load_20

theorem hdw_set : yL_set.cls ≠ "java/lang/invoke/MethodHandle" ∧ yL_set.cls ≠ "java/lang/invoke/VarHandle" ∧ (parseMethodDescriptor yL_set.desc).map (fun d => d.parameters.length) = some 4 := by decide +kernel
set_option maxRecDepth 100000 in
set_option maxHeartbeats 4000000 in
theorem w_set (l : Launch) (D : va_G) (kA : Nat → Nat) (ad : Nat → Nat) (X : Nat → Nat → Int32) (p0 : Int32) (p1 : Int32) (w : Nat) (o : Nat) (f : Nat → Int64) (hsw : X 8 0 = nI w) (hsw6 : w < 6) (hnt : l.stackTraces = false) : Met l yL_set (Cond.codeWith yL_set cL_set 5 (some .int) [(0, 10, 13, 21), (0, 10, 17, 13)] :: AW) ({ frames := 8, cells := 1, slots := 6, locals := 150 } : Room) (Pw [.ref (ad 0), .int p0, .int p1, .ref o] D (TY kA) ([(o, oO kA f)] ++ cw kA ad X) (Aw (cw kA ad X))) (fQ (some (.int (seT p0 p1))) D ([(o, oO kA f)] ++ cw kA ad X) ([(o, oO kA (if (seT p0 p1) = 0 then vp_updL f 0 (rvF ((svX X w) 0) p0 : Int32).toInt64 else f))] ++ cw kA ad (if (seT p0 p1) = 0 then (up2 (svX X w) 0 (rpF ((svX X w) 0) p0 p1)) else X))) 1 6 (Aw ([(o, oO kA f)] ++ cw kA ad X)) := by
  refine MetW (by decide +kernel) (Nat.le_of_ble_eq_true rfl) ?_
  intro p e s m below meth c ls hx hb hrt hts hown hml hlk hP hK hD hS hl hXW hLW hxt
  have hl : lv_has ls 5 [(0, .ref (ad 0)), (1, .int p0), (2, .int p1), (3, .ref o)] := hl
  refine lv_aload_n hx hb dL_set_0 rfl (lv_at hl 3 rfl) ?_
  refine lv_iconst (v := 0) hx hb dL_set_1 (by decide) ?_
  refine lv_aload_n hx hb dL_set_2 rfl (lv_at hl 0 rfl) ?_
  refine lv_iload_n hx hb dL_set_3 rfl (lv_at hl 1 rfl) ?_
  refine lv_iload_n hx hb dL_set_4 rfl (lv_at hl 2 rfl) ?_
  refine cs_xw (xrunV (As := [.int p0, .int p1]) (rest := [.int 0, .ref o]) ⟨hx, hb, hml, hown, hts⟩ (m_X5_set l D kA ad X p0 p1 w hsw hsw6 hnt) q_531 q_532 q_533 q_1 q_534 hd_X5_set ⟨rfl, rfl⟩ ⟨Nat.le_of_ble_eq_true rfl, Nat.le_of_ble_eq_true rfl⟩ hK (ws := cw kA ad X) hP.r hD.rt hXW _ (ci := 5) (C := RX5) (Tt := TX5) (N := 6) rfl cw_arm rfl hl.1 rfl (Nat.le_of_ble_eq_true rfl) dL_set_5 ⟨Nat.le_of_ble_eq_true rfl, Nat.le_of_ble_eq_true rfl⟩) hS Aw.rt (fun hT H locs hP1 hk1 hS => ?_) (fun hT H locs q9 ce hP1 hk1 hS hce hcv hcl => ?_)
  · obtain ⟨hP, hD⟩ := jR hP hD hk1 hP1 cw_fst
    refine lv_i2l (v := (rvF ((svX X w) 0) p0 : Int32).toInt64) hx hb dL_set_8 rfl ?_
    refine va_last (f := f) hx hb hK hP hD hS 0 3 rfl rfl (in_nI (j := 0) rfl (by omega) (by decide)) dL_set_9 (fun H locs hP hD hS => ?_)
    refine lv_goto (tgt := 21) hx hb dL_set_10 (by decide) ?_
    refine lv_iconst (v := 0) hx hb dL_set_21 (by decide) ?_
    exact end_fi hx hb hrt hlk hP hS hT.symm (fun h => by rw [if_pos hT, if_pos hT]; exact h) dL_set_22
  · obtain ⟨hP, hD⟩ := jR hP hD hk1 hP1 cw_fst
    rcases (r_seT : seT p0 p1 = 0 ∨ seT p0 p1 = 1 ∨ seT p0 p1 = 2) with h0 | hTk | hTk
    · exact absurd h0 hT
    · have hcl : s.vm.findClass eI = some ce.cls := by rw [hTk] at hcl; exact hcl
      refine vx_catch (own := RL) (name := eI) (E := eI) hown [] ⟨0, 10, 13, 21⟩ [⟨0, 10, 17, 13⟩] (hxt.trans rfl) (fun z hz => absurd hz List.not_mem_nil) (by decide) (by decide) (hts _ q_502) (va_Nw.use rfl (hXW.2.2.1 _ (by decide +kernel))) hce hcv hcl ?_
      refine lv_astore (lv' := [(4, .ref q9), (0, .ref (ad 0)), (1, .int p0), (2, .int p1), (3, .ref o)]) hx hb dL_set_13 hl (by decide) rfl (fun ls hl => ?_)
      refine lv_iconst (v := 1) hx hb dL_set_15 (by decide) ?_
      exact end_fi hx hb hrt hlk hP hS hTk.symm (fun h => by rw [if_neg hT, if_neg hT]; exact h) dL_set_16
    · have hcl : s.vm.findClass eA = some ce.cls := by rw [hTk] at hcl; exact hcl
      refine vx_catch (own := RL) (name := eA) (E := eA) hown [⟨0, 10, 13, 21⟩] ⟨0, 10, 17, 13⟩ [] (hxt.trans rfl) (fun z hz => by simp only [List.mem_cons, List.not_mem_nil, or_false] at hz; rcases hz with rfl <;> first | exact Or.inr ⟨by decide, _, hts _ q_502, hLW.1⟩) (by decide) (by decide) (hts _ q_390) (va_Nw.use rfl (hXW.2.2.1 _ (by decide +kernel))) hce hcv hcl ?_
      refine lv_astore (lv' := [(4, .ref q9), (0, .ref (ad 0)), (1, .int p0), (2, .int p1), (3, .ref o)]) hx hb dL_set_17 hl (by decide) rfl (fun ls hl => ?_)
      refine lv_iconst (v := 2) hx hb dL_set_19 (by decide) ?_
      exact end_fi hx hb hrt hlk hP hS hTk.symm (fun h => by rw [if_neg hT, if_neg hT]; exact h) dL_set_20

theorem hdw_step : yL_step.cls ≠ "java/lang/invoke/MethodHandle" ∧ yL_step.cls ≠ "java/lang/invoke/VarHandle" ∧ (parseMethodDescriptor yL_step.desc).map (fun d => d.parameters.length) = some 4 := by decide +kernel
set_option maxRecDepth 100000 in
set_option maxHeartbeats 4000000 in
theorem w_step (l : Launch) (D : va_G) (kA : Nat → Nat) (ad : Nat → Nat) (X : Nat → Nat → Int32) (p0 : Int32) (p1 : Int32) (w : Nat) (o : Nat) (f : Nat → Int64) (hsw : X 8 0 = nI w) (hsw6 : w < 6) (hnt : l.stackTraces = false) : Met l yL_step (Cond.codeWith yL_step cL_step 5 (some .int) [(0, 10, 13, 21), (0, 10, 17, 13), (0, 10, 21, 15)] :: AW) ({ frames := 8, cells := 1, slots := 6, locals := 151 } : Room) (Pw [.ref (ad 0), .int p0, .int p1, .ref o] D (TY kA) ([(o, oO kA f)] ++ cw kA ad X) (Aw (cw kA ad X))) (fQ (some (.int (spT (X 0) p0 p1))) D ([(o, oO kA f)] ++ cw kA ad X) ([(o, oO kA (if (spT (X 0) p0 p1) = 0 then vp_updL f 0 ((msL p0.toNatClampNeg (wI (spU p1)) p1.toInt.natAbs (svX X w 0) 0).1 : Int32).toInt64 else f))] ++ cw kA ad (if (spT (X 0) p0 p1) = 0 then (up2 (svX X w) 0 (msL p0.toNatClampNeg (wI (spU p1)) p1.toInt.natAbs (svX X w 0) 0).2) else X))) 1 6 (Aw ([(o, oO kA f)] ++ cw kA ad X)) := by
  refine MetW (by decide +kernel) (Nat.le_of_ble_eq_true rfl) ?_
  intro p e s m below meth c ls hx hb hrt hts hown hml hlk hP hK hD hS hl hXW hLW hxt
  have hl : lv_has ls 5 [(0, .ref (ad 0)), (1, .int p0), (2, .int p1), (3, .ref o)] := hl
  refine lv_aload_n hx hb dL_step_0 rfl (lv_at hl 3 rfl) ?_
  refine lv_iconst (v := 0) hx hb dL_step_1 (by decide) ?_
  refine lv_aload_n hx hb dL_step_2 rfl (lv_at hl 0 rfl) ?_
  refine lv_iload_n hx hb dL_step_3 rfl (lv_at hl 1 rfl) ?_
  refine lv_iload_n hx hb dL_step_4 rfl (lv_at hl 2 rfl) ?_
  refine cs_xw (xrunV (As := [.int p0, .int p1]) (rest := [.int 0, .ref o]) ⟨hx, hb, hml, hown, hts⟩ (m_X5_step l D kA ad X p0 p1 w hsw hsw6 hnt) q_554 q_555 q_556 q_1 q_557 hd_X5_step ⟨rfl, rfl⟩ ⟨Nat.le_of_ble_eq_true rfl, Nat.le_of_ble_eq_true rfl⟩ hK (ws := cw kA ad X) hP.r hD.rt hXW _ (ci := 5) (C := RX5) (Tt := TX5) (N := 6) rfl cw_arm rfl hl.1 rfl (Nat.le_of_ble_eq_true rfl) dL_step_5 ⟨Nat.le_of_ble_eq_true rfl, Nat.le_of_ble_eq_true rfl⟩) hS Aw.rt (fun hT H locs hP1 hk1 hS => ?_) (fun hT H locs q9 ce hP1 hk1 hS hce hcv hcl => ?_)
  · obtain ⟨hP, hD⟩ := jR hP hD hk1 hP1 cw_fst
    refine lv_i2l (v := ((msL p0.toNatClampNeg (wI (spU p1)) p1.toInt.natAbs (svX X w 0) 0).1 : Int32).toInt64) hx hb dL_step_8 rfl ?_
    refine va_last (f := f) hx hb hK hP hD hS 0 3 rfl rfl (in_nI (j := 0) rfl (by omega) (by decide)) dL_step_9 (fun H locs hP hD hS => ?_)
    refine lv_goto (tgt := 25) hx hb dL_step_10 (by decide) ?_
    refine lv_iconst (v := 0) hx hb dL_step_25 (by decide) ?_
    exact end_fi hx hb hrt hlk hP hS hT.symm (fun h => by rw [if_pos hT, if_pos hT]; exact h) dL_step_26
  · obtain ⟨hP, hD⟩ := jR hP hD hk1 hP1 cw_fst
    rcases (r_spT : spT (X 0) p0 p1 = 0 ∨ spT (X 0) p0 p1 = 1 ∨ spT (X 0) p0 p1 = 2 ∨ spT (X 0) p0 p1 = 3) with h0 | hTk | hTk | hTk
    · exact absurd h0 hT
    · have hcl : s.vm.findClass eI = some ce.cls := by rw [hTk] at hcl; exact hcl
      refine vx_catch (own := RL) (name := eI) (E := eI) hown [] ⟨0, 10, 13, 21⟩ [⟨0, 10, 17, 13⟩, ⟨0, 10, 21, 15⟩] (hxt.trans rfl) (fun z hz => absurd hz List.not_mem_nil) (by decide) (by decide) (hts _ q_502) (va_Nw.use rfl (hXW.2.2.1 _ (by decide +kernel))) hce hcv hcl ?_
      refine lv_astore (lv' := [(4, .ref q9), (0, .ref (ad 0)), (1, .int p0), (2, .int p1), (3, .ref o)]) hx hb dL_step_13 hl (by decide) rfl (fun ls hl => ?_)
      refine lv_iconst (v := 1) hx hb dL_step_15 (by decide) ?_
      exact end_fi hx hb hrt hlk hP hS hTk.symm (fun h => by rw [if_neg hT, if_neg hT]; exact h) dL_step_16
    · have hcl : s.vm.findClass eA = some ce.cls := by rw [hTk] at hcl; exact hcl
      refine vx_catch (own := RL) (name := eA) (E := eA) hown [⟨0, 10, 13, 21⟩] ⟨0, 10, 17, 13⟩ [⟨0, 10, 21, 15⟩] (hxt.trans rfl) (fun z hz => by simp only [List.mem_cons, List.not_mem_nil, or_false] at hz; rcases hz with rfl <;> first | exact Or.inr ⟨by decide, _, hts _ q_502, hLW.1⟩) (by decide) (by decide) (hts _ q_390) (va_Nw.use rfl (hXW.2.2.1 _ (by decide +kernel))) hce hcv hcl ?_
      refine lv_astore (lv' := [(4, .ref q9), (0, .ref (ad 0)), (1, .int p0), (2, .int p1), (3, .ref o)]) hx hb dL_step_17 hl (by decide) rfl (fun ls hl => ?_)
      refine lv_iconst (v := 2) hx hb dL_step_19 (by decide) ?_
      exact end_fi hx hb hrt hlk hP hS hTk.symm (fun h => by rw [if_neg hT, if_neg hT]; exact h) dL_step_20
    · have hcl : s.vm.findClass eS = some ce.cls := by rw [hTk] at hcl; exact hcl
      refine vx_catch (own := RL) (name := eS) (E := eS) hown [⟨0, 10, 13, 21⟩, ⟨0, 10, 17, 13⟩] ⟨0, 10, 21, 15⟩ [] (hxt.trans rfl) (fun z hz => by simp only [List.mem_cons, List.not_mem_nil, or_false] at hz; rcases hz with rfl | rfl <;> first | exact Or.inr ⟨by decide, _, hts _ q_502, hLW.2.2⟩ | exact Or.inr ⟨by decide, _, hts _ q_390, hLW.2.1⟩) (by decide) (by decide) (hts _ q_391) (va_Nw.use rfl (hXW.2.2.1 _ (by decide +kernel))) hce hcv hcl ?_
      refine lv_astore (lv' := [(4, .ref q9), (0, .ref (ad 0)), (1, .int p0), (2, .int p1), (3, .ref o)]) hx hb dL_step_21 hl (by decide) rfl (fun ls hl => ?_)
      refine lv_iconst (v := 3) hx hb dL_step_23 (by decide) ?_
      exact end_fi hx hb hrt hlk hP hS hTk.symm (fun h => by rw [if_neg hT, if_neg hT]; exact h) dL_step_24

theorem hdw_go : yL_go.cls ≠ "java/lang/invoke/MethodHandle" ∧ yL_go.cls ≠ "java/lang/invoke/VarHandle" ∧ (parseMethodDescriptor yL_go.desc).map (fun d => d.parameters.length) = some 4 := by decide +kernel
set_option maxRecDepth 100000 in
set_option maxHeartbeats 4000000 in
theorem w_go (l : Launch) (D : va_G) (kA : Nat → Nat) (ad : Nat → Nat) (X : Nat → Nat → Int32) (p0 : Int32) (p1 : Int32) (w : Nat) (o : Nat) (f : Nat → Int64) (hsw : X 8 0 = nI w) (hsw6 : w < 6) (hnt : l.stackTraces = false) : Met l yL_go (Cond.codeWith yL_go cL_go 5 (some .int) [(0, 10, 13, 21), (0, 10, 17, 13), (0, 10, 21, 15)] :: AW) ({ frames := 8, cells := 1, slots := 6, locals := 150 } : Room) (Pw [.ref (ad 0), .int p0, .int p1, .ref o] D (TY kA) ([(o, oO kA f)] ++ cw kA ad X) (Aw (cw kA ad X))) (fQ (some (.int (goT (X 0) p0 p1))) D ([(o, oO kA f)] ++ cw kA ad X) ([(o, oO kA (if (goT (X 0) p0 p1) = 0 then vp_updL f 0 ((gtF (((svX X w) 0)) p0.toNatClampNeg p1).1 : Int32).toInt64 else f))] ++ cw kA ad (if (goT (X 0) p0 p1) = 0 then (up2 (svX X w) 0 (gtF (((svX X w) 0)) p0.toNatClampNeg p1).2) else X))) 1 6 (Aw ([(o, oO kA f)] ++ cw kA ad X)) := by
  refine MetW (by decide +kernel) (Nat.le_of_ble_eq_true rfl) ?_
  intro p e s m below meth c ls hx hb hrt hts hown hml hlk hP hK hD hS hl hXW hLW hxt
  have hl : lv_has ls 5 [(0, .ref (ad 0)), (1, .int p0), (2, .int p1), (3, .ref o)] := hl
  refine lv_aload_n hx hb dL_go_0 rfl (lv_at hl 3 rfl) ?_
  refine lv_iconst (v := 0) hx hb dL_go_1 (by decide) ?_
  refine lv_aload_n hx hb dL_go_2 rfl (lv_at hl 0 rfl) ?_
  refine lv_iload_n hx hb dL_go_3 rfl (lv_at hl 1 rfl) ?_
  refine lv_iload_n hx hb dL_go_4 rfl (lv_at hl 2 rfl) ?_
  refine cs_xw (xrunV (As := [.int p0, .int p1]) (rest := [.int 0, .ref o]) ⟨hx, hb, hml, hown, hts⟩ (m_X5_go l D kA ad X p0 p1 w hsw hsw6 hnt) q_574 q_575 q_576 q_1 q_577 hd_X5_go ⟨rfl, rfl⟩ ⟨Nat.le_of_ble_eq_true rfl, Nat.le_of_ble_eq_true rfl⟩ hK (ws := cw kA ad X) hP.r hD.rt hXW _ (ci := 5) (C := RX5) (Tt := TX5) (N := 6) rfl cw_arm rfl hl.1 rfl (Nat.le_of_ble_eq_true rfl) dL_go_5 ⟨Nat.le_of_ble_eq_true rfl, Nat.le_of_ble_eq_true rfl⟩) hS Aw.rt (fun hT H locs hP1 hk1 hS => ?_) (fun hT H locs q9 ce hP1 hk1 hS hce hcv hcl => ?_)
  · obtain ⟨hP, hD⟩ := jR hP hD hk1 hP1 cw_fst
    refine lv_i2l (v := ((gtF (((svX X w) 0)) p0.toNatClampNeg p1).1 : Int32).toInt64) hx hb dL_go_8 rfl ?_
    refine va_last (f := f) hx hb hK hP hD hS 0 3 rfl rfl (in_nI (j := 0) rfl (by omega) (by decide)) dL_go_9 (fun H locs hP hD hS => ?_)
    refine lv_goto (tgt := 25) hx hb dL_go_10 (by decide) ?_
    refine lv_iconst (v := 0) hx hb dL_go_25 (by decide) ?_
    exact end_fi hx hb hrt hlk hP hS hT.symm (fun h => by rw [if_pos hT, if_pos hT]; exact h) dL_go_26
  · obtain ⟨hP, hD⟩ := jR hP hD hk1 hP1 cw_fst
    rcases (r_goT : goT (X 0) p0 p1 = 0 ∨ goT (X 0) p0 p1 = 1 ∨ goT (X 0) p0 p1 = 2 ∨ goT (X 0) p0 p1 = 3) with h0 | hTk | hTk | hTk
    · exact absurd h0 hT
    · have hcl : s.vm.findClass eI = some ce.cls := by rw [hTk] at hcl; exact hcl
      refine vx_catch (own := RL) (name := eI) (E := eI) hown [] ⟨0, 10, 13, 21⟩ [⟨0, 10, 17, 13⟩, ⟨0, 10, 21, 15⟩] (hxt.trans rfl) (fun z hz => absurd hz List.not_mem_nil) (by decide) (by decide) (hts _ q_502) (va_Nw.use rfl (hXW.2.2.1 _ (by decide +kernel))) hce hcv hcl ?_
      refine lv_astore (lv' := [(4, .ref q9), (0, .ref (ad 0)), (1, .int p0), (2, .int p1), (3, .ref o)]) hx hb dL_go_13 hl (by decide) rfl (fun ls hl => ?_)
      refine lv_iconst (v := 1) hx hb dL_go_15 (by decide) ?_
      exact end_fi hx hb hrt hlk hP hS hTk.symm (fun h => by rw [if_neg hT, if_neg hT]; exact h) dL_go_16
    · have hcl : s.vm.findClass eA = some ce.cls := by rw [hTk] at hcl; exact hcl
      refine vx_catch (own := RL) (name := eA) (E := eA) hown [⟨0, 10, 13, 21⟩] ⟨0, 10, 17, 13⟩ [⟨0, 10, 21, 15⟩] (hxt.trans rfl) (fun z hz => by simp only [List.mem_cons, List.not_mem_nil, or_false] at hz; rcases hz with rfl <;> first | exact Or.inr ⟨by decide, _, hts _ q_502, hLW.1⟩) (by decide) (by decide) (hts _ q_390) (va_Nw.use rfl (hXW.2.2.1 _ (by decide +kernel))) hce hcv hcl ?_
      refine lv_astore (lv' := [(4, .ref q9), (0, .ref (ad 0)), (1, .int p0), (2, .int p1), (3, .ref o)]) hx hb dL_go_17 hl (by decide) rfl (fun ls hl => ?_)
      refine lv_iconst (v := 2) hx hb dL_go_19 (by decide) ?_
      exact end_fi hx hb hrt hlk hP hS hTk.symm (fun h => by rw [if_neg hT, if_neg hT]; exact h) dL_go_20
    · have hcl : s.vm.findClass eS = some ce.cls := by rw [hTk] at hcl; exact hcl
      refine vx_catch (own := RL) (name := eS) (E := eS) hown [⟨0, 10, 13, 21⟩, ⟨0, 10, 17, 13⟩] ⟨0, 10, 21, 15⟩ [] (hxt.trans rfl) (fun z hz => by simp only [List.mem_cons, List.not_mem_nil, or_false] at hz; rcases hz with rfl | rfl <;> first | exact Or.inr ⟨by decide, _, hts _ q_502, hLW.2.2⟩ | exact Or.inr ⟨by decide, _, hts _ q_390, hLW.2.1⟩) (by decide) (by decide) (hts _ q_391) (va_Nw.use rfl (hXW.2.2.1 _ (by decide +kernel))) hce hcv hcl ?_
      refine lv_astore (lv' := [(4, .ref q9), (0, .ref (ad 0)), (1, .int p0), (2, .int p1), (3, .ref o)]) hx hb dL_go_21 hl (by decide) rfl (fun ls hl => ?_)
      refine lv_iconst (v := 3) hx hb dL_go_23 (by decide) ?_
      exact end_fi hx hb hrt hlk hP hS hTk.symm (fun h => by rw [if_neg hT, if_neg hT]; exact h) dL_go_24

theorem hdw_home : yL_home.cls ≠ "java/lang/invoke/MethodHandle" ∧ yL_home.cls ≠ "java/lang/invoke/VarHandle" ∧ (parseMethodDescriptor yL_home.desc).map (fun d => d.parameters.length) = some 3 := by decide +kernel
set_option maxRecDepth 100000 in
set_option maxHeartbeats 4000000 in
theorem w_home (l : Launch) (D : va_G) (kA : Nat → Nat) (ad : Nat → Nat) (X : Nat → Nat → Int32) (p0 : Int32) (w : Nat) (o : Nat) (f : Nat → Int64) (hsw : X 8 0 = nI w) (hsw6 : w < 6) (hnt : l.stackTraces = false) : Met l yL_home (Cond.codeWith yL_home cL_home 4 (some .int) [(0, 9, 12, 21)] :: AW) ({ frames := 8, cells := 1, slots := 6, locals := 151 } : Room) (Pw [.ref (ad 0), .int p0, .ref o] D (TY kA) ([(o, oO kA f)] ++ cw kA ad X) (Aw (cw kA ad X))) (fQ (some (.int (axT p0))) D ([(o, oO kA f)] ++ cw kA ad X) ([(o, oO kA (if (axT p0) = 0 then vp_updL f 0 (hvF (svX X w 0) p0.toNatClampNeg : Int32).toInt64 else f))] ++ cw kA ad (if (axT p0) = 0 then (up2 (svX X w) 0 (hmZ (svX X w 0) p0.toNatClampNeg)) else X))) 1 6 (Aw ([(o, oO kA f)] ++ cw kA ad X)) := by
  refine MetW (by decide +kernel) (Nat.le_of_ble_eq_true rfl) ?_
  intro p e s m below meth c ls hx hb hrt hts hown hml hlk hP hK hD hS hl hXW hLW hxt
  have hl : lv_has ls 4 [(0, .ref (ad 0)), (1, .int p0), (2, .ref o)] := hl
  refine lv_aload_n hx hb dL_home_0 rfl (lv_at hl 2 rfl) ?_
  refine lv_iconst (v := 0) hx hb dL_home_1 (by decide) ?_
  refine lv_aload_n hx hb dL_home_2 rfl (lv_at hl 0 rfl) ?_
  refine lv_iload_n hx hb dL_home_3 rfl (lv_at hl 1 rfl) ?_
  refine cs_xw (xrunV (As := [.int p0]) (rest := [.int 0, .ref o]) ⟨hx, hb, hml, hown, hts⟩ (m_X5_home l D kA ad X p0 w hsw hsw6 hnt) q_597 q_598 q_599 q_1 q_600 hd_X5_home ⟨rfl, rfl⟩ ⟨Nat.le_of_ble_eq_true rfl, Nat.le_of_ble_eq_true rfl⟩ hK (ws := cw kA ad X) hP.r hD.rt hXW _ (ci := 5) (C := RX5) (Tt := TX5) (N := 6) rfl cw_arm rfl hl.1 rfl (Nat.le_of_ble_eq_true rfl) dL_home_4 ⟨Nat.le_of_ble_eq_true rfl, Nat.le_of_ble_eq_true rfl⟩) hS Aw.rt (fun hT H locs hP1 hk1 hS => ?_) (fun hT H locs q9 ce hP1 hk1 hS hce hcv hcl => ?_)
  · obtain ⟨hP, hD⟩ := jR hP hD hk1 hP1 cw_fst
    refine lv_i2l (v := (hvF (svX X w 0) p0.toNatClampNeg : Int32).toInt64) hx hb dL_home_7 rfl ?_
    refine va_last (f := f) hx hb hK hP hD hS 0 3 rfl rfl (in_nI (j := 0) rfl (by omega) (by decide)) dL_home_8 (fun H locs hP hD hS => ?_)
    refine lv_goto (tgt := 15) hx hb dL_home_9 (by decide) ?_
    refine lv_iconst (v := 0) hx hb dL_home_15 (by decide) ?_
    exact end_fi hx hb hrt hlk hP hS hT.symm (fun h => by rw [if_pos hT, if_pos hT]; exact h) dL_home_16
  · obtain ⟨hP, hD⟩ := jR hP hD hk1 hP1 cw_fst
    rcases (r_axT : axT p0 = 0 ∨ axT p0 = 1) with h0 | hTk
    · exact absurd h0 hT
    · have hcl : s.vm.findClass eI = some ce.cls := by rw [hTk] at hcl; exact hcl
      refine vx_catch (own := RL) (name := eI) (E := eI) hown [] ⟨0, 9, 12, 21⟩ [] (hxt.trans rfl) (fun z hz => absurd hz List.not_mem_nil) (by decide) (by decide) (hts _ q_502) (va_Nw.use rfl (hXW.2.2.1 _ (by decide +kernel))) hce hcv hcl ?_
      refine lv_astore_n (lv' := [(3, .ref q9), (0, .ref (ad 0)), (1, .int p0), (2, .ref o)]) hx hb dL_home_12 rfl hl (by decide) rfl (fun ls hl => ?_)
      refine lv_iconst (v := 1) hx hb dL_home_13 (by decide) ?_
      exact end_fi hx hb hrt hlk hP hS hTk.symm (fun h => by rw [if_neg hT, if_neg hT]; exact h) dL_home_14

theorem hdw_grease : yL_grease.cls ≠ "java/lang/invoke/MethodHandle" ∧ yL_grease.cls ≠ "java/lang/invoke/VarHandle" ∧ (parseMethodDescriptor yL_grease.desc).map (fun d => d.parameters.length) = some 3 := by decide +kernel
set_option maxRecDepth 100000 in
set_option maxHeartbeats 4000000 in
theorem w_grease (l : Launch) (D : va_G) (kA : Nat → Nat) (ad : Nat → Nat) (X : Nat → Nat → Int32) (p0 : Int32) (w : Nat) (o : Nat) (f : Nat → Int64) (hsw : X 8 0 = nI w) (hsw6 : w < 6) (hnt : l.stackTraces = false) : Met l yL_grease (Cond.codeWith yL_grease cL_grease 4 (some .int) [(0, 9, 12, 21), (0, 9, 15, 15)] :: AW) ({ frames := 8, cells := 1, slots := 6, locals := 149 } : Room) (Pw [.ref (ad 0), .int p0, .ref o] D (TY kA) ([(o, oO kA f)] ++ cw kA ad X) (Aw (cw kA ad X))) (fQ (some (.int (geT (X 0) p0))) D ([(o, oO kA f)] ++ cw kA ad X) ([(o, oO kA (if (geT (X 0) p0) = 0 then vp_updL f 0 ((grZ (((svX X w) 0)) p0.toNatClampNeg) 6 : Int32).toInt64 else f))] ++ cw kA ad (if (geT (X 0) p0) = 0 then (up2 (svX X w) 0 (grZ (((svX X w) 0)) p0.toNatClampNeg)) else X))) 1 6 (Aw ([(o, oO kA f)] ++ cw kA ad X)) := by
  refine MetW (by decide +kernel) (Nat.le_of_ble_eq_true rfl) ?_
  intro p e s m below meth c ls hx hb hrt hts hown hml hlk hP hK hD hS hl hXW hLW hxt
  have hl : lv_has ls 4 [(0, .ref (ad 0)), (1, .int p0), (2, .ref o)] := hl
  refine lv_aload_n hx hb dL_grease_0 rfl (lv_at hl 2 rfl) ?_
  refine lv_iconst (v := 0) hx hb dL_grease_1 (by decide) ?_
  refine lv_aload_n hx hb dL_grease_2 rfl (lv_at hl 0 rfl) ?_
  refine lv_iload_n hx hb dL_grease_3 rfl (lv_at hl 1 rfl) ?_
  refine cs_xw (xrunV (As := [.int p0]) (rest := [.int 0, .ref o]) ⟨hx, hb, hml, hown, hts⟩ (m_X5_grease l D kA ad X p0 w hsw hsw6 hnt) q_608 q_609 q_610 q_1 q_611 hd_X5_grease ⟨rfl, rfl⟩ ⟨Nat.le_of_ble_eq_true rfl, Nat.le_of_ble_eq_true rfl⟩ hK (ws := cw kA ad X) hP.r hD.rt hXW _ (ci := 5) (C := RX5) (Tt := TX5) (N := 6) rfl cw_arm rfl hl.1 rfl (Nat.le_of_ble_eq_true rfl) dL_grease_4 ⟨Nat.le_of_ble_eq_true rfl, Nat.le_of_ble_eq_true rfl⟩) hS Aw.rt (fun hT H locs hP1 hk1 hS => ?_) (fun hT H locs q9 ce hP1 hk1 hS hce hcv hcl => ?_)
  · obtain ⟨hP, hD⟩ := jR hP hD hk1 hP1 cw_fst
    refine lv_i2l (v := ((grZ (((svX X w) 0)) p0.toNatClampNeg) 6 : Int32).toInt64) hx hb dL_grease_7 rfl ?_
    refine va_last (f := f) hx hb hK hP hD hS 0 3 rfl rfl (in_nI (j := 0) rfl (by omega) (by decide)) dL_grease_8 (fun H locs hP hD hS => ?_)
    refine lv_goto (tgt := 18) hx hb dL_grease_9 (by decide) ?_
    refine lv_iconst (v := 0) hx hb dL_grease_18 (by decide) ?_
    exact end_fi hx hb hrt hlk hP hS hT.symm (fun h => by rw [if_pos hT, if_pos hT]; exact h) dL_grease_19
  · obtain ⟨hP, hD⟩ := jR hP hD hk1 hP1 cw_fst
    rcases (r_geT : geT (X 0) p0 = 0 ∨ geT (X 0) p0 = 1 ∨ geT (X 0) p0 = 2) with h0 | hTk | hTk
    · exact absurd h0 hT
    · have hcl : s.vm.findClass eI = some ce.cls := by rw [hTk] at hcl; exact hcl
      refine vx_catch (own := RL) (name := eI) (E := eI) hown [] ⟨0, 9, 12, 21⟩ [⟨0, 9, 15, 15⟩] (hxt.trans rfl) (fun z hz => absurd hz List.not_mem_nil) (by decide) (by decide) (hts _ q_502) (va_Nw.use rfl (hXW.2.2.1 _ (by decide +kernel))) hce hcv hcl ?_
      refine lv_astore_n (lv' := [(3, .ref q9), (0, .ref (ad 0)), (1, .int p0), (2, .ref o)]) hx hb dL_grease_12 rfl hl (by decide) rfl (fun ls hl => ?_)
      refine lv_iconst (v := 1) hx hb dL_grease_13 (by decide) ?_
      exact end_fi hx hb hrt hlk hP hS hTk.symm (fun h => by rw [if_neg hT, if_neg hT]; exact h) dL_grease_14
    · have hcl : s.vm.findClass eS = some ce.cls := by rw [hTk] at hcl; exact hcl
      refine vx_catch (own := RL) (name := eS) (E := eS) hown [⟨0, 9, 12, 21⟩] ⟨0, 9, 15, 15⟩ [] (hxt.trans rfl) (fun z hz => by simp only [List.mem_cons, List.not_mem_nil, or_false] at hz; rcases hz with rfl <;> first | exact Or.inr ⟨by decide, _, hts _ q_502, hLW.2.2⟩) (by decide) (by decide) (hts _ q_391) (va_Nw.use rfl (hXW.2.2.1 _ (by decide +kernel))) hce hcv hcl ?_
      refine lv_astore_n (lv' := [(3, .ref q9), (0, .ref (ad 0)), (1, .int p0), (2, .ref o)]) hx hb dL_grease_15 rfl hl (by decide) rfl (fun ls hl => ?_)
      refine lv_iconst (v := 2) hx hb dL_grease_16 (by decide) ?_
      exact end_fi hx hb hrt hlk hP hS hTk.symm (fun h => by rw [if_neg hT, if_neg hT]; exact h) dL_grease_17

theorem hdw_mend : yL_mend.cls ≠ "java/lang/invoke/MethodHandle" ∧ yL_mend.cls ≠ "java/lang/invoke/VarHandle" ∧ (parseMethodDescriptor yL_mend.desc).map (fun d => d.parameters.length) = some 4 := by decide +kernel
set_option maxRecDepth 100000 in
set_option maxHeartbeats 4000000 in
theorem w_mend (l : Launch) (D : va_G) (kA : Nat → Nat) (ad : Nat → Nat) (X : Nat → Nat → Int32) (p0 : Int32) (p1 : Int32) (w : Nat) (o : Nat) (f : Nat → Int64) (hsw : X 8 0 = nI w) (hsw6 : w < 6) (hnt : l.stackTraces = false) : Met l yL_mend (Cond.codeWith yL_mend cL_mend 5 (some .int) [(0, 10, 13, 21), (0, 10, 17, 15)] :: AW) ({ frames := 8, cells := 1, slots := 6, locals := 151 } : Room) (Pw [.ref (ad 0), .int p0, .int p1, .ref o] D (TY kA) ([(o, oO kA f)] ++ cw kA ad X) (Aw (cw kA ad X))) (fQ (some (.int (meT (X 0) p0 p1))) D ([(o, oO kA f)] ++ cw kA ad X) ([(o, oO kA (if (meT (X 0) p0 p1) = 0 then vp_updL f 0 ((wrF (fun t => (sl ((X 0)) p0.toNatClampNeg) (t + 11)) p1) * ((X 0) 3) : Int32).toInt64 else f))] ++ cw kA ad (if (meT (X 0) p0 p1) = 0 then (up2 (svX X w) 0 (inG (payZ (((svX X w) 0)) ((wrF (fun t => (sl ((X 0)) p0.toNatClampNeg) (t + 11)) p1) * ((X 0) 3))) p0.toNatClampNeg (mkG ((sl ((payZ (((svX X w) 0)) ((wrF (fun t => (sl ((X 0)) p0.toNatClampNeg) (t + 11)) p1) * ((X 0) 3)))) p0.toNatClampNeg) 0) ((sl ((payZ (((svX X w) 0)) ((wrF (fun t => (sl ((X 0)) p0.toNatClampNeg) (t + 11)) p1) * ((X 0) 3)))) p0.toNatClampNeg) 1) ((sl ((payZ (((svX X w) 0)) ((wrF (fun t => (sl ((X 0)) p0.toNatClampNeg) (t + 11)) p1) * ((X 0) 3)))) p0.toNatClampNeg) 2) ((sl ((payZ (((svX X w) 0)) ((wrF (fun t => (sl ((X 0)) p0.toNatClampNeg) (t + 11)) p1) * ((X 0) 3)))) p0.toNatClampNeg) 3) ((sl ((payZ (((svX X w) 0)) ((wrF (fun t => (sl ((X 0)) p0.toNatClampNeg) (t + 11)) p1) * ((X 0) 3)))) p0.toNatClampNeg) 4) ((sl ((payZ (((svX X w) 0)) ((wrF (fun t => (sl ((X 0)) p0.toNatClampNeg) (t + 11)) p1) * ((X 0) 3)))) p0.toNatClampNeg) 5) ((sl ((payZ (((svX X w) 0)) ((wrF (fun t => (sl ((X 0)) p0.toNatClampNeg) (t + 11)) p1) * ((X 0) 3)))) p0.toNatClampNeg) 6) ((sl ((payZ (((svX X w) 0)) ((wrF (fun t => (sl ((X 0)) p0.toNatClampNeg) (t + 11)) p1) * ((X 0) 3)))) p0.toNatClampNeg) 7) ((sl ((payZ (((svX X w) 0)) ((wrF (fun t => (sl ((X 0)) p0.toNatClampNeg) (t + 11)) p1) * ((X 0) 3)))) p0.toNatClampNeg) 8) ((sl ((payZ (((svX X w) 0)) ((wrF (fun t => (sl ((X 0)) p0.toNatClampNeg) (t + 11)) p1) * ((X 0) 3)))) p0.toNatClampNeg) 9) ((sl ((payZ (((svX X w) 0)) ((wrF (fun t => (sl ((X 0)) p0.toNatClampNeg) (t + 11)) p1) * ((X 0) 3)))) p0.toNatClampNeg) 10) (wsF (fun t => (sl ((payZ (((svX X w) 0)) ((wrF (fun t => (sl ((X 0)) p0.toNatClampNeg) (t + 11)) p1) * ((X 0) 3)))) p0.toNatClampNeg) (t + 11)) p1 0)))) else X))) 1 6 (Aw ([(o, oO kA f)] ++ cw kA ad X)) := by
  refine MetW (by decide +kernel) (Nat.le_of_ble_eq_true rfl) ?_
  intro p e s m below meth c ls hx hb hrt hts hown hml hlk hP hK hD hS hl hXW hLW hxt
  have hl : lv_has ls 5 [(0, .ref (ad 0)), (1, .int p0), (2, .int p1), (3, .ref o)] := hl
  refine lv_aload_n hx hb dL_mend_0 rfl (lv_at hl 3 rfl) ?_
  refine lv_iconst (v := 0) hx hb dL_mend_1 (by decide) ?_
  refine lv_aload_n hx hb dL_mend_2 rfl (lv_at hl 0 rfl) ?_
  refine lv_iload_n hx hb dL_mend_3 rfl (lv_at hl 1 rfl) ?_
  refine lv_iload_n hx hb dL_mend_4 rfl (lv_at hl 2 rfl) ?_
  refine cs_xw (xrunV (As := [.int p0, .int p1]) (rest := [.int 0, .ref o]) ⟨hx, hb, hml, hown, hts⟩ (m_X5_mend l D kA ad X p0 p1 w hsw hsw6 hnt) q_628 q_629 q_630 q_1 q_631 hd_X5_mend ⟨rfl, rfl⟩ ⟨Nat.le_of_ble_eq_true rfl, Nat.le_of_ble_eq_true rfl⟩ hK (ws := cw kA ad X) hP.r hD.rt hXW _ (ci := 5) (C := RX5) (Tt := TX5) (N := 6) rfl cw_arm rfl hl.1 rfl (Nat.le_of_ble_eq_true rfl) dL_mend_5 ⟨Nat.le_of_ble_eq_true rfl, Nat.le_of_ble_eq_true rfl⟩) hS Aw.rt (fun hT H locs hP1 hk1 hS => ?_) (fun hT H locs q9 ce hP1 hk1 hS hce hcv hcl => ?_)
  · obtain ⟨hP, hD⟩ := jR hP hD hk1 hP1 cw_fst
    refine lv_i2l (v := ((wrF (fun t => (sl ((X 0)) p0.toNatClampNeg) (t + 11)) p1) * ((X 0) 3) : Int32).toInt64) hx hb dL_mend_8 rfl ?_
    refine va_last (f := f) hx hb hK hP hD hS 0 3 rfl rfl (in_nI (j := 0) rfl (by omega) (by decide)) dL_mend_9 (fun H locs hP hD hS => ?_)
    refine lv_goto (tgt := 21) hx hb dL_mend_10 (by decide) ?_
    refine lv_iconst (v := 0) hx hb dL_mend_21 (by decide) ?_
    exact end_fi hx hb hrt hlk hP hS hT.symm (fun h => by rw [if_pos hT, if_pos hT]; exact h) dL_mend_22
  · obtain ⟨hP, hD⟩ := jR hP hD hk1 hP1 cw_fst
    rcases (r_meT : meT (X 0) p0 p1 = 0 ∨ meT (X 0) p0 p1 = 1 ∨ meT (X 0) p0 p1 = 2) with h0 | hTk | hTk
    · exact absurd h0 hT
    · have hcl : s.vm.findClass eI = some ce.cls := by rw [hTk] at hcl; exact hcl
      refine vx_catch (own := RL) (name := eI) (E := eI) hown [] ⟨0, 10, 13, 21⟩ [⟨0, 10, 17, 15⟩] (hxt.trans rfl) (fun z hz => absurd hz List.not_mem_nil) (by decide) (by decide) (hts _ q_502) (va_Nw.use rfl (hXW.2.2.1 _ (by decide +kernel))) hce hcv hcl ?_
      refine lv_astore (lv' := [(4, .ref q9), (0, .ref (ad 0)), (1, .int p0), (2, .int p1), (3, .ref o)]) hx hb dL_mend_13 hl (by decide) rfl (fun ls hl => ?_)
      refine lv_iconst (v := 1) hx hb dL_mend_15 (by decide) ?_
      exact end_fi hx hb hrt hlk hP hS hTk.symm (fun h => by rw [if_neg hT, if_neg hT]; exact h) dL_mend_16
    · have hcl : s.vm.findClass eS = some ce.cls := by rw [hTk] at hcl; exact hcl
      refine vx_catch (own := RL) (name := eS) (E := eS) hown [⟨0, 10, 13, 21⟩] ⟨0, 10, 17, 15⟩ [] (hxt.trans rfl) (fun z hz => by simp only [List.mem_cons, List.not_mem_nil, or_false] at hz; rcases hz with rfl <;> first | exact Or.inr ⟨by decide, _, hts _ q_502, hLW.2.2⟩) (by decide) (by decide) (hts _ q_391) (va_Nw.use rfl (hXW.2.2.1 _ (by decide +kernel))) hce hcv hcl ?_
      refine lv_astore (lv' := [(4, .ref q9), (0, .ref (ad 0)), (1, .int p0), (2, .int p1), (3, .ref o)]) hx hb dL_mend_17 hl (by decide) rfl (fun ls hl => ?_)
      refine lv_iconst (v := 2) hx hb dL_mend_19 (by decide) ?_
      exact end_fi hx hb hrt hlk hP hS hTk.symm (fun h => by rw [if_neg hT, if_neg hT]; exact h) dL_mend_20

theorem hdw_append : yL_append.cls ≠ "java/lang/invoke/MethodHandle" ∧ yL_append.cls ≠ "java/lang/invoke/VarHandle" ∧ (parseMethodDescriptor yL_append.desc).map (fun d => d.parameters.length) = some 3 := by decide +kernel
set_option maxRecDepth 100000 in
set_option maxHeartbeats 4000000 in
theorem w_append (l : Launch) (D : va_G) (kA : Nat → Nat) (ad : Nat → Nat) (X : Nat → Nat → Int32) (p0 : Int32) (o : Nat) (f : Nat → Int64)  (hnt : l.stackTraces = false) : Met l yL_append (Cond.codeWith yL_append cL_append 4 (some .int) [(0, 9, 12, 13), (0, 9, 15, 15)] :: AW) ({ frames := 7, cells := 1, slots := 6, locals := 111 } : Room) (Pw [.ref (ad 0), .int p0, .ref o] D (TY kA) ([(o, oO kA f)] ++ cw kA ad X) (Aw (cw kA ad X))) (fQ (some (.int (axpT (X 8 2) p0))) D ([(o, oO kA f)] ++ cw kA ad X) ([(o, oO kA (if (axpT (X 8 2) p0) = 0 then vp_updL f 0 (((up3 (up3 X 9 ((X 8) 2).toNatClampNeg p0) 8 2 (((X 8) 2) + 1)) 8) 2 : Int32).toInt64 else f))] ++ cw kA ad (if (axpT (X 8 2) p0) = 0 then (up3 (up3 X 9 ((X 8) 2).toNatClampNeg p0) 8 2 (((X 8) 2) + 1)) else X))) 1 6 (Aw ([(o, oO kA f)] ++ cw kA ad X)) := by
  refine MetW (by decide +kernel) (Nat.le_of_ble_eq_true rfl) ?_
  intro p e s m below meth c ls hx hb hrt hts hown hml hlk hP hK hD hS hl hXW hLW hxt
  have hl : lv_has ls 4 [(0, .ref (ad 0)), (1, .int p0), (2, .ref o)] := hl
  refine lv_aload_n hx hb dL_append_0 rfl (lv_at hl 2 rfl) ?_
  refine lv_iconst (v := 0) hx hb dL_append_1 (by decide) ?_
  refine lv_aload_n hx hb dL_append_2 rfl (lv_at hl 0 rfl) ?_
  refine lv_iload_n hx hb dL_append_3 rfl (lv_at hl 1 rfl) ?_
  refine cs_xw (xrunV (As := [.int p0]) (rest := [.int 0, .ref o]) ⟨hx, hb, hml, hown, hts⟩ (m_X5_append l D kA ad X p0  hnt) q_641 q_642 q_643 q_1 q_644 hd_X5_append ⟨rfl, rfl⟩ ⟨Nat.le_of_ble_eq_true rfl, Nat.le_of_ble_eq_true rfl⟩ hK (ws := cw kA ad X) hP.r hD.rt hXW _ (ci := 5) (C := RX5) (Tt := TX5) (N := 6) rfl cw_arm rfl hl.1 rfl (Nat.le_of_ble_eq_true rfl) dL_append_4 ⟨Nat.le_of_ble_eq_true rfl, Nat.le_of_ble_eq_true rfl⟩) hS Aw.rt (fun hT H locs hP1 hk1 hS => ?_) (fun hT H locs q9 ce hP1 hk1 hS hce hcv hcl => ?_)
  · obtain ⟨hP, hD⟩ := jR hP hD hk1 hP1 cw_fst
    refine lv_i2l (v := (((up3 (up3 X 9 ((X 8) 2).toNatClampNeg p0) 8 2 (((X 8) 2) + 1)) 8) 2 : Int32).toInt64) hx hb dL_append_7 rfl ?_
    refine va_last (f := f) hx hb hK hP hD hS 0 3 rfl rfl (in_nI (j := 0) rfl (by omega) (by decide)) dL_append_8 (fun H locs hP hD hS => ?_)
    refine lv_goto (tgt := 18) hx hb dL_append_9 (by decide) ?_
    refine lv_iconst (v := 0) hx hb dL_append_18 (by decide) ?_
    exact end_fi hx hb hrt hlk hP hS hT.symm (fun h => by rw [if_pos hT, if_pos hT]; exact h) dL_append_19
  · obtain ⟨hP, hD⟩ := jR hP hD hk1 hP1 cw_fst
    rcases (r_axpT : axpT (X 8 2) p0 = 0 ∨ axpT (X 8 2) p0 = 1 ∨ axpT (X 8 2) p0 = 2) with h0 | hTk | hTk
    · exact absurd h0 hT
    · have hcl : s.vm.findClass eA = some ce.cls := by rw [hTk] at hcl; exact hcl
      refine vx_catch (own := RL) (name := eA) (E := eA) hown [] ⟨0, 9, 12, 13⟩ [⟨0, 9, 15, 15⟩] (hxt.trans rfl) (fun z hz => absurd hz List.not_mem_nil) (by decide) (by decide) (hts _ q_390) (va_Nw.use rfl (hXW.2.2.1 _ (by decide +kernel))) hce hcv hcl ?_
      refine lv_astore_n (lv' := [(3, .ref q9), (0, .ref (ad 0)), (1, .int p0), (2, .ref o)]) hx hb dL_append_12 rfl hl (by decide) rfl (fun ls hl => ?_)
      refine lv_iconst (v := 1) hx hb dL_append_13 (by decide) ?_
      exact end_fi hx hb hrt hlk hP hS hTk.symm (fun h => by rw [if_neg hT, if_neg hT]; exact h) dL_append_14
    · have hcl : s.vm.findClass eS = some ce.cls := by rw [hTk] at hcl; exact hcl
      refine vx_catch (own := RL) (name := eS) (E := eS) hown [⟨0, 9, 12, 13⟩] ⟨0, 9, 15, 15⟩ [] (hxt.trans rfl) (fun z hz => by simp only [List.mem_cons, List.not_mem_nil, or_false] at hz; rcases hz with rfl <;> first | exact Or.inr ⟨by decide, _, hts _ q_390, hLW.2.1⟩) (by decide) (by decide) (hts _ q_391) (va_Nw.use rfl (hXW.2.2.1 _ (by decide +kernel))) hce hcv hcl ?_
      refine lv_astore_n (lv' := [(3, .ref q9), (0, .ref (ad 0)), (1, .int p0), (2, .ref o)]) hx hb dL_append_15 rfl hl (by decide) rfl (fun ls hl => ?_)
      refine lv_iconst (v := 2) hx hb dL_append_16 (by decide) ?_
      exact end_fi hx hb hrt hlk hP hS hTk.symm (fun h => by rw [if_neg hT, if_neg hT]; exact h) dL_append_17

theorem hdw_run : yL_run.cls ≠ "java/lang/invoke/MethodHandle" ∧ yL_run.cls ≠ "java/lang/invoke/VarHandle" ∧ (parseMethodDescriptor yL_run.desc).map (fun d => d.parameters.length) = some 2 := by decide +kernel
set_option maxRecDepth 100000 in
set_option maxHeartbeats 4000000 in
theorem w_run (l : Launch) (D : va_G) (kA : Nat → Nat) (ad : Nat → Nat) (X : Nat → Nat → Int32) (w : Nat) (L : Nat) (o : Nat) (f : Nat → Int64) (hsw : X 8 0 = nI w) (hsw6 : w < 6) (hlen : X 8 2 = nI L) (hL : L ≤ 60) (hval : ipF X L = true → ∀ j, j ≤ L → codeN (X 9) L j = 59 → QV (Qs (X 9) L (ieF X L).2 j)) (hnt : l.stackTraces = false) : Met l yL_run (Cond.codeWith yL_run cL_run 3 (some .int) [(0, 8, 11, 13)] :: AW) ({ frames := 7, cells := 1, slots := 6, locals := 168 } : Room) (Pw [.ref (ad 0), .ref o] D (TY kA) ([(o, oO kA f)] ++ cw kA ad X) (Aw (cw kA ad X))) (fQ (some (.int (ruX X L))) D ([(o, oO kA f)] ++ cw kA ad X) ([(o, oO kA (if (ruX X L) = 0 then vp_updL f 0 ((cbF (svX (upQ X (ieF X L).2) w) L).1 : Int32).toInt64 else f))] ++ cw kA ad (if (ruX X L) = 0 then (up3 (upQ (up2 (svX (upQ X (ieF X L).2) w) 0 (cbF (svX (upQ X (ieF X L).2) w) L).2.1) (cbF (svX (upQ X (ieF X L).2) w) L).2.2) 8 2 0) else (upQ X (ieF X L).2)))) 1 6 (Aw ([(o, oO kA f)] ++ cw kA ad X)) := by
  refine MetW (by decide +kernel) (Nat.le_of_ble_eq_true rfl) ?_
  intro p e s m below meth c ls hx hb hrt hts hown hml hlk hP hK hD hS hl hXW hLW hxt
  have hl : lv_has ls 3 [(0, .ref (ad 0)), (1, .ref o)] := hl
  refine lv_aload_n hx hb dL_run_0 rfl (lv_at hl 1 rfl) ?_
  refine lv_iconst (v := 0) hx hb dL_run_1 (by decide) ?_
  refine lv_aload_n hx hb dL_run_2 rfl (lv_at hl 0 rfl) ?_
  refine cs_xw (xrunV (As := []) (rest := [.int 0, .ref o]) ⟨hx, hb, hml, hown, hts⟩ (m_X5_run l D kA ad X w L hsw hsw6 hlen hL hval hnt) q_650 q_651 q_652 q_1 q_653 hd_X5_run ⟨rfl, rfl⟩ ⟨Nat.le_of_ble_eq_true rfl, Nat.le_of_ble_eq_true rfl⟩ hK (ws := cw kA ad X) hP.r hD.rt hXW _ (ci := 5) (C := RX5) (Tt := TX5) (N := 6) rfl cw_arm rfl hl.1 rfl (Nat.le_of_ble_eq_true rfl) dL_run_3 ⟨Nat.le_of_ble_eq_true rfl, Nat.le_of_ble_eq_true rfl⟩) hS Aw.rt (fun hT H locs hP1 hk1 hS => ?_) (fun hT H locs q9 ce hP1 hk1 hS hce hcv hcl => ?_)
  · obtain ⟨hP, hD⟩ := jR hP hD hk1 hP1 cw_fst
    refine lv_i2l (v := ((cbF (svX (upQ X (ieF X L).2) w) L).1 : Int32).toInt64) hx hb dL_run_6 rfl ?_
    refine va_last (f := f) hx hb hK hP hD hS 0 3 rfl rfl (in_nI (j := 0) rfl (by omega) (by decide)) dL_run_7 (fun H locs hP hD hS => ?_)
    refine lv_goto (tgt := 14) hx hb dL_run_8 (by decide) ?_
    refine lv_iconst (v := 0) hx hb dL_run_14 (by decide) ?_
    exact end_fi hx hb hrt hlk hP hS hT.symm (fun h => by rw [if_pos hT, if_pos hT]; exact h) dL_run_15
  · obtain ⟨hP, hD⟩ := jR hP hD hk1 hP1 cw_fst
    rcases (r_ruX : ruX X L = 0 ∨ ruX X L = 1) with h0 | hTk
    · exact absurd h0 hT
    · have hcl : s.vm.findClass eA = some ce.cls := by rw [hTk] at hcl; exact hcl
      refine vx_catch (own := RL) (name := eA) (E := eA) hown [] ⟨0, 8, 11, 13⟩ [] (hxt.trans rfl) (fun z hz => absurd hz List.not_mem_nil) (by decide) (by decide) (hts _ q_390) (va_Nw.use rfl (hXW.2.2.1 _ (by decide +kernel))) hce hcv hcl ?_
      refine lv_astore_n (lv' := [(2, .ref q9), (0, .ref (ad 0)), (1, .ref o)]) hx hb dL_run_11 rfl hl (by decide) rfl (fun ls hl => ?_)
      refine lv_iconst (v := 1) hx hb dL_run_12 (by decide) ?_
      exact end_fi hx hb hrt hlk hP hS hTk.symm (fun h => by rw [if_neg hT, if_neg hT]; exact h) dL_run_13

theorem hdw_undo : yL_undo.cls ≠ "java/lang/invoke/MethodHandle" ∧ yL_undo.cls ≠ "java/lang/invoke/VarHandle" ∧ (parseMethodDescriptor yL_undo.desc).map (fun d => d.parameters.length) = some 2 := by decide +kernel
set_option maxRecDepth 100000 in
set_option maxHeartbeats 4000000 in
theorem w_undo (l : Launch) (D : va_G) (kA : Nat → Nat) (ad : Nat → Nat) (X : Nat → Nat → Int32) (w : Nat) (o : Nat) (f : Nat → Int64) (hsw : X 8 0 = nI w) (hsw6 : w < 6) (hnt : l.stackTraces = false) : Met l yL_undo (Cond.codeWith yL_undo cL_undo 3 (some .int) [(0, 8, 11, 15)] :: AW) ({ frames := 7, cells := 1, slots := 6, locals := 147 } : Room) (Pw [.ref (ad 0), .ref o] D (TY kA) ([(o, oO kA f)] ++ cw kA ad X) (Aw (cw kA ad X))) (fQ (some (.int (unT (X 8 1)))) D ([(o, oO kA f)] ++ cw kA ad X) ([(o, oO kA (if (unT (X 8 1)) = 0 then vp_updL f 0 (((rsX X w) 8) 1 : Int32).toInt64 else f))] ++ cw kA ad (if (unT (X 8 1)) = 0 then (rsX X w) else X))) 1 6 (Aw ([(o, oO kA f)] ++ cw kA ad X)) := by
  refine MetW (by decide +kernel) (Nat.le_of_ble_eq_true rfl) ?_
  intro p e s m below meth c ls hx hb hrt hts hown hml hlk hP hK hD hS hl hXW hLW hxt
  have hl : lv_has ls 3 [(0, .ref (ad 0)), (1, .ref o)] := hl
  refine lv_aload_n hx hb dL_undo_0 rfl (lv_at hl 1 rfl) ?_
  refine lv_iconst (v := 0) hx hb dL_undo_1 (by decide) ?_
  refine lv_aload_n hx hb dL_undo_2 rfl (lv_at hl 0 rfl) ?_
  refine cs_xw (xrunV (As := []) (rest := [.int 0, .ref o]) ⟨hx, hb, hml, hown, hts⟩ (m_X5_undo l D kA ad X w hsw hsw6 hnt) q_674 q_675 q_676 q_1 q_677 hd_X5_undo ⟨rfl, rfl⟩ ⟨Nat.le_of_ble_eq_true rfl, Nat.le_of_ble_eq_true rfl⟩ hK (ws := cw kA ad X) hP.r hD.rt hXW _ (ci := 5) (C := RX5) (Tt := TX5) (N := 6) rfl cw_arm rfl hl.1 rfl (Nat.le_of_ble_eq_true rfl) dL_undo_3 ⟨Nat.le_of_ble_eq_true rfl, Nat.le_of_ble_eq_true rfl⟩) hS Aw.rt (fun hT H locs hP1 hk1 hS => ?_) (fun hT H locs q9 ce hP1 hk1 hS hce hcv hcl => ?_)
  · obtain ⟨hP, hD⟩ := jR hP hD hk1 hP1 cw_fst
    refine lv_i2l (v := (((rsX X w) 8) 1 : Int32).toInt64) hx hb dL_undo_6 rfl ?_
    refine va_last (f := f) hx hb hK hP hD hS 0 3 rfl rfl (in_nI (j := 0) rfl (by omega) (by decide)) dL_undo_7 (fun H locs hP hD hS => ?_)
    refine lv_goto (tgt := 14) hx hb dL_undo_8 (by decide) ?_
    refine lv_iconst (v := 0) hx hb dL_undo_14 (by decide) ?_
    exact end_fi hx hb hrt hlk hP hS hT.symm (fun h => by rw [if_pos hT, if_pos hT]; exact h) dL_undo_15
  · obtain ⟨hP, hD⟩ := jR hP hD hk1 hP1 cw_fst
    rcases (r_unT : unT (X 8 1) = 0 ∨ unT (X 8 1) = 1) with h0 | hTk
    · exact absurd h0 hT
    · have hcl : s.vm.findClass eS = some ce.cls := by rw [hTk] at hcl; exact hcl
      refine vx_catch (own := RL) (name := eS) (E := eS) hown [] ⟨0, 8, 11, 15⟩ [] (hxt.trans rfl) (fun z hz => absurd hz List.not_mem_nil) (by decide) (by decide) (hts _ q_391) (va_Nw.use rfl (hXW.2.2.1 _ (by decide +kernel))) hce hcv hcl ?_
      refine lv_astore_n (lv' := [(2, .ref q9), (0, .ref (ad 0)), (1, .ref o)]) hx hb dL_undo_11 rfl hl (by decide) rfl (fun ls hl => ?_)
      refine lv_iconst (v := 1) hx hb dL_undo_12 (by decide) ?_
      exact end_fi hx hb hrt hlk hP hS hTk.symm (fun h => by rw [if_neg hT, if_neg hT]; exact h) dL_undo_13

theorem hdw_axis : yL_axis.cls ≠ "java/lang/invoke/MethodHandle" ∧ yL_axis.cls ≠ "java/lang/invoke/VarHandle" ∧ (parseMethodDescriptor yL_axis.desc).map (fun d => d.parameters.length) = some 4 := by decide +kernel
set_option maxRecDepth 100000 in
set_option maxHeartbeats 4000000 in
theorem w_axis (l : Launch) (D : va_G) (kA : Nat → Nat) (ad : Nat → Nat) (X : Nat → Nat → Int32) (p0 : Int32) (p1 : Int32) (o : Nat) (f : Nat → Int64)  (hnt : l.stackTraces = false) : Met l yL_axis (Cond.codeWith yL_axis cL_axis 5 (some .int) [(0, 10, 13, 21), (0, 10, 17, 13)] :: AW) ({ frames := 8, cells := 1, slots := 6, locals := 135 } : Room) (Pw [.ref (ad 0), .int p0, .int p1, .ref o] D (TY kA) ([(o, oO kA f)] ++ cw kA ad X) (Aw (cw kA ad X))) (fQ (some (.int (apxT p0 p1))) D ([(o, oO kA f)] ++ cw kA ad X) ([(o, oO kA (if (apxT p0 p1) = 0 then vp_updL f 0 (propG (sl ((X 0)) p0.toNatClampNeg) p1 : Int32).toInt64 else f))] ++ cw kA ad X)) 1 6 (Aw ([(o, oO kA f)] ++ cw kA ad X)) := by
  refine MetW (by decide +kernel) (Nat.le_of_ble_eq_true rfl) ?_
  intro p e s m below meth c ls hx hb hrt hts hown hml hlk hP hK hD hS hl hXW hLW hxt
  have hl : lv_has ls 5 [(0, .ref (ad 0)), (1, .int p0), (2, .int p1), (3, .ref o)] := hl
  refine lv_aload_n hx hb dL_axis_0 rfl (lv_at hl 3 rfl) ?_
  refine lv_iconst (v := 0) hx hb dL_axis_1 (by decide) ?_
  refine lv_aload_n hx hb dL_axis_2 rfl (lv_at hl 0 rfl) ?_
  refine lv_iload_n hx hb dL_axis_3 rfl (lv_at hl 1 rfl) ?_
  refine lv_iload_n hx hb dL_axis_4 rfl (lv_at hl 2 rfl) ?_
  refine cs_xw (xrunV (As := [.int p0, .int p1]) (rest := [.int 0, .ref o]) ⟨hx, hb, hml, hown, hts⟩ (m_X5_axis l D kA ad X p0 p1  hnt) q_687 q_688 q_689 q_1 q_690 hd_X5_axis ⟨rfl, rfl⟩ ⟨Nat.le_of_ble_eq_true rfl, Nat.le_of_ble_eq_true rfl⟩ hK (ws := cw kA ad X) hP.r hD.rt hXW _ (ci := 5) (C := RX5) (Tt := TX5) (N := 6) rfl cw_arm rfl hl.1 rfl (Nat.le_of_ble_eq_true rfl) dL_axis_5 ⟨Nat.le_of_ble_eq_true rfl, Nat.le_of_ble_eq_true rfl⟩) hS Aw.rt (fun hT H locs hP1 hk1 hS => ?_) (fun hT H locs q9 ce hP1 hk1 hS hce hcv hcl => ?_)
  · obtain ⟨hP, hD⟩ := jR hP hD hk1 hP1 cw_fst
    refine lv_i2l (v := (propG (sl ((X 0)) p0.toNatClampNeg) p1 : Int32).toInt64) hx hb dL_axis_8 rfl ?_
    refine va_last (f := f) hx hb hK hP hD hS 0 3 rfl rfl (in_nI (j := 0) rfl (by omega) (by decide)) dL_axis_9 (fun H locs hP hD hS => ?_)
    refine lv_goto (tgt := 21) hx hb dL_axis_10 (by decide) ?_
    refine lv_iconst (v := 0) hx hb dL_axis_21 (by decide) ?_
    exact end_fi hx hb hrt hlk hP hS hT.symm (fun h => by rw [if_pos hT]; exact h) dL_axis_22
  · obtain ⟨hP, hD⟩ := jR hP hD hk1 hP1 cw_fst
    rcases (r_apxT : apxT p0 p1 = 0 ∨ apxT p0 p1 = 1 ∨ apxT p0 p1 = 2) with h0 | hTk | hTk
    · exact absurd h0 hT
    · have hcl : s.vm.findClass eI = some ce.cls := by rw [hTk] at hcl; exact hcl
      refine vx_catch (own := RL) (name := eI) (E := eI) hown [] ⟨0, 10, 13, 21⟩ [⟨0, 10, 17, 13⟩] (hxt.trans rfl) (fun z hz => absurd hz List.not_mem_nil) (by decide) (by decide) (hts _ q_502) (va_Nw.use rfl (hXW.2.2.1 _ (by decide +kernel))) hce hcv hcl ?_
      refine lv_astore (lv' := [(4, .ref q9), (0, .ref (ad 0)), (1, .int p0), (2, .int p1), (3, .ref o)]) hx hb dL_axis_13 hl (by decide) rfl (fun ls hl => ?_)
      refine lv_iconst (v := 1) hx hb dL_axis_15 (by decide) ?_
      exact end_fi hx hb hrt hlk hP hS hTk.symm (fun h => by rw [if_neg hT]; exact h) dL_axis_16
    · have hcl : s.vm.findClass eA = some ce.cls := by rw [hTk] at hcl; exact hcl
      refine vx_catch (own := RL) (name := eA) (E := eA) hown [⟨0, 10, 13, 21⟩] ⟨0, 10, 17, 13⟩ [] (hxt.trans rfl) (fun z hz => by simp only [List.mem_cons, List.not_mem_nil, or_false] at hz; rcases hz with rfl <;> first | exact Or.inr ⟨by decide, _, hts _ q_502, hLW.1⟩) (by decide) (by decide) (hts _ q_390) (va_Nw.use rfl (hXW.2.2.1 _ (by decide +kernel))) hce hcv hcl ?_
      refine lv_astore (lv' := [(4, .ref q9), (0, .ref (ad 0)), (1, .int p0), (2, .int p1), (3, .ref o)]) hx hb dL_axis_17 hl (by decide) rfl (fun ls hl => ?_)
      refine lv_iconst (v := 2) hx hb dL_axis_19 (by decide) ?_
      exact end_fi hx hb hrt hlk hP hS hTk.symm (fun h => by rw [if_neg hT]; exact h) dL_axis_20

theorem hdw_wear : yL_wear.cls ≠ "java/lang/invoke/MethodHandle" ∧ yL_wear.cls ≠ "java/lang/invoke/VarHandle" ∧ (parseMethodDescriptor yL_wear.desc).map (fun d => d.parameters.length) = some 4 := by decide +kernel
set_option maxRecDepth 100000 in
set_option maxHeartbeats 4000000 in
theorem w_wear (l : Launch) (D : va_G) (kA : Nat → Nat) (ad : Nat → Nat) (X : Nat → Nat → Int32) (p0 : Int32) (p1 : Int32) (o : Nat) (f : Nat → Int64)  (hnt : l.stackTraces = false) : Met l yL_wear (Cond.codeWith yL_wear cL_wear 5 (some .int) [(0, 10, 13, 21)] :: AW) ({ frames := 8, cells := 1, slots := 6, locals := 135 } : Room) (Pw [.ref (ad 0), .int p0, .int p1, .ref o] D (TY kA) ([(o, oO kA f)] ++ cw kA ad X) (Aw (cw kA ad X))) (fQ (some (.int (weT p0 p1))) D ([(o, oO kA f)] ++ cw kA ad X) ([(o, oO kA (if (weT p0 p1) = 0 then vp_updL f 0 (wrF (fun t => (sl ((X 0)) p0.toNatClampNeg) (t + 11)) p1 : Int32).toInt64 else f))] ++ cw kA ad X)) 1 6 (Aw ([(o, oO kA f)] ++ cw kA ad X)) := by
  refine MetW (by decide +kernel) (Nat.le_of_ble_eq_true rfl) ?_
  intro p e s m below meth c ls hx hb hrt hts hown hml hlk hP hK hD hS hl hXW hLW hxt
  have hl : lv_has ls 5 [(0, .ref (ad 0)), (1, .int p0), (2, .int p1), (3, .ref o)] := hl
  refine lv_aload_n hx hb dL_wear_0 rfl (lv_at hl 3 rfl) ?_
  refine lv_iconst (v := 0) hx hb dL_wear_1 (by decide) ?_
  refine lv_aload_n hx hb dL_wear_2 rfl (lv_at hl 0 rfl) ?_
  refine lv_iload_n hx hb dL_wear_3 rfl (lv_at hl 1 rfl) ?_
  refine lv_iload_n hx hb dL_wear_4 rfl (lv_at hl 2 rfl) ?_
  refine cs_xw (xrunV (As := [.int p0, .int p1]) (rest := [.int 0, .ref o]) ⟨hx, hb, hml, hown, hts⟩ (m_X5_wear l D kA ad X p0 p1  hnt) q_695 q_696 q_697 q_1 q_698 hd_X5_wear ⟨rfl, rfl⟩ ⟨Nat.le_of_ble_eq_true rfl, Nat.le_of_ble_eq_true rfl⟩ hK (ws := cw kA ad X) hP.r hD.rt hXW _ (ci := 5) (C := RX5) (Tt := TX5) (N := 6) rfl cw_arm rfl hl.1 rfl (Nat.le_of_ble_eq_true rfl) dL_wear_5 ⟨Nat.le_of_ble_eq_true rfl, Nat.le_of_ble_eq_true rfl⟩) hS Aw.rt (fun hT H locs hP1 hk1 hS => ?_) (fun hT H locs q9 ce hP1 hk1 hS hce hcv hcl => ?_)
  · obtain ⟨hP, hD⟩ := jR hP hD hk1 hP1 cw_fst
    refine lv_i2l (v := (wrF (fun t => (sl ((X 0)) p0.toNatClampNeg) (t + 11)) p1 : Int32).toInt64) hx hb dL_wear_8 rfl ?_
    refine va_last (f := f) hx hb hK hP hD hS 0 3 rfl rfl (in_nI (j := 0) rfl (by omega) (by decide)) dL_wear_9 (fun H locs hP hD hS => ?_)
    refine lv_goto (tgt := 17) hx hb dL_wear_10 (by decide) ?_
    refine lv_iconst (v := 0) hx hb dL_wear_17 (by decide) ?_
    exact end_fi hx hb hrt hlk hP hS hT.symm (fun h => by rw [if_pos hT]; exact h) dL_wear_18
  · obtain ⟨hP, hD⟩ := jR hP hD hk1 hP1 cw_fst
    rcases (r_weT : weT p0 p1 = 0 ∨ weT p0 p1 = 1) with h0 | hTk
    · exact absurd h0 hT
    · have hcl : s.vm.findClass eI = some ce.cls := by rw [hTk] at hcl; exact hcl
      refine vx_catch (own := RL) (name := eI) (E := eI) hown [] ⟨0, 10, 13, 21⟩ [] (hxt.trans rfl) (fun z hz => absurd hz List.not_mem_nil) (by decide) (by decide) (hts _ q_502) (va_Nw.use rfl (hXW.2.2.1 _ (by decide +kernel))) hce hcv hcl ?_
      refine lv_astore (lv' := [(4, .ref q9), (0, .ref (ad 0)), (1, .int p0), (2, .int p1), (3, .ref o)]) hx hb dL_wear_13 hl (by decide) rfl (fun ls hl => ?_)
      refine lv_iconst (v := 1) hx hb dL_wear_15 (by decide) ?_
      exact end_fi hx hb hrt hlk hP hS hTk.symm (fun h => by rw [if_neg hT]; exact h) dL_wear_16

theorem hdw_count : yL_count.cls ≠ "java/lang/invoke/MethodHandle" ∧ yL_count.cls ≠ "java/lang/invoke/VarHandle" ∧ (parseMethodDescriptor yL_count.desc).map (fun d => d.parameters.length) = some 3 := by decide +kernel
set_option maxRecDepth 100000 in
set_option maxHeartbeats 4000000 in
theorem w_count (l : Launch) (D : va_G) (kA : Nat → Nat) (ad : Nat → Nat) (X : Nat → Nat → Int32) (p0 : Int32) (o : Nat) (f : Nat → Int64)  (hnt : l.stackTraces = false) : Met l yL_count (Cond.codeWith yL_count cL_count 4 (some .int) [(0, 9, 12, 13)] :: AW) ({ frames := 7, cells := 1, slots := 6, locals := 131 } : Room) (Pw [.ref (ad 0), .int p0, .ref o] D (TY kA) ([(o, oO kA f)] ++ cw kA ad X) (Aw (cw kA ad X))) (fQ (some (.int (couT p0))) D ([(o, oO kA f)] ++ cw kA ad X) ([(o, oO kA (if (couT p0) = 0 then vp_updL f 0 (coF X p0 : Int32).toInt64 else f))] ++ cw kA ad X)) 1 6 (Aw ([(o, oO kA f)] ++ cw kA ad X)) := by
  refine MetW (by decide +kernel) (Nat.le_of_ble_eq_true rfl) ?_
  intro p e s m below meth c ls hx hb hrt hts hown hml hlk hP hK hD hS hl hXW hLW hxt
  have hl : lv_has ls 4 [(0, .ref (ad 0)), (1, .int p0), (2, .ref o)] := hl
  refine lv_aload_n hx hb dL_count_0 rfl (lv_at hl 2 rfl) ?_
  refine lv_iconst (v := 0) hx hb dL_count_1 (by decide) ?_
  refine lv_aload_n hx hb dL_count_2 rfl (lv_at hl 0 rfl) ?_
  refine lv_iload_n hx hb dL_count_3 rfl (lv_at hl 1 rfl) ?_
  refine cs_xw (xrunV (As := [.int p0]) (rest := [.int 0, .ref o]) ⟨hx, hb, hml, hown, hts⟩ (m_X5_count l D kA ad X p0  hnt) q_702 q_703 q_704 q_1 q_705 hd_X5_count ⟨rfl, rfl⟩ ⟨Nat.le_of_ble_eq_true rfl, Nat.le_of_ble_eq_true rfl⟩ hK (ws := cw kA ad X) hP.r hD.rt hXW _ (ci := 5) (C := RX5) (Tt := TX5) (N := 6) rfl cw_arm rfl hl.1 rfl (Nat.le_of_ble_eq_true rfl) dL_count_4 ⟨Nat.le_of_ble_eq_true rfl, Nat.le_of_ble_eq_true rfl⟩) hS Aw.rt (fun hT H locs hP1 hk1 hS => ?_) (fun hT H locs q9 ce hP1 hk1 hS hce hcv hcl => ?_)
  · obtain ⟨hP, hD⟩ := jR hP hD hk1 hP1 cw_fst
    refine lv_i2l (v := (coF X p0 : Int32).toInt64) hx hb dL_count_7 rfl ?_
    refine va_last (f := f) hx hb hK hP hD hS 0 3 rfl rfl (in_nI (j := 0) rfl (by omega) (by decide)) dL_count_8 (fun H locs hP hD hS => ?_)
    refine lv_goto (tgt := 15) hx hb dL_count_9 (by decide) ?_
    refine lv_iconst (v := 0) hx hb dL_count_15 (by decide) ?_
    exact end_fi hx hb hrt hlk hP hS hT.symm (fun h => by rw [if_pos hT]; exact h) dL_count_16
  · obtain ⟨hP, hD⟩ := jR hP hD hk1 hP1 cw_fst
    rcases (r_couT : couT p0 = 0 ∨ couT p0 = 1) with h0 | hTk
    · exact absurd h0 hT
    · have hcl : s.vm.findClass eA = some ce.cls := by rw [hTk] at hcl; exact hcl
      refine vx_catch (own := RL) (name := eA) (E := eA) hown [] ⟨0, 9, 12, 13⟩ [] (hxt.trans rfl) (fun z hz => absurd hz List.not_mem_nil) (by decide) (by decide) (hts _ q_390) (va_Nw.use rfl (hXW.2.2.1 _ (by decide +kernel))) hce hcv hcl ?_
      refine lv_astore_n (lv' := [(3, .ref q9), (0, .ref (ad 0)), (1, .int p0), (2, .ref o)]) hx hb dL_count_12 rfl hl (by decide) rfl (fun ls hl => ?_)
      refine lv_iconst (v := 1) hx hb dL_count_13 (by decide) ?_
      exact end_fi hx hb hrt hlk hP hS hTk.symm (fun h => by rw [if_neg hT]; exact h) dL_count_14

theorem hdw_setting : yL_setting.cls ≠ "java/lang/invoke/MethodHandle" ∧ yL_setting.cls ≠ "java/lang/invoke/VarHandle" ∧ (parseMethodDescriptor yL_setting.desc).map (fun d => d.parameters.length) = some 3 := by decide +kernel
set_option maxRecDepth 100000 in
set_option maxHeartbeats 4000000 in
theorem w_setting (l : Launch) (D : va_G) (kA : Nat → Nat) (ad : Nat → Nat) (X : Nat → Nat → Int32) (p0 : Int32) (o : Nat) (f : Nat → Int64)  (hnt : l.stackTraces = false) : Met l yL_setting (Cond.codeWith yL_setting cL_setting 4 (some .int) [(0, 9, 12, 21)] :: AW) ({ frames := 8, cells := 1, slots := 6, locals := 131 } : Room) (Pw [.ref (ad 0), .int p0, .ref o] D (TY kA) ([(o, oO kA f)] ++ cw kA ad X) (Aw (cw kA ad X))) (fQ (some (.int (stgT p0))) D ([(o, oO kA f)] ++ cw kA ad X) ([(o, oO kA (if (stgT p0) = 0 then vp_updL f 0 (rvF (X 0) p0 : Int32).toInt64 else f))] ++ cw kA ad X)) 1 6 (Aw ([(o, oO kA f)] ++ cw kA ad X)) := by
  refine MetW (by decide +kernel) (Nat.le_of_ble_eq_true rfl) ?_
  intro p e s m below meth c ls hx hb hrt hts hown hml hlk hP hK hD hS hl hXW hLW hxt
  have hl : lv_has ls 4 [(0, .ref (ad 0)), (1, .int p0), (2, .ref o)] := hl
  refine lv_aload_n hx hb dL_setting_0 rfl (lv_at hl 2 rfl) ?_
  refine lv_iconst (v := 0) hx hb dL_setting_1 (by decide) ?_
  refine lv_aload_n hx hb dL_setting_2 rfl (lv_at hl 0 rfl) ?_
  refine lv_iload_n hx hb dL_setting_3 rfl (lv_at hl 1 rfl) ?_
  refine cs_xw (xrunV (As := [.int p0]) (rest := [.int 0, .ref o]) ⟨hx, hb, hml, hown, hts⟩ (m_X5_setting l D kA ad X p0  hnt) q_710 q_711 q_712 q_1 q_713 hd_X5_setting ⟨rfl, rfl⟩ ⟨Nat.le_of_ble_eq_true rfl, Nat.le_of_ble_eq_true rfl⟩ hK (ws := cw kA ad X) hP.r hD.rt hXW _ (ci := 5) (C := RX5) (Tt := TX5) (N := 6) rfl cw_arm rfl hl.1 rfl (Nat.le_of_ble_eq_true rfl) dL_setting_4 ⟨Nat.le_of_ble_eq_true rfl, Nat.le_of_ble_eq_true rfl⟩) hS Aw.rt (fun hT H locs hP1 hk1 hS => ?_) (fun hT H locs q9 ce hP1 hk1 hS hce hcv hcl => ?_)
  · obtain ⟨hP, hD⟩ := jR hP hD hk1 hP1 cw_fst
    refine lv_i2l (v := (rvF (X 0) p0 : Int32).toInt64) hx hb dL_setting_7 rfl ?_
    refine va_last (f := f) hx hb hK hP hD hS 0 3 rfl rfl (in_nI (j := 0) rfl (by omega) (by decide)) dL_setting_8 (fun H locs hP hD hS => ?_)
    refine lv_goto (tgt := 15) hx hb dL_setting_9 (by decide) ?_
    refine lv_iconst (v := 0) hx hb dL_setting_15 (by decide) ?_
    exact end_fi hx hb hrt hlk hP hS hT.symm (fun h => by rw [if_pos hT]; exact h) dL_setting_16
  · obtain ⟨hP, hD⟩ := jR hP hD hk1 hP1 cw_fst
    rcases (r_stgT : stgT p0 = 0 ∨ stgT p0 = 1) with h0 | hTk
    · exact absurd h0 hT
    · have hcl : s.vm.findClass eI = some ce.cls := by rw [hTk] at hcl; exact hcl
      refine vx_catch (own := RL) (name := eI) (E := eI) hown [] ⟨0, 9, 12, 21⟩ [] (hxt.trans rfl) (fun z hz => absurd hz List.not_mem_nil) (by decide) (by decide) (hts _ q_502) (va_Nw.use rfl (hXW.2.2.1 _ (by decide +kernel))) hce hcv hcl ?_
      refine lv_astore_n (lv' := [(3, .ref q9), (0, .ref (ad 0)), (1, .int p0), (2, .ref o)]) hx hb dL_setting_12 rfl hl (by decide) rfl (fun ls hl => ?_)
      refine lv_iconst (v := 1) hx hb dL_setting_13 (by decide) ?_
      exact end_fi hx hb hrt hlk hP hS hTk.symm (fun h => by rw [if_neg hT]; exact h) dL_setting_14

theorem hdw_toll : yL_toll.cls ≠ "java/lang/invoke/MethodHandle" ∧ yL_toll.cls ≠ "java/lang/invoke/VarHandle" ∧ (parseMethodDescriptor yL_toll.desc).map (fun d => d.parameters.length) = some 4 := by decide +kernel
set_option maxRecDepth 100000 in
set_option maxHeartbeats 4000000 in
theorem w_toll (l : Launch) (D : va_G) (kA : Nat → Nat) (ad : Nat → Nat) (X : Nat → Nat → Int32) (p0 : Int32) (p1 : Bool) (o : Nat) (f : Nat → Int64)  (hnt : l.stackTraces = false) : Met l yL_toll (Cond.codeWith yL_toll cL_toll 5 (some .int) [(0, 10, 13, 21)] :: AW) ({ frames := 8, cells := 1, slots := 6, locals := 134 } : Room) (Pw [.ref (ad 0), .int p0, .int (bI p1), .ref o] D (TY kA) ([(o, oO kA f)] ++ cw kA ad X) (Aw (cw kA ad X))) (fQ (some (.int (axT p0))) D ([(o, oO kA f)] ++ cw kA ad X) ([(o, oO kA (if (axT p0) = 0 then vp_updL f 0 (tollG (sl ((X 0)) p0.toNatClampNeg) (X 0) (wI p1) : Int32).toInt64 else f))] ++ cw kA ad X)) 1 6 (Aw ([(o, oO kA f)] ++ cw kA ad X)) := by
  refine MetW (by decide +kernel) (Nat.le_of_ble_eq_true rfl) ?_
  intro p e s m below meth c ls hx hb hrt hts hown hml hlk hP hK hD hS hl hXW hLW hxt
  have hl : lv_has ls 5 [(0, .ref (ad 0)), (1, .int p0), (2, .int (bI p1)), (3, .ref o)] := hl
  refine lv_aload_n hx hb dL_toll_0 rfl (lv_at hl 3 rfl) ?_
  refine lv_iconst (v := 0) hx hb dL_toll_1 (by decide) ?_
  refine lv_aload_n hx hb dL_toll_2 rfl (lv_at hl 0 rfl) ?_
  refine lv_iload_n hx hb dL_toll_3 rfl (lv_at hl 1 rfl) ?_
  refine lv_iload_n hx hb dL_toll_4 rfl (lv_at hl 2 rfl) ?_
  refine cs_xw (xrunV (As := [.int p0, .int (bI p1)]) (rest := [.int 0, .ref o]) ⟨hx, hb, hml, hown, hts⟩ (m_X5_toll l D kA ad X p0 p1  hnt) q_717 q_718 q_719 q_1 q_720 hd_X5_toll ⟨rfl, rfl⟩ ⟨Nat.le_of_ble_eq_true rfl, Nat.le_of_ble_eq_true rfl⟩ hK (ws := cw kA ad X) hP.r hD.rt hXW _ (ci := 5) (C := RX5) (Tt := TX5) (N := 6) rfl cw_arm rfl hl.1 rfl (Nat.le_of_ble_eq_true rfl) dL_toll_5 ⟨Nat.le_of_ble_eq_true rfl, Nat.le_of_ble_eq_true rfl⟩) hS Aw.rt (fun hT H locs hP1 hk1 hS => ?_) (fun hT H locs q9 ce hP1 hk1 hS hce hcv hcl => ?_)
  · obtain ⟨hP, hD⟩ := jR hP hD hk1 hP1 cw_fst
    refine lv_i2l (v := (tollG (sl ((X 0)) p0.toNatClampNeg) (X 0) (wI p1) : Int32).toInt64) hx hb dL_toll_8 rfl ?_
    refine va_last (f := f) hx hb hK hP hD hS 0 3 rfl rfl (in_nI (j := 0) rfl (by omega) (by decide)) dL_toll_9 (fun H locs hP hD hS => ?_)
    refine lv_goto (tgt := 17) hx hb dL_toll_10 (by decide) ?_
    refine lv_iconst (v := 0) hx hb dL_toll_17 (by decide) ?_
    exact end_fi hx hb hrt hlk hP hS hT.symm (fun h => by rw [if_pos hT]; exact h) dL_toll_18
  · obtain ⟨hP, hD⟩ := jR hP hD hk1 hP1 cw_fst
    rcases (r_axT : axT p0 = 0 ∨ axT p0 = 1) with h0 | hTk
    · exact absurd h0 hT
    · have hcl : s.vm.findClass eI = some ce.cls := by rw [hTk] at hcl; exact hcl
      refine vx_catch (own := RL) (name := eI) (E := eI) hown [] ⟨0, 10, 13, 21⟩ [] (hxt.trans rfl) (fun z hz => absurd hz List.not_mem_nil) (by decide) (by decide) (hts _ q_502) (va_Nw.use rfl (hXW.2.2.1 _ (by decide +kernel))) hce hcv hcl ?_
      refine lv_astore (lv' := [(4, .ref q9), (0, .ref (ad 0)), (1, .int p0), (2, .int (bI p1)), (3, .ref o)]) hx hb dL_toll_13 hl (by decide) rfl (fun ls hl => ?_)
      refine lv_iconst (v := 1) hx hb dL_toll_15 (by decide) ?_
      exact end_fi hx hb hrt hlk hP hS hTk.symm (fun h => by rw [if_neg hT]; exact h) dL_toll_16

theorem hdw_slips : yL_slips.cls ≠ "java/lang/invoke/MethodHandle" ∧ yL_slips.cls ≠ "java/lang/invoke/VarHandle" ∧ (parseMethodDescriptor yL_slips.desc).map (fun d => d.parameters.length) = some 4 := by decide +kernel
set_option maxRecDepth 100000 in
set_option maxHeartbeats 4000000 in
theorem w_slips (l : Launch) (D : va_G) (kA : Nat → Nat) (ad : Nat → Nat) (X : Nat → Nat → Int32) (p0 : Int32) (p1 : Bool) (o : Nat) (f : Nat → Int64)  (hnt : l.stackTraces = false) : Met l yL_slips (Cond.codeWith yL_slips cL_slips 5 (some .int) [(0, 10, 13, 21)] :: AW) ({ frames := 8, cells := 1, slots := 6, locals := 134 } : Room) (Pw [.ref (ad 0), .int p0, .int (bI p1), .ref o] D (TY kA) ([(o, oO kA f)] ++ cw kA ad X) (Aw (cw kA ad X))) (fQ (some (.int (axT p0))) D ([(o, oO kA f)] ++ cw kA ad X) ([(o, oO kA (if (axT p0) = 0 then vp_updL f 0 (tsF (X 0) p0.toNatClampNeg (wI p1) : Int32).toInt64 else f))] ++ cw kA ad X)) 1 6 (Aw ([(o, oO kA f)] ++ cw kA ad X)) := by
  refine MetW (by decide +kernel) (Nat.le_of_ble_eq_true rfl) ?_
  intro p e s m below meth c ls hx hb hrt hts hown hml hlk hP hK hD hS hl hXW hLW hxt
  have hl : lv_has ls 5 [(0, .ref (ad 0)), (1, .int p0), (2, .int (bI p1)), (3, .ref o)] := hl
  refine lv_aload_n hx hb dL_slips_0 rfl (lv_at hl 3 rfl) ?_
  refine lv_iconst (v := 0) hx hb dL_slips_1 (by decide) ?_
  refine lv_aload_n hx hb dL_slips_2 rfl (lv_at hl 0 rfl) ?_
  refine lv_iload_n hx hb dL_slips_3 rfl (lv_at hl 1 rfl) ?_
  refine lv_iload_n hx hb dL_slips_4 rfl (lv_at hl 2 rfl) ?_
  refine cs_xw (xrunV (As := [.int p0, .int (bI p1)]) (rest := [.int 0, .ref o]) ⟨hx, hb, hml, hown, hts⟩ (m_X5_slips l D kA ad X p0 p1  hnt) q_724 q_725 q_726 q_1 q_727 hd_X5_slips ⟨rfl, rfl⟩ ⟨Nat.le_of_ble_eq_true rfl, Nat.le_of_ble_eq_true rfl⟩ hK (ws := cw kA ad X) hP.r hD.rt hXW _ (ci := 5) (C := RX5) (Tt := TX5) (N := 6) rfl cw_arm rfl hl.1 rfl (Nat.le_of_ble_eq_true rfl) dL_slips_5 ⟨Nat.le_of_ble_eq_true rfl, Nat.le_of_ble_eq_true rfl⟩) hS Aw.rt (fun hT H locs hP1 hk1 hS => ?_) (fun hT H locs q9 ce hP1 hk1 hS hce hcv hcl => ?_)
  · obtain ⟨hP, hD⟩ := jR hP hD hk1 hP1 cw_fst
    refine lv_i2l (v := (tsF (X 0) p0.toNatClampNeg (wI p1) : Int32).toInt64) hx hb dL_slips_8 rfl ?_
    refine va_last (f := f) hx hb hK hP hD hS 0 3 rfl rfl (in_nI (j := 0) rfl (by omega) (by decide)) dL_slips_9 (fun H locs hP hD hS => ?_)
    refine lv_goto (tgt := 17) hx hb dL_slips_10 (by decide) ?_
    refine lv_iconst (v := 0) hx hb dL_slips_17 (by decide) ?_
    exact end_fi hx hb hrt hlk hP hS hT.symm (fun h => by rw [if_pos hT]; exact h) dL_slips_18
  · obtain ⟨hP, hD⟩ := jR hP hD hk1 hP1 cw_fst
    rcases (r_axT : axT p0 = 0 ∨ axT p0 = 1) with h0 | hTk
    · exact absurd h0 hT
    · have hcl : s.vm.findClass eI = some ce.cls := by rw [hTk] at hcl; exact hcl
      refine vx_catch (own := RL) (name := eI) (E := eI) hown [] ⟨0, 10, 13, 21⟩ [] (hxt.trans rfl) (fun z hz => absurd hz List.not_mem_nil) (by decide) (by decide) (hts _ q_502) (va_Nw.use rfl (hXW.2.2.1 _ (by decide +kernel))) hce hcv hcl ?_
      refine lv_astore (lv' := [(4, .ref q9), (0, .ref (ad 0)), (1, .int p0), (2, .int (bI p1)), (3, .ref o)]) hx hb dL_slips_13 hl (by decide) rfl (fun ls hl => ?_)
      refine lv_iconst (v := 1) hx hb dL_slips_15 (by decide) ?_
      exact end_fi hx hb hrt hlk hP hS hTk.symm (fun h => by rw [if_neg hT]; exact h) dL_slips_16

theorem hdw_cost : yL_cost.cls ≠ "java/lang/invoke/MethodHandle" ∧ yL_cost.cls ≠ "java/lang/invoke/VarHandle" ∧ (parseMethodDescriptor yL_cost.desc).map (fun d => d.parameters.length) = some 5 := by decide +kernel
set_option maxRecDepth 100000 in
set_option maxHeartbeats 4000000 in
theorem w_cost (l : Launch) (D : va_G) (kA : Nat → Nat) (ad : Nat → Nat) (X : Nat → Nat → Int32) (p0 : Int32) (p1 : Int32) (p2 : Bool) (o : Nat) (f : Nat → Int64)  (hnt : l.stackTraces = false) : Met l yL_cost (Cond.codeWith yL_cost cL_cost 6 (some .int) [(0, 12, 15, 21), (0, 12, 19, 13)] :: AW) ({ frames := 8, cells := 1, slots := 6, locals := 136 } : Room) (Pw [.ref (ad 0), .int p0, .int p1, .int (bI p2), .ref o] D (TY kA) ([(o, oO kA f)] ++ cw kA ad X) (Aw (cw kA ad X))) (fQ (some (.int (coT p0 p1))) D ([(o, oO kA f)] ++ cw kA ad X) ([(o, oO kA (if (coT p0 p1) = 0 then vp_updL f 0 (costG (sl ((X 0)) p0.toNatClampNeg) (X 0) p1 (wI p2) (-1) : Int32).toInt64 else f))] ++ cw kA ad X)) 1 6 (Aw ([(o, oO kA f)] ++ cw kA ad X)) := by
  refine MetW (by decide +kernel) (Nat.le_of_ble_eq_true rfl) ?_
  intro p e s m below meth c ls hx hb hrt hts hown hml hlk hP hK hD hS hl hXW hLW hxt
  have hl : lv_has ls 6 [(0, .ref (ad 0)), (1, .int p0), (2, .int p1), (3, .int (bI p2)), (4, .ref o)] := hl
  refine lv_aload hx hb dL_cost_0 (lv_at hl 4 rfl) ?_
  refine lv_iconst (v := 0) hx hb dL_cost_2 (by decide) ?_
  refine lv_aload_n hx hb dL_cost_3 rfl (lv_at hl 0 rfl) ?_
  refine lv_iload_n hx hb dL_cost_4 rfl (lv_at hl 1 rfl) ?_
  refine lv_iload_n hx hb dL_cost_5 rfl (lv_at hl 2 rfl) ?_
  refine lv_iload_n hx hb dL_cost_6 rfl (lv_at hl 3 rfl) ?_
  refine cs_xw (xrunV (As := [.int p0, .int p1, .int (bI p2)]) (rest := [.int 0, .ref o]) ⟨hx, hb, hml, hown, hts⟩ (m_X5_cost l D kA ad X p0 p1 p2  hnt) q_731 q_732 q_733 q_1 q_734 hd_X5_cost ⟨rfl, rfl⟩ ⟨Nat.le_of_ble_eq_true rfl, Nat.le_of_ble_eq_true rfl⟩ hK (ws := cw kA ad X) hP.r hD.rt hXW _ (ci := 5) (C := RX5) (Tt := TX5) (N := 6) rfl cw_arm rfl hl.1 rfl (Nat.le_of_ble_eq_true rfl) dL_cost_7 ⟨Nat.le_of_ble_eq_true rfl, Nat.le_of_ble_eq_true rfl⟩) hS Aw.rt (fun hT H locs hP1 hk1 hS => ?_) (fun hT H locs q9 ce hP1 hk1 hS hce hcv hcl => ?_)
  · obtain ⟨hP, hD⟩ := jR hP hD hk1 hP1 cw_fst
    refine lv_i2l (v := (costG (sl ((X 0)) p0.toNatClampNeg) (X 0) p1 (wI p2) (-1) : Int32).toInt64) hx hb dL_cost_10 rfl ?_
    refine va_last (f := f) hx hb hK hP hD hS 0 3 rfl rfl (in_nI (j := 0) rfl (by omega) (by decide)) dL_cost_11 (fun H locs hP hD hS => ?_)
    refine lv_goto (tgt := 23) hx hb dL_cost_12 (by decide) ?_
    refine lv_iconst (v := 0) hx hb dL_cost_23 (by decide) ?_
    exact end_fi hx hb hrt hlk hP hS hT.symm (fun h => by rw [if_pos hT]; exact h) dL_cost_24
  · obtain ⟨hP, hD⟩ := jR hP hD hk1 hP1 cw_fst
    rcases (r_coT : coT p0 p1 = 0 ∨ coT p0 p1 = 1 ∨ coT p0 p1 = 2) with h0 | hTk | hTk
    · exact absurd h0 hT
    · have hcl : s.vm.findClass eI = some ce.cls := by rw [hTk] at hcl; exact hcl
      refine vx_catch (own := RL) (name := eI) (E := eI) hown [] ⟨0, 12, 15, 21⟩ [⟨0, 12, 19, 13⟩] (hxt.trans rfl) (fun z hz => absurd hz List.not_mem_nil) (by decide) (by decide) (hts _ q_502) (va_Nw.use rfl (hXW.2.2.1 _ (by decide +kernel))) hce hcv hcl ?_
      refine lv_astore (lv' := [(5, .ref q9), (0, .ref (ad 0)), (1, .int p0), (2, .int p1), (3, .int (bI p2)), (4, .ref o)]) hx hb dL_cost_15 hl (by decide) rfl (fun ls hl => ?_)
      refine lv_iconst (v := 1) hx hb dL_cost_17 (by decide) ?_
      exact end_fi hx hb hrt hlk hP hS hTk.symm (fun h => by rw [if_neg hT]; exact h) dL_cost_18
    · have hcl : s.vm.findClass eA = some ce.cls := by rw [hTk] at hcl; exact hcl
      refine vx_catch (own := RL) (name := eA) (E := eA) hown [⟨0, 12, 15, 21⟩] ⟨0, 12, 19, 13⟩ [] (hxt.trans rfl) (fun z hz => by simp only [List.mem_cons, List.not_mem_nil, or_false] at hz; rcases hz with rfl <;> first | exact Or.inr ⟨by decide, _, hts _ q_502, hLW.1⟩) (by decide) (by decide) (hts _ q_390) (va_Nw.use rfl (hXW.2.2.1 _ (by decide +kernel))) hce hcv hcl ?_
      refine lv_astore (lv' := [(5, .ref q9), (0, .ref (ad 0)), (1, .int p0), (2, .int p1), (3, .int (bI p2)), (4, .ref o)]) hx hb dL_cost_19 hl (by decide) rfl (fun ls hl => ?_)
      refine lv_iconst (v := 2) hx hb dL_cost_21 (by decide) ?_
      exact end_fi hx hb hrt hlk hP hS hTk.symm (fun h => by rw [if_neg hT]; exact h) dL_cost_22

theorem hdw_ifHomed : yL_ifHomed.cls ≠ "java/lang/invoke/MethodHandle" ∧ yL_ifHomed.cls ≠ "java/lang/invoke/VarHandle" ∧ (parseMethodDescriptor yL_ifHomed.desc).map (fun d => d.parameters.length) = some 4 := by decide +kernel
set_option maxRecDepth 100000 in
set_option maxHeartbeats 4000000 in
theorem w_ifHomed (l : Launch) (D : va_G) (kA : Nat → Nat) (ad : Nat → Nat) (X : Nat → Nat → Int32) (p0 : Int32) (p1 : Int32) (o : Nat) (f : Nat → Int64)  (hnt : l.stackTraces = false) : Met l yL_ifHomed (Cond.codeWith yL_ifHomed cL_ifHomed 5 (some .int) [(0, 10, 13, 21), (0, 10, 17, 13)] :: AW) ({ frames := 8, cells := 1, slots := 6, locals := 135 } : Room) (Pw [.ref (ad 0), .int p0, .int p1, .ref o] D (TY kA) ([(o, oO kA f)] ++ cw kA ad X) (Aw (cw kA ad X))) (fQ (some (.int (ihT p0 p1))) D ([(o, oO kA f)] ++ cw kA ad X) ([(o, oO kA (if (ihT p0 p1) = 0 then vp_updL f 0 (hfF (X 7) (X 0) p0.toNatClampNeg p1 : Int32).toInt64 else f))] ++ cw kA ad (if (ihT p0 p1) = 0 then (up2 X 7 (hfT (X 7) (X 0) p0.toNatClampNeg)) else X))) 1 6 (Aw ([(o, oO kA f)] ++ cw kA ad X)) := by
  refine MetW (by decide +kernel) (Nat.le_of_ble_eq_true rfl) ?_
  intro p e s m below meth c ls hx hb hrt hts hown hml hlk hP hK hD hS hl hXW hLW hxt
  have hl : lv_has ls 5 [(0, .ref (ad 0)), (1, .int p0), (2, .int p1), (3, .ref o)] := hl
  refine lv_aload_n hx hb dL_ifHomed_0 rfl (lv_at hl 3 rfl) ?_
  refine lv_iconst (v := 0) hx hb dL_ifHomed_1 (by decide) ?_
  refine lv_aload_n hx hb dL_ifHomed_2 rfl (lv_at hl 0 rfl) ?_
  refine lv_iload_n hx hb dL_ifHomed_3 rfl (lv_at hl 1 rfl) ?_
  refine lv_iload_n hx hb dL_ifHomed_4 rfl (lv_at hl 2 rfl) ?_
  refine cs_xw (xrunV (As := [.int p0, .int p1]) (rest := [.int 0, .ref o]) ⟨hx, hb, hml, hown, hts⟩ (m_X5_ifHomed l D kA ad X p0 p1  hnt) q_738 q_739 q_740 q_1 q_741 hd_X5_ifHomed ⟨rfl, rfl⟩ ⟨Nat.le_of_ble_eq_true rfl, Nat.le_of_ble_eq_true rfl⟩ hK (ws := cw kA ad X) hP.r hD.rt hXW _ (ci := 5) (C := RX5) (Tt := TX5) (N := 6) rfl cw_arm rfl hl.1 rfl (Nat.le_of_ble_eq_true rfl) dL_ifHomed_5 ⟨Nat.le_of_ble_eq_true rfl, Nat.le_of_ble_eq_true rfl⟩) hS Aw.rt (fun hT H locs hP1 hk1 hS => ?_) (fun hT H locs q9 ce hP1 hk1 hS hce hcv hcl => ?_)
  · obtain ⟨hP, hD⟩ := jR hP hD hk1 hP1 cw_fst
    refine lv_i2l (v := (hfF (X 7) (X 0) p0.toNatClampNeg p1 : Int32).toInt64) hx hb dL_ifHomed_8 rfl ?_
    refine va_last (f := f) hx hb hK hP hD hS 0 3 rfl rfl (in_nI (j := 0) rfl (by omega) (by decide)) dL_ifHomed_9 (fun H locs hP hD hS => ?_)
    refine lv_goto (tgt := 21) hx hb dL_ifHomed_10 (by decide) ?_
    refine lv_iconst (v := 0) hx hb dL_ifHomed_21 (by decide) ?_
    exact end_fi hx hb hrt hlk hP hS hT.symm (fun h => by rw [if_pos hT, if_pos hT]; exact h) dL_ifHomed_22
  · obtain ⟨hP, hD⟩ := jR hP hD hk1 hP1 cw_fst
    rcases (r_ihT : ihT p0 p1 = 0 ∨ ihT p0 p1 = 1 ∨ ihT p0 p1 = 2) with h0 | hTk | hTk
    · exact absurd h0 hT
    · have hcl : s.vm.findClass eI = some ce.cls := by rw [hTk] at hcl; exact hcl
      refine vx_catch (own := RL) (name := eI) (E := eI) hown [] ⟨0, 10, 13, 21⟩ [⟨0, 10, 17, 13⟩] (hxt.trans rfl) (fun z hz => absurd hz List.not_mem_nil) (by decide) (by decide) (hts _ q_502) (va_Nw.use rfl (hXW.2.2.1 _ (by decide +kernel))) hce hcv hcl ?_
      refine lv_astore (lv' := [(4, .ref q9), (0, .ref (ad 0)), (1, .int p0), (2, .int p1), (3, .ref o)]) hx hb dL_ifHomed_13 hl (by decide) rfl (fun ls hl => ?_)
      refine lv_iconst (v := 1) hx hb dL_ifHomed_15 (by decide) ?_
      exact end_fi hx hb hrt hlk hP hS hTk.symm (fun h => by rw [if_neg hT, if_neg hT]; exact h) dL_ifHomed_16
    · have hcl : s.vm.findClass eA = some ce.cls := by rw [hTk] at hcl; exact hcl
      refine vx_catch (own := RL) (name := eA) (E := eA) hown [⟨0, 10, 13, 21⟩] ⟨0, 10, 17, 13⟩ [] (hxt.trans rfl) (fun z hz => by simp only [List.mem_cons, List.not_mem_nil, or_false] at hz; rcases hz with rfl <;> first | exact Or.inr ⟨by decide, _, hts _ q_502, hLW.1⟩) (by decide) (by decide) (hts _ q_390) (va_Nw.use rfl (hXW.2.2.1 _ (by decide +kernel))) hce hcv hcl ?_
      refine lv_astore (lv' := [(4, .ref q9), (0, .ref (ad 0)), (1, .int p0), (2, .int p1), (3, .ref o)]) hx hb dL_ifHomed_17 hl (by decide) rfl (fun ls hl => ?_)
      refine lv_iconst (v := 2) hx hb dL_ifHomed_19 (by decide) ?_
      exact end_fi hx hb hrt hlk hP hS hTk.symm (fun h => by rw [if_neg hT, if_neg hT]; exact h) dL_ifHomed_20

theorem hdw_reach : yL_reach.cls ≠ "java/lang/invoke/MethodHandle" ∧ yL_reach.cls ≠ "java/lang/invoke/VarHandle" ∧ (parseMethodDescriptor yL_reach.desc).map (fun d => d.parameters.length) = some 4 := by decide +kernel
set_option maxRecDepth 100000 in
set_option maxHeartbeats 4000000 in
theorem w_reach (l : Launch) (D : va_G) (kA : Nat → Nat) (ad : Nat → Nat) (X : Nat → Nat → Int32) (p0 : Int32) (p1 : Bool) (o : Nat) (f : Nat → Int64)  (hnt : l.stackTraces = false) : Met l yL_reach (Cond.codeWith yL_reach cL_reach 5 (some .int) [(0, 10, 13, 21)] :: AW) ({ frames := 8, cells := 1, slots := 6, locals := 134 } : Room) (Pw [.ref (ad 0), .int p0, .int (bI p1), .ref o] D (TY kA) ([(o, oO kA f)] ++ cw kA ad X) (Aw (cw kA ad X))) (fQ (some (.int (axT p0))) D ([(o, oO kA f)] ++ cw kA ad X) ([(o, oO kA (if (axT p0) = 0 then vp_updL f 0 ((reF (X 7) (X 0) p0.toNatClampNeg (wI p1)).1 : Int32).toInt64 else f))] ++ cw kA ad (if (axT p0) = 0 then (up2 X 7 (reF (X 7) (X 0) p0.toNatClampNeg (wI p1)).2) else X))) 1 6 (Aw ([(o, oO kA f)] ++ cw kA ad X)) := by
  refine MetW (by decide +kernel) (Nat.le_of_ble_eq_true rfl) ?_
  intro p e s m below meth c ls hx hb hrt hts hown hml hlk hP hK hD hS hl hXW hLW hxt
  have hl : lv_has ls 5 [(0, .ref (ad 0)), (1, .int p0), (2, .int (bI p1)), (3, .ref o)] := hl
  refine lv_aload_n hx hb dL_reach_0 rfl (lv_at hl 3 rfl) ?_
  refine lv_iconst (v := 0) hx hb dL_reach_1 (by decide) ?_
  refine lv_aload_n hx hb dL_reach_2 rfl (lv_at hl 0 rfl) ?_
  refine lv_iload_n hx hb dL_reach_3 rfl (lv_at hl 1 rfl) ?_
  refine lv_iload_n hx hb dL_reach_4 rfl (lv_at hl 2 rfl) ?_
  refine cs_xw (xrunV (As := [.int p0, .int (bI p1)]) (rest := [.int 0, .ref o]) ⟨hx, hb, hml, hown, hts⟩ (m_X5_reach l D kA ad X p0 p1  hnt) q_746 q_747 q_748 q_1 q_749 hd_X5_reach ⟨rfl, rfl⟩ ⟨Nat.le_of_ble_eq_true rfl, Nat.le_of_ble_eq_true rfl⟩ hK (ws := cw kA ad X) hP.r hD.rt hXW _ (ci := 5) (C := RX5) (Tt := TX5) (N := 6) rfl cw_arm rfl hl.1 rfl (Nat.le_of_ble_eq_true rfl) dL_reach_5 ⟨Nat.le_of_ble_eq_true rfl, Nat.le_of_ble_eq_true rfl⟩) hS Aw.rt (fun hT H locs hP1 hk1 hS => ?_) (fun hT H locs q9 ce hP1 hk1 hS hce hcv hcl => ?_)
  · obtain ⟨hP, hD⟩ := jR hP hD hk1 hP1 cw_fst
    refine lv_i2l (v := ((reF (X 7) (X 0) p0.toNatClampNeg (wI p1)).1 : Int32).toInt64) hx hb dL_reach_8 rfl ?_
    refine va_last (f := f) hx hb hK hP hD hS 0 3 rfl rfl (in_nI (j := 0) rfl (by omega) (by decide)) dL_reach_9 (fun H locs hP hD hS => ?_)
    refine lv_goto (tgt := 17) hx hb dL_reach_10 (by decide) ?_
    refine lv_iconst (v := 0) hx hb dL_reach_17 (by decide) ?_
    exact end_fi hx hb hrt hlk hP hS hT.symm (fun h => by rw [if_pos hT, if_pos hT]; exact h) dL_reach_18
  · obtain ⟨hP, hD⟩ := jR hP hD hk1 hP1 cw_fst
    rcases (r_axT : axT p0 = 0 ∨ axT p0 = 1) with h0 | hTk
    · exact absurd h0 hT
    · have hcl : s.vm.findClass eI = some ce.cls := by rw [hTk] at hcl; exact hcl
      refine vx_catch (own := RL) (name := eI) (E := eI) hown [] ⟨0, 10, 13, 21⟩ [] (hxt.trans rfl) (fun z hz => absurd hz List.not_mem_nil) (by decide) (by decide) (hts _ q_502) (va_Nw.use rfl (hXW.2.2.1 _ (by decide +kernel))) hce hcv hcl ?_
      refine lv_astore (lv' := [(4, .ref q9), (0, .ref (ad 0)), (1, .int p0), (2, .int (bI p1)), (3, .ref o)]) hx hb dL_reach_13 hl (by decide) rfl (fun ls hl => ?_)
      refine lv_iconst (v := 1) hx hb dL_reach_15 (by decide) ?_
      exact end_fi hx hb hrt hlk hP hS hTk.symm (fun h => by rw [if_neg hT, if_neg hT]; exact h) dL_reach_16

theorem hdw_couldBe : yL_couldBe.cls ≠ "java/lang/invoke/MethodHandle" ∧ yL_couldBe.cls ≠ "java/lang/invoke/VarHandle" ∧ (parseMethodDescriptor yL_couldBe.desc).map (fun d => d.parameters.length) = some 3 := by decide +kernel
set_option maxRecDepth 100000 in
set_option maxHeartbeats 4000000 in
theorem w_couldBe (l : Launch) (D : va_G) (kA : Nat → Nat) (ad : Nat → Nat) (X : Nat → Nat → Int32) (p0 : Int32) (o : Nat) (f : Nat → Int64)  (hnt : l.stackTraces = false) : Met l yL_couldBe (Cond.codeWith yL_couldBe cL_couldBe 4 (some .int) [(0, 9, 12, 21)] :: AW) ({ frames := 8, cells := 1, slots := 6, locals := 133 } : Room) (Pw [.ref (ad 0), .int p0, .ref o] D (TY kA) ([(o, oO kA f)] ++ cw kA ad X) (Aw (cw kA ad X))) (fQ (some (.int (axT p0))) D ([(o, oO kA f)] ++ cw kA ad X) ([(o, oO kA (if (axT p0) = 0 then vp_updL f 0 (possG (sl ((X 0)) p0.toNatClampNeg) : Int32).toInt64 else f))] ++ cw kA ad X)) 1 6 (Aw ([(o, oO kA f)] ++ cw kA ad X)) := by
  refine MetW (by decide +kernel) (Nat.le_of_ble_eq_true rfl) ?_
  intro p e s m below meth c ls hx hb hrt hts hown hml hlk hP hK hD hS hl hXW hLW hxt
  have hl : lv_has ls 4 [(0, .ref (ad 0)), (1, .int p0), (2, .ref o)] := hl
  refine lv_aload_n hx hb dL_couldBe_0 rfl (lv_at hl 2 rfl) ?_
  refine lv_iconst (v := 0) hx hb dL_couldBe_1 (by decide) ?_
  refine lv_aload_n hx hb dL_couldBe_2 rfl (lv_at hl 0 rfl) ?_
  refine lv_iload_n hx hb dL_couldBe_3 rfl (lv_at hl 1 rfl) ?_
  refine cs_xw (xrunV (As := [.int p0]) (rest := [.int 0, .ref o]) ⟨hx, hb, hml, hown, hts⟩ (m_X5_couldBe l D kA ad X p0  hnt) q_753 q_754 q_755 q_1 q_756 hd_X5_couldBe ⟨rfl, rfl⟩ ⟨Nat.le_of_ble_eq_true rfl, Nat.le_of_ble_eq_true rfl⟩ hK (ws := cw kA ad X) hP.r hD.rt hXW _ (ci := 5) (C := RX5) (Tt := TX5) (N := 6) rfl cw_arm rfl hl.1 rfl (Nat.le_of_ble_eq_true rfl) dL_couldBe_4 ⟨Nat.le_of_ble_eq_true rfl, Nat.le_of_ble_eq_true rfl⟩) hS Aw.rt (fun hT H locs hP1 hk1 hS => ?_) (fun hT H locs q9 ce hP1 hk1 hS hce hcv hcl => ?_)
  · obtain ⟨hP, hD⟩ := jR hP hD hk1 hP1 cw_fst
    refine lv_i2l (v := (possG (sl ((X 0)) p0.toNatClampNeg) : Int32).toInt64) hx hb dL_couldBe_7 rfl ?_
    refine va_last (f := f) hx hb hK hP hD hS 0 3 rfl rfl (in_nI (j := 0) rfl (by omega) (by decide)) dL_couldBe_8 (fun H locs hP hD hS => ?_)
    refine lv_goto (tgt := 15) hx hb dL_couldBe_9 (by decide) ?_
    refine lv_iconst (v := 0) hx hb dL_couldBe_15 (by decide) ?_
    exact end_fi hx hb hrt hlk hP hS hT.symm (fun h => by rw [if_pos hT]; exact h) dL_couldBe_16
  · obtain ⟨hP, hD⟩ := jR hP hD hk1 hP1 cw_fst
    rcases (r_axT : axT p0 = 0 ∨ axT p0 = 1) with h0 | hTk
    · exact absurd h0 hT
    · have hcl : s.vm.findClass eI = some ce.cls := by rw [hTk] at hcl; exact hcl
      refine vx_catch (own := RL) (name := eI) (E := eI) hown [] ⟨0, 9, 12, 21⟩ [] (hxt.trans rfl) (fun z hz => absurd hz List.not_mem_nil) (by decide) (by decide) (hts _ q_502) (va_Nw.use rfl (hXW.2.2.1 _ (by decide +kernel))) hce hcv hcl ?_
      refine lv_astore_n (lv' := [(3, .ref q9), (0, .ref (ad 0)), (1, .int p0), (2, .ref o)]) hx hb dL_couldBe_12 rfl hl (by decide) rfl (fun ls hl => ?_)
      refine lv_iconst (v := 1) hx hb dL_couldBe_13 (by decide) ?_
      exact end_fi hx hb hrt hlk hP hS hTk.symm (fun h => by rw [if_neg hT]; exact h) dL_couldBe_14

theorem hdw_worst : yL_worst.cls ≠ "java/lang/invoke/MethodHandle" ∧ yL_worst.cls ≠ "java/lang/invoke/VarHandle" ∧ (parseMethodDescriptor yL_worst.desc).map (fun d => d.parameters.length) = some 4 := by decide +kernel
set_option maxRecDepth 100000 in
set_option maxHeartbeats 4000000 in
theorem w_worst (l : Launch) (D : va_G) (kA : Nat → Nat) (ad : Nat → Nat) (X : Nat → Nat → Int32) (p0 : Int32) (p1 : Int32) (o : Nat) (f : Nat → Int64)  (hnt : l.stackTraces = false) : Met l yL_worst (Cond.codeWith yL_worst cL_worst 5 (some .int) [(0, 10, 13, 21), (0, 10, 17, 13)] :: AW) ({ frames := 8, cells := 1, slots := 6, locals := 135 } : Room) (Pw [.ref (ad 0), .int p0, .int p1, .ref o] D (TY kA) ([(o, oO kA f)] ++ cw kA ad X) (Aw (cw kA ad X))) (fQ (some (.int (coT p0 p1))) D ([(o, oO kA f)] ++ cw kA ad X) ([(o, oO kA (if (coT p0 p1) = 0 then vp_updL f 0 (woF (X 0) p0.toNatClampNeg p1 : Int32).toInt64 else f))] ++ cw kA ad X)) 1 6 (Aw ([(o, oO kA f)] ++ cw kA ad X)) := by
  refine MetW (by decide +kernel) (Nat.le_of_ble_eq_true rfl) ?_
  intro p e s m below meth c ls hx hb hrt hts hown hml hlk hP hK hD hS hl hXW hLW hxt
  have hl : lv_has ls 5 [(0, .ref (ad 0)), (1, .int p0), (2, .int p1), (3, .ref o)] := hl
  refine lv_aload_n hx hb dL_worst_0 rfl (lv_at hl 3 rfl) ?_
  refine lv_iconst (v := 0) hx hb dL_worst_1 (by decide) ?_
  refine lv_aload_n hx hb dL_worst_2 rfl (lv_at hl 0 rfl) ?_
  refine lv_iload_n hx hb dL_worst_3 rfl (lv_at hl 1 rfl) ?_
  refine lv_iload_n hx hb dL_worst_4 rfl (lv_at hl 2 rfl) ?_
  refine cs_xw (xrunV (As := [.int p0, .int p1]) (rest := [.int 0, .ref o]) ⟨hx, hb, hml, hown, hts⟩ (m_X5_worst l D kA ad X p0 p1  hnt) q_760 q_761 q_762 q_1 q_763 hd_X5_worst ⟨rfl, rfl⟩ ⟨Nat.le_of_ble_eq_true rfl, Nat.le_of_ble_eq_true rfl⟩ hK (ws := cw kA ad X) hP.r hD.rt hXW _ (ci := 5) (C := RX5) (Tt := TX5) (N := 6) rfl cw_arm rfl hl.1 rfl (Nat.le_of_ble_eq_true rfl) dL_worst_5 ⟨Nat.le_of_ble_eq_true rfl, Nat.le_of_ble_eq_true rfl⟩) hS Aw.rt (fun hT H locs hP1 hk1 hS => ?_) (fun hT H locs q9 ce hP1 hk1 hS hce hcv hcl => ?_)
  · obtain ⟨hP, hD⟩ := jR hP hD hk1 hP1 cw_fst
    refine lv_i2l (v := (woF (X 0) p0.toNatClampNeg p1 : Int32).toInt64) hx hb dL_worst_8 rfl ?_
    refine va_last (f := f) hx hb hK hP hD hS 0 3 rfl rfl (in_nI (j := 0) rfl (by omega) (by decide)) dL_worst_9 (fun H locs hP hD hS => ?_)
    refine lv_goto (tgt := 21) hx hb dL_worst_10 (by decide) ?_
    refine lv_iconst (v := 0) hx hb dL_worst_21 (by decide) ?_
    exact end_fi hx hb hrt hlk hP hS hT.symm (fun h => by rw [if_pos hT]; exact h) dL_worst_22
  · obtain ⟨hP, hD⟩ := jR hP hD hk1 hP1 cw_fst
    rcases (r_coT : coT p0 p1 = 0 ∨ coT p0 p1 = 1 ∨ coT p0 p1 = 2) with h0 | hTk | hTk
    · exact absurd h0 hT
    · have hcl : s.vm.findClass eI = some ce.cls := by rw [hTk] at hcl; exact hcl
      refine vx_catch (own := RL) (name := eI) (E := eI) hown [] ⟨0, 10, 13, 21⟩ [⟨0, 10, 17, 13⟩] (hxt.trans rfl) (fun z hz => absurd hz List.not_mem_nil) (by decide) (by decide) (hts _ q_502) (va_Nw.use rfl (hXW.2.2.1 _ (by decide +kernel))) hce hcv hcl ?_
      refine lv_astore (lv' := [(4, .ref q9), (0, .ref (ad 0)), (1, .int p0), (2, .int p1), (3, .ref o)]) hx hb dL_worst_13 hl (by decide) rfl (fun ls hl => ?_)
      refine lv_iconst (v := 1) hx hb dL_worst_15 (by decide) ?_
      exact end_fi hx hb hrt hlk hP hS hTk.symm (fun h => by rw [if_neg hT]; exact h) dL_worst_16
    · have hcl : s.vm.findClass eA = some ce.cls := by rw [hTk] at hcl; exact hcl
      refine vx_catch (own := RL) (name := eA) (E := eA) hown [⟨0, 10, 13, 21⟩] ⟨0, 10, 17, 13⟩ [] (hxt.trans rfl) (fun z hz => by simp only [List.mem_cons, List.not_mem_nil, or_false] at hz; rcases hz with rfl <;> first | exact Or.inr ⟨by decide, _, hts _ q_502, hLW.1⟩) (by decide) (by decide) (hts _ q_390) (va_Nw.use rfl (hXW.2.2.1 _ (by decide +kernel))) hce hcv hcl ?_
      refine lv_astore (lv' := [(4, .ref q9), (0, .ref (ad 0)), (1, .int p0), (2, .int p1), (3, .ref o)]) hx hb dL_worst_17 hl (by decide) rfl (fun ls hl => ?_)
      refine lv_iconst (v := 2) hx hb dL_worst_19 (by decide) ?_
      exact end_fi hx hb hrt hlk hP hS hTk.symm (fun h => by rw [if_neg hT]; exact h) dL_worst_20
