/-! what the class's methods need beside their world: what they throw is made of, their texts, their statics; the shapes of a contract that returns or throws -/
abbrev eA : String := "java/lang/IllegalArgumentException"
abbrev eS : String := "java/lang/IllegalStateException"
abbrev eI : String := "java/lang/IndexOutOfBoundsException"
abbrev eN : List String := ["java/lang/RuntimeException", "java/lang/Exception"]
def xN : List Cond := [.castable eA eA, .castable eS eS, .castable eI eI, .declares (Bundle.initS "java/lang/RuntimeException"), .declares (Bundle.initS "java/lang/Exception"), .declares (Bundle.initS Bundle.tN)]
def xS : List (Nat × String) := [(47, "money is out of range"), (58, "there would be too much in the purse"), (69, "load is out of range"), (82, "value is out of range"), (98, "steps is out of range or 0"), (108, "the first step cannot be made"), (135, "the purse has less than greasing costs"), (150, "the purse has less than mending costs"), (182, "what is not 0 to 11"), (187, "what is not 0 to 8"), (203, "what is not 0 to 2"), (249, "there is no such axis"), (252, "there is no such setting"), (254, "there is no such tooth"), (256, "place is out of range")]
def leS (j : Nat) : Int32 := if j = 1 then 1 else if j = 2 then 1 else 0
def moS (j : Nat) : Int32 := if j = 0 then 20 else if j = 1 then 50 else if j = 2 then 99 else if j = 3 then 20 else if j = 4 then 100 else 200
def XT (n : String) (f : Nat → Int32) (A : Nat → Prop) (U : State) (H : Heap) : Prop := ∃ a : Nat, va_Z RX5 n "[I" (.ref a) A U H ∧ va_T .int a 6 (fun j => .int (f j)) A U H
def XW (A : Nat → Prop) (U : State) (H : Heap) : Prop := vx_Zq Bundle.tN "UNASSIGNED_STACK" Bundle.steD A U H ∧ vx_Zq Bundle.tN "SUPPRESSED_SENTINEL" Bundle.listD A U H ∧ (∀ w ∈ xN, va_Nw w U) ∧ (∀ q ∈ xS, ∃ a : Nat, vk_R RX5 q.1 q.2 a U) ∧ XT "LEAST_OF_SETTING" leS A U H ∧ XT "MOST_OF_SETTING" moS A U H
theorem wi_c {p M M' : Int32} (h : wiF p 0 M = true) (hM : M'.toInt = M.toInt + 1) : ¬ p < 0 ∧ p < M' := by
  unfold wiF at h
  by_cases h0 : p < 0
  · rw [if_pos h0] at h; exact absurd h Bool.false_ne_true
  · by_cases h1 : M < p
    · rw [if_neg h0, if_pos h1] at h; exact absurd h Bool.false_ne_true
    · refine ⟨h0, ?_⟩
      rw [Int32.lt_iff_toInt_lt] at h1 ⊢
      omega
theorem wi_n {p M M' : Int32} (h : ¬ wiF p 0 M = true) (hM : M'.toInt = M.toInt + 1) : p < 0 ∨ ¬ p < M' := by
  by_cases h0 : p < 0
  · exact Or.inl h0
  · refine Or.inr fun h2 => h ?_
    unfold wiF
    rw [if_neg h0, if_neg]
    intro h1
    rw [Int32.lt_iff_toInt_lt] at h1 h2
    omega
theorem ax_bad {p : Int32} (h : ¬ wiF p 0 3 = true) : p < 0 ∨ ¬ p < 4 := wi_n h rfl
theorem gt_L {q M M' : Int32} (h : M'.toInt = M.toInt + 1) : (M < q) = ¬ q < M' := propext (by rw [Int32.lt_iff_toInt_lt, Int32.lt_iff_toInt_lt]; omega)
theorem gt11 {q : Int32} : (11 < q) = ¬ q < 12 := gt_L rfl
theorem gt2 {q : Int32} : (2 < q) = ¬ q < 3 := gt_L rfl
theorem gt8 {q : Int32} : (8 < q) = ¬ q < 9 := gt_L rfl
theorem gt23 {q : Int32} : (23 < q) = ¬ q < 24 := gt_L rfl
theorem gt5 {q : Int32} : (5 < q) = ¬ q < 6 := gt_L rfl
theorem xN_warm {s U : State} (hW : s.WarmedH U.vm) : ∀ w ∈ xN, va_Nw w s → va_Nw w U := by
  intro w hw h
  simp only [xN, List.mem_cons, List.not_mem_nil, or_false] at hw
  rcases hw with rfl | rfl | rfl | rfl | rfl | rfl
  · exact va_Nw.warmC hW h
  · exact va_Nw.warmC hW h
  · exact va_Nw.warmC hW h
  · exact va_Nw.warmD hW h
  · exact va_Nw.warmD hW h
  · exact va_Nw.warmD hW h
theorem XT.warm {n : String} {f : Nat → Int32} {A : Nat → Prop} {s U : State} {H : Heap} (hW : s.WarmedH U.vm) (h : XT n f A s H) : XT n f A U H := by
  obtain ⟨a, h1, h2⟩ := h
  exact ⟨a, va_Z.moved hW.alike h1, va_T.moved hW.alike h2⟩
theorem XT.kept {n : String} {f : Nat → Int32} {A : Nat → Prop} {U : State} {H H1 : Heap} (h : XT n f A U H) (hq : ∀ a : Nat, a < H.size → ¬ A a → H1[a]? = H[a]?) : XT n f A U H1 := by
  obtain ⟨a, h1, h2⟩ := h
  exact ⟨a, va_Z.kept h1 hq, va_T.kept h2 hq⟩
theorem XT.narrow {n : String} {f : Nat → Int32} {A B : Nat → Prop} {U : State} {H : Heap} (h : XT n f A U H) (hAB : ∀ q, B q → A q) : XT n f B U H := by
  obtain ⟨a, h1, h2⟩ := h
  exact ⟨a, va_Z.narrow h1 hAB, va_T.narrow h2 hAB⟩
theorem XW.warm {A : Nat → Prop} {s U : State} {H : Heap} (hW : s.WarmedH U.vm) (h : XW A s H) : XW A U H := by
  obtain ⟨h1, h2, h3, h4, h5, h6⟩ := h
  refine ⟨vx_Zq.moved hW.alike h1, vx_Zq.moved hW.alike h2, fun w hw => xN_warm hW w hw (h3 w hw), fun q hq => ?_, h5.warm hW, h6.warm hW⟩
  obtain ⟨a, ha⟩ := h4 q hq
  exact ⟨a, vk_R.warm hW ha⟩
theorem XW.kept {A : Nat → Prop} {U : State} {H H1 : Heap} (h : XW A U H) (hq : ∀ a : Nat, a < H.size → ¬ A a → H1[a]? = H[a]?) : XW A U H1 := by
  obtain ⟨h1, h2, h3, h4, h5, h6⟩ := h
  exact ⟨vx_Zq.kept h1 hq, vx_Zq.kept h2 hq, h3, h4, h5.kept hq, h6.kept hq⟩
theorem XW.narrow {A B : Nat → Prop} {U : State} {H : Heap} (h : XW A U H) (hAB : ∀ q, B q → A q) : XW B U H := by
  obtain ⟨h1, h2, h3, h4, h5, h6⟩ := h
  exact ⟨vx_Zq.narrow h1 hAB, vx_Zq.narrow h2 hAB, h3, h4, h5.narrow hAB, h6.narrow hAB⟩
/-- a start with these beside -/
def Px (av : List Value) (D : va_G) (tys : List (ClassId × FieldType)) (ws : va_W) : Array Value → State → Prop := fun v U => Pz av D tys ws v U ∧ XW (Aw ws) U U.heap
/-- the name of what is thrown, by its number -/
def xE (L : List String) (t : Int32) : String := (L[t.toNatClampNeg - 1]?).getD ""
def xQ (T : Int32) (v : Option Value) (D : va_G) (ws ws' : va_W) : Array Value → State → Outcome → State → Prop := fun _ st oc t => T = 0 ∧ oc = .returned v ∧ va_P D vwCl ws' t.heap ∧ va_F (Aw ws) st t
def xX (T : Int32) (L : List String) (D : va_G) (ws wsx : va_W) : String → State → State → Prop := fun E st t => T ≠ 0 ∧ E = xE L T ∧ va_P D vwCl wsx t.heap ∧ va_F (Aw ws) st t
section XB
variable {p : Program} {l : Launch} {e : Env} {R : Room} {s : State} {m : MethodId} {args : Array Value} {below : List Frame} {meth : Method} {c : Code} {H : Heap} {locs : List Loc} {cells slots : Nat} {Q : State → Prop}
variable {pc : Nat} {ls : Array Slot} {rest st0 : List Value} {a : Array Value} {A0 : Nat → Prop} {H0 : Heap} {D : va_G} {tys : List (ClassId × FieldType)} {cc : ByteArray} {ws ws1 ws' wsx wsx1 : va_W}
theorem Px.blind {av : List Value} : FrameBlind (Px av D tys ws) := fun a U g mk q => ⟨Pz.blind a U g mk q.1, XW.warm (s := U) (U := U.calling g mk a) (State.WarmedH.refl U) q.2⟩
theorem Px.pre {av : List Value} {A : Nat → Prop} (hP : va_P D vwCl ws H) (hK : va_K D vwCl tys s) (hD : va_D A ws) (hX : XW (Aw ws) s H) : ∀ U : State, U.heap = H → s.WarmedH U.vm → Px av D tys ws av.toArray U :=
  fun U hU hW => ⟨Pz.pre hP hK hD U hU hW, by rw [hU]; exact hX.warm hW⟩
theorem MetX {y : MethodName} {maxL : Nat} {ret : Option FieldType} {rm : Room} {av : List Value} {Qc : Array Value → State → Outcome → State → Prop} {XC : String → State → State → Prop} {free : Addr → Prop} {mc ms : Nat} (hy : plainName y.cls = true) (hlen : (lg_sl av).length ≤ maxL)
    (body : ∀ (p : Program) (e : Env) (s : State) (m : MethodId) (below : List Frame) (meth : Method) (c : Code) (ls : Array Slot), p.tables.exec = Jvm.exec → c.code = cc → meth.sig.returnType = ret → (∀ w ∈ AW, w.before av.toArray s = true) → s.vm.findClass y.cls = some m.cls → c.maxLocals = maxL → meth.locks = false → va_P D vwCl ws s.heap → va_K D vwCl tys s → va_D (Aw ws) ws → va_S (Aw ws) s.heap s.heap [] → lv_has ls maxL (lv_args 0 av) → XW (Aw ws) s s.heap → (∀ x ∈ c.exceptionTable.toList, False) →
      W p l e rm s m av.toArray below meth c s.heap [] 0 0 (vx_MQ below Qc XC av.toArray s mc ms free) (F0 m 0 ls [])) : vx_Met l y (Cond.code y cc maxL ret :: AW) rm (Px av D tys ws) Qc XC mc ms free := by
  refine vx_ofW (cc := cc) (maxL := maxL) (ret := ret) hy rfl ?_
  intro p e s m args below meth c s₁ B hml hxt hv
  obtain ⟨⟨rfl, hP, hK, hD⟩, hX⟩ := hv
  have hts := atoms_spec (ws := Cond.code y cc maxL ret :: AW) B.pre
  have hl := lv_entry av (n := maxL) hlen
  rw [lg_entry_eq]
  exact body p e s m below meth c _ B.exec B.bytes B.returns (fun w h => hts w (List.mem_cons_of_mem _ h)) (findClass_of_methodNamed B.named) hml B.notSynchronized hP hK ⟨hD.1, fun k q hk => ⟨k, q.2, hk⟩⟩ va_S.rf hl hX hxt
variable {T : Int32} {L : List String}
theorem end_xi {v w : Int32} (hx : p.tables.exec = Jvm.exec) (hb : c.code = cc) (hr : meth.sig.returnType = some .int) (hlocks : meth.locks = false) (hP : va_P D vwCl ws1 H) (hS : va_S (Aw ws) s.heap H locs) (hT : T = 0) (hv : v = w) (hw : va_P D vwCl ws1 H → va_P D vwCl ws' H) (hdg : decode cc pc = .ok (.ireturn, 1)) : W p l e R s m args below meth c H locs 0 0 (vx_MQ below (xQ T (some (.int w)) D ws ws') (xX T L D ws wsx) args s 1 6 (Aw ws)) (F0 m pc ls [.int v]) := by
  subst hv
  exact W.widen (k := 1) (n := 6) (Nat.zero_le _) (Nat.zero_le _) (vx_ret (W.iret hx hb hr (fun t ht _ => ⟨hT, rfl, by rw [ht]; exact hw hP, hS.F ht⟩) hS.2.2 hdg))
theorem end_xv (hx : p.tables.exec = Jvm.exec) (hb : c.code = cc) (hr : meth.sig.returnType = none) (hlocks : meth.locks = false) (hP : va_P D vwCl ws1 H) (hS : va_S (Aw ws) s.heap H locs) (hT : T = 0) (hw : va_P D vwCl ws1 H → va_P D vwCl ws' H) (hdg : decode cc pc = .ok (.return_, 1)) : W p l e R s m args below meth c H locs 0 0 (vx_MQ below (xQ T none D ws ws') (xX T L D ws wsx) args s 1 6 (Aw ws)) (F0 m pc ls []) :=
  W.widen (k := 1) (n := 6) (Nat.zero_le _) (Nat.zero_le _) (vx_ret (W.vret hx hb hr (fun t ht _ => ⟨hT, rfl, by rw [ht]; exact hw hP, hS.F ht⟩) hS.2.2 hdg))
theorem xh_at {ic : Nat} {cls : String} (hts : ∀ w ∈ AW, w.before args s = true) (hX : XW A0 s H) (hg : ∀ w ∈ (vx_atS RX5 ic cls eN).filter goodWord, w ∈ AW) (hbad : ∀ w ∈ (vx_atS RX5 ic cls eN).filter (fun w => !goodWord w), w ∈ xN) : ∀ w ∈ vx_atS RX5 ic cls eN, w.before args s = true := by
  refine vx_hat (B := xN) (fun w h => hts w (hg w h)) hbad (fun w h => va_Nw.use ?_ (hX.2.2.1 w h))
  have : xN.all (fun w => w.onTables) = true := by decide +kernel
  exact List.all_eq_true.mp this w h
theorem xh_S (hS : va_S (Aw ws) s.heap H locs) {t : State} (hz : H.size ≤ t.heap.size) (hq : ∀ q : Nat, q < H.size → t.heap[q]? = H[q]?) : va_F (Aw ws) s t :=
  ⟨Nat.le_trans hS.1 hz, fun q h1 h2 => (hq q (Nat.lt_of_lt_of_le h1 hS.1)).trans (hS.2.1 q h1 h2)⟩
theorem end_xt {cls text : String} {ik is ic : Nat} {k : Int32} {v : Option Value} (hx : p.tables.exec = Jvm.exec) (hb : c.code = cc) (hnt : l.stackTraces = false) (hown : s.vm.findClass RX5 = some m.cls) (hts : ∀ w ∈ AW, w.before args s = true) (hml : ls.size = c.maxLocals) (hX : XW (Aw ws) s s.heap) (hP : va_P D vwCl ws1 H) (hS : va_S (Aw ws) s.heap H locs) (hw : va_P D vwCl ws1 H → va_P D vwCl wsx H)
    (hcls : Bundle.fit cls = true) (hk : Cond.classLink RX5 ik cls ∈ AW) (hini : Cond.initialized cls ∈ AW) (hg : ∀ w ∈ (vx_atS RX5 ic cls eN).filter goodWord, w ∈ AW) (hbad : ∀ w ∈ (vx_atS RX5 ic cls eN).filter (fun w => !goodWord w), w ∈ xN) (hgood : ∀ w ∈ Cond.classLink RX5 ik cls :: Cond.initialized cls :: vx_atS RX5 ic cls eN, vx_ot w = true)
    (hstr : (is, text) ∈ xS) (d0 : decode cc pc = .ok (.new ik, 3)) (d3 : decode cc (pc + 3) = .ok (.dup, 1)) (d4 : decode cc (pc + 4) = .ok (.ldc is, 2)) (d6 : decode cc (pc + 6) = .ok (.invokespecial ic, 3)) (d9 : decode cc (pc + 9) = .ok (.athrow, 1))
    (hout : ∀ x ∈ c.exceptionTable.toList, False) (hR : 5 < R.frames ∧ (rest.map fun v => v.category).sum + 82 ≤ R.locals ∧ 1 ≤ R.cells ∧ 6 ≤ R.slots) (hlocks : meth.locks = false) (hT : T = k) (hk0 : k ≠ 0) (hN : xE L k = cls) : W p l e R s m args below meth c H locs 0 0 (vx_MQ below (xQ T v D ws ws') (xX T L D ws wsx) args s 1 6 (Aw ws)) (F0 m pc ls rest) := by
  obtain ⟨sa, hsa⟩ := hX.2.2.2.1 _ hstr
  exact vx_throwS hx hb hnt hown hcls (by decide +kernel) (hts _ hk) (hts _ hini) hsa (xh_at hts hX hg hbad) hgood hX.1 hX.2.1 hS hml d0 d3 d4 d6 d9 (fun x h => (hout x h).elim) hR.1 hR.2.1 (by rw [Nat.zero_add]; exact hR.2.2.1) (by rw [Nat.zero_add]; exact hR.2.2.2) hlocks
    (fun t _ hz hq => ⟨by rw [hT]; exact hk0, by rw [hT, hN], (hw hP).kept (fun k x hx => hq x.1 ((hw hP k x hx).lt)), xh_S hS hz hq⟩) hS.2.2 (Nat.le_refl _) (Nat.le_refl _)
theorem end_xtW {cls text : String} {ik is ic : Nat} {k : Int32} {v : Option Value} (hx : p.tables.exec = Jvm.exec) (hb : c.code = cc) (hnt : l.stackTraces = false) (hown : s.vm.findClass RX5 = some m.cls) (hts : ∀ w ∈ AW, w.before args s = true) (hml : ls.size = c.maxLocals) (hX : XW (Aw ws) s s.heap) (hP : va_P D vwCl ws1 H) (hS : va_S (Aw ws) s.heap H locs) (hw : va_P D vwCl ws1 H → va_P D vwCl wsx H)
    (hcls : Bundle.fit cls = true) (hk : Cond.classLink RX5 ik cls ∈ AW) (hini : Cond.initialized cls ∈ AW) (hg : ∀ w ∈ (vx_atS RX5 ic cls eN).filter goodWord, w ∈ AW) (hbad : ∀ w ∈ (vx_atS RX5 ic cls eN).filter (fun w => !goodWord w), w ∈ xN) (hgood : ∀ w ∈ Cond.classLink RX5 ik cls :: Cond.initialized cls :: vx_atS RX5 ic cls eN, vx_ot w = true)
    (hstr : (is, text) ∈ xS) (d0 : decode cc pc = .ok (.new ik, 3)) (d3 : decode cc (pc + 3) = .ok (.dup, 1)) (d4 : decode cc (pc + 4) = .ok (.ldc_w is, 3)) (d7 : decode cc (pc + 7) = .ok (.invokespecial ic, 3)) (d10 : decode cc (pc + 10) = .ok (.athrow, 1))
    (hout : ∀ x ∈ c.exceptionTable.toList, False) (hR : 5 < R.frames ∧ (rest.map fun v => v.category).sum + 82 ≤ R.locals ∧ 1 ≤ R.cells ∧ 6 ≤ R.slots) (hlocks : meth.locks = false) (hT : T = k) (hk0 : k ≠ 0) (hN : xE L k = cls) : W p l e R s m args below meth c H locs 0 0 (vx_MQ below (xQ T v D ws ws') (xX T L D ws wsx) args s 1 6 (Aw ws)) (F0 m pc ls rest) := by
  obtain ⟨sa, hsa⟩ := hX.2.2.2.1 _ hstr
  exact vx_throwSW hx hb hnt hown hcls (by decide +kernel) (hts _ hk) (hts _ hini) hsa (xh_at hts hX hg hbad) hgood hX.1 hX.2.1 hS hml d0 d3 d4 d7 d10 (fun x h => (hout x h).elim) hR.1 hR.2.1 (by rw [Nat.zero_add]; exact hR.2.2.1) (by rw [Nat.zero_add]; exact hR.2.2.2) hlocks
    (fun t _ hz hq => ⟨by rw [hT]; exact hk0, by rw [hT, hN], (hw hP).kept (fun k x hx => hq x.1 ((hw hP k x hx).lt)), xh_S hS hz hq⟩) hS.2.2 (Nat.le_refl _) (Nat.le_refl _)
/-- a call that throws, and its exception goes on -/
theorem cs_xt {T1 : Int32} {L1 : List String} {v v1 : Option Value} {ws1' : va_W} (hr : vx_Run p l e R s m args below meth c H locs 0 0 1 6 (F0 m pc ls st0) rest (xQ T1 v1 D ws ws1' a) (xX T1 L1 D ws wsx1) (Aw ws)) (hS : va_S (Aw ws) s.heap H locs) (h1 : T1 ≠ 0)
    (hout : ∀ x ∈ c.exceptionTable.toList, False) (hlocks : meth.locks = false) (hw : ∀ H1 : Heap, va_P D vwCl wsx1 H1 → va_P D vwCl wsx H1) (hT : T ≠ 0) (hN : xE L T = xE L1 T1) : W p l e R s m args below meth c H locs 0 0 (vx_MQ below (xQ T v D ws ws') (xX T L D ws wsx) args s 1 6 (Aw ws)) (F0 m pc ls st0) := by
  intro T0 hT0 X
  rcases hr T0 hT0 X with ⟨v9, st₀, t, T', L9, h0, X', hL, e1, e2, ⟨hz, -⟩, st⟩ | ⟨q, st₀, t, T', L9, E, ce, h0, X', hL, e1, e2, ⟨-, hE, hp, hF⟩, hce, hcv, hcl, st⟩
  · exact absurd hz h1
  · obtain ⟨k1, k2, k3⟩ := vx_keep h0 e1 hS (fun q _ h => h) (fun q h => h) hL hF
    obtain ⟨t2, a1, b1⟩ := vx_out (Qc := xQ T v D ws ws') (XC := xX T L D ws wsx) (free := Aw ws) (mc := 1) (ms := 6) (rest := rest) (ls := ls) (pc := pc) (fun x h => (hout x h).elim) hlocks (by rw [e1]; exact hce) hcv hcl
      (fun t9 ht9 _ => ⟨hT, by rw [hE, hN], by rw [ht9, e1]; exact hw _ hp, k3.F ht9⟩) k3.2.2 (Nat.le_refl _) (Nat.le_refl _) T' rfl X'
    exact ⟨t2, st.trans a1, b1⟩
section XRUN
variable {y : MethodName} {bytes : ByteArray} {maxL nL n idx ci N mc ms : Nat} {ret : Option FieldType} {rm : Room} {own C : String} {Tt : u_T} {b : Addr} {fs As : List Value} {A : Nat → Prop} {Qc : Array Value → State → Outcome → State → Prop} {XC : String → State → State → Prop} {free : Addr → Prop}
theorem xrunV (S : CallFix p m c cc nL s args AW own) (hM : vx_Met l y (Cond.code y bytes maxL ret :: AW) rm (Px (.ref b :: As) D tys ws) Qc XC mc ms free)
    (h1 : Cond.methodLink own idx y ∈ AW) (h2 : Cond.instanceMethod y ∈ AW) (h3 : Cond.selects C y y ∈ AW) (h4 : Cond.initialized y.cls ∈ AW) (h5 : Cond.code y bytes maxL ret ∈ AW)
    (hd : y.cls ≠ "java/lang/invoke/MethodHandle" ∧ y.cls ≠ "java/lang/invoke/VarHandle" ∧ (parseMethodDescriptor y.desc).map (fun d => d.parameters.length) = some n) (hrm : rm.cells = mc ∧ rm.slots = ms) (hR : rm.frames + 1 ≤ R.frames ∧ 8 + (maxL + 11) + rm.locals ≤ R.locals)
    (hK : va_K D vwCl tys s) (hP : va_P D vwCl ws H) (hD : va_D A ws) (hX : XW (Aw ws) s H) (q0 : Nat) (hc : vwCl[ci]? = some (C, Tt, N)) (he : ws[q0]? = some (b, .inr (ci, fs)))
    (hn : As.length = n) (hsize : ls.size = nL) (hst : st0 = As.reverse ++ .ref b :: rest) (hW : (rest.map fun v => v.category).sum ≤ 8) (hdg : decode cc pc = .ok (.invokevirtual idx, 3)) (hf : cells + mc ≤ R.cells ∧ slots + ms ≤ R.slots) :
    vx_Run p l e R s m args below meth c H locs cells slots mc ms (F0 m pc ls st0) rest (Qc (Value.ref b :: As).toArray) XC free :=
  vx_runV S hM ⟨callB_of n S.2.2.2.2 (gAW h5) rfl hrm.1 hrm.2 (S.2.2.2.2 _ h4) (S.2.2.2.2 _ h1) hd hR, S.2.2.2.2 _ h2, S.2.2.2.2 _ h3⟩ ⟨Px.blind, va_recv hK hP hc he, Px.pre hP hK hD hX⟩ rfl hn hsize hst (lv_room hW) hdg hf
theorem xrunS (S : CallFix p m c cc nL s args AW own) (hM : vx_Met l y (Cond.code y bytes maxL ret :: AW) rm (Px As D tys ws) Qc XC mc ms free)
    (h1 : Cond.methodLink own idx y ∈ AW) (h2 : Cond.static y ∈ AW) (h4 : Cond.initialized y.cls ∈ AW) (h5 : Cond.code y bytes maxL ret ∈ AW)
    (hd : y.cls ≠ "java/lang/invoke/MethodHandle" ∧ y.cls ≠ "java/lang/invoke/VarHandle" ∧ (parseMethodDescriptor y.desc).map (fun d => d.parameters.length) = some n) (hrm : rm.cells = mc ∧ rm.slots = ms) (hR : rm.frames + 1 ≤ R.frames ∧ 8 + (maxL + 11) + rm.locals ≤ R.locals)
    (hK : va_K D vwCl tys s) (hP : va_P D vwCl ws H) (hD : va_D A ws) (hX : XW (Aw ws) s H)
    (hn : As.length = n) (hsize : ls.size = nL) (hst : st0 = As.reverse ++ rest) (hW : (rest.map fun v => v.category).sum ≤ 8) (hdg : decode cc pc = .ok (.invokestatic idx, 3)) (hf : cells + mc ≤ R.cells ∧ slots + ms ≤ R.slots) :
    vx_Run p l e R s m args below meth c H locs cells slots mc ms (F0 m pc ls st0) rest (Qc As.toArray) XC free :=
  vx_runS S hM ⟨callB_of n S.2.2.2.2 (gAW h5) rfl hrm.1 hrm.2 (S.2.2.2.2 _ h4) (S.2.2.2.2 _ h1) hd hR, S.2.2.2.2 _ h2⟩ ⟨Px.blind, Px.pre hP hK hD hX⟩ rfl hn hsize hst (lv_room hW) hdg hf
/-- a method that doesn't throw, over such a start -/
theorem yrunS (S : CallFix p m c cc nL s args AW own) (hM : Met l y (Cond.code y bytes maxL ret :: AW) rm (Px As D tys ws) Qc mc ms free)
    (h1 : Cond.methodLink own idx y ∈ AW) (h2 : Cond.static y ∈ AW) (h4 : Cond.initialized y.cls ∈ AW) (h5 : Cond.code y bytes maxL ret ∈ AW)
    (hd : y.cls ≠ "java/lang/invoke/MethodHandle" ∧ y.cls ≠ "java/lang/invoke/VarHandle" ∧ (parseMethodDescriptor y.desc).map (fun d => d.parameters.length) = some n) (hrm : rm.cells = mc ∧ rm.slots = ms) (hR : rm.frames + 1 ≤ R.frames ∧ 8 + (maxL + 11) + rm.locals ≤ R.locals)
    (hK : va_K D vwCl tys s) (hP : va_P D vwCl ws H) (hD : va_D A ws) (hX : XW (Aw ws) s H)
    (hn : As.length = n) (hsize : ls.size = nL) (hst : st0 = As.reverse ++ rest) (hW : (rest.map fun v => v.category).sum ≤ 8) (hdg : decode cc pc = .ok (.invokestatic idx, 3)) (hf : cells + mc ≤ R.cells ∧ slots + ms ≤ R.slots) :
    va_Run p l e R s m args below meth c H locs cells slots mc ms (F0 m pc ls st0) rest (Qc As.toArray) free :=
  va_runS S hM ⟨callB_of n S.2.2.2.2 (gAW h5) rfl hrm.1 hrm.2 (S.2.2.2.2 _ h4) (S.2.2.2.2 _ h1) hd hR, S.2.2.2.2 _ h2⟩ ⟨Px.blind, Px.pre hP hK hD hX⟩ rfl hn hsize hst (lv_room hW) hdg hf
end XRUN
theorem cs_pv (hr : va_Run p l e R s m args below meth c H locs cells slots 0 0 (F0 m pc ls st0) rest (pQ none a) (fun _ => False))
    (kk : W p l e R s m args below meth c H locs cells slots Q (F0 m (pc + 3) ls rest)) : W p l e R s m args below meth c H locs cells slots Q (F0 m pc ls st0) := by
  intro T hT X
  obtain ⟨v', st₀, t, T', L, h0, X', hL, e1, -, ⟨hv, hh⟩, st⟩ := hr T hT X
  cases hv
  obtain ⟨t2, a1, b1⟩ := kk T' (by rw [e1, hh, h0]) (Stand.forget X' (fun q h => (hL q h).elim))
  exact ⟨t2, st t2 a1, b1⟩
theorem MetY {y : MethodName} {maxL : Nat} {ret : Option FieldType} {rm : Room} {av : List Value} {Qc : Array Value → State → Outcome → State → Prop} {free : Addr → Prop} {mc ms : Nat} (hy : plainFor y = true) (hlen : (lg_sl av).length ≤ maxL)
    (body : ∀ (p : Program) (e : Env) (s : State) (m : MethodId) (below : List Frame) (meth : Method) (c : Code) (ls : Array Slot), p.tables.exec = Jvm.exec → c.code = cc → meth.sig.returnType = ret → (∀ w ∈ AW, w.before av.toArray s = true) → s.vm.findClass y.cls = some m.cls → c.maxLocals = maxL → meth.locks = false → meth.name = y.name → va_P D vwCl ws s.heap → va_K D vwCl tys s → va_D (Aw ws) ws → va_S (Aw ws) s.heap s.heap [] → lv_has ls maxL (lv_args 0 av) → XW (Aw ws) s s.heap →
      W p l e rm s m av.toArray below meth c s.heap [] 0 0 (MQ below Qc av.toArray s mc ms free) (F0 m 0 ls [])) : Met l y (Cond.code y cc maxL ret :: AW) rm (Px av D tys ws) Qc mc ms free := by
  refine Met.ofF (cc := cc) (maxL := maxL) (ret := ret) hy rfl ?_
  intro p e s m args below meth c s₁ B hml hv
  obtain ⟨⟨rfl, hP, hK, hD⟩, hX⟩ := hv
  have hts := atoms_spec (ws := Cond.code y cc maxL ret :: AW) B.pre
  have hin := (name_of_methodNamed B.named B.method).1
  have hl := lv_entry av (n := maxL) hlen
  rw [lg_entry_eq]
  exact body p e s m below meth c _ B.exec B.bytes B.returns (fun w h => hts w (List.mem_cons_of_mem _ h)) (findClass_of_methodNamed B.named) hml B.notSynchronized hin hP hK ⟨hD.1, fun k q hk => ⟨k, q.2, hk⟩⟩ va_S.rf hl hX
end XB
theorem xg_A : ∀ w ∈ (vx_atS RX5 49 eA eN).filter goodWord, w ∈ AW := aw_all (by decide +kernel)
theorem xb_A : ∀ w ∈ (vx_atS RX5 49 eA eN).filter (fun w => !goodWord w), w ∈ xN := by decide +kernel
theorem xo_A : ∀ w ∈ Cond.classLink RX5 45 eA :: Cond.initialized eA :: vx_atS RX5 49 eA eN, vx_ot w = true := by decide +kernel
theorem xg_S : ∀ w ∈ (vx_atS RX5 60 eS eN).filter goodWord, w ∈ AW := aw_all (by decide +kernel)
theorem xb_S : ∀ w ∈ (vx_atS RX5 60 eS eN).filter (fun w => !goodWord w), w ∈ xN := by decide +kernel
theorem xo_S : ∀ w ∈ Cond.classLink RX5 56 eS :: Cond.initialized eS :: vx_atS RX5 60 eS eN, vx_ot w = true := by decide +kernel
theorem xg_I : ∀ w ∈ (vx_atS RX5 251 eI eN).filter goodWord, w ∈ AW := aw_all (by decide +kernel)
theorem xb_I : ∀ w ∈ (vx_atS RX5 251 eI eN).filter (fun w => !goodWord w), w ∈ xN := by decide +kernel
theorem xo_I : ∀ w ∈ Cond.classLink RX5 247 eI :: Cond.initialized eI :: vx_atS RX5 251 eI eN, vx_ot w = true := by decide +kernel

