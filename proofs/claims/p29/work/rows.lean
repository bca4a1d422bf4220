section
-- ===== PART A: goes FIRST, ahead of the names: the tables' words, and 'selects' of the private methods out of them =====
/-- a private method of a class that the tables say can be made, by its rows of tables_1 -/
def lw_okq (q : MethodName × Nat) : Prop := (q.1.cls ≠ "java/lang/invoke/MethodHandle" ∧ q.1.cls ≠ "java/lang/invoke/VarHandle") ∧ Cond.instantiable q.1.cls q.2 ∈ tables_1 ∧ Cond.privateMethod q.1 ∈ tables_1 ∧ Cond.instanceMethod q.1 ∈ tables_1
theorem lw_p0 : lw_okq (⟨"ArmTolls", "gearOf", "(I)LArmTolls$Gear;"⟩, 6) := ⟨⟨by decide +kernel, by decide +kernel⟩, List.mem_of_getElem? (i := 16) (by decide +kernel), List.mem_of_getElem? (i := 222) (by decide +kernel), List.mem_of_getElem? (i := 223) (by decide +kernel)⟩
theorem lw_p1 : lw_okq (⟨"java/lang/Throwable", "fillInStackTrace", "(I)Ljava/lang/Throwable;"⟩, 6) := ⟨⟨by decide +kernel, by decide +kernel⟩, List.mem_of_getElem? (i := 268) (by decide +kernel), List.mem_of_getElem? (i := 266) (by decide +kernel), List.mem_of_getElem? (i := 267) (by decide +kernel)⟩
theorem lw_p2 : lw_okq (⟨"ArmTolls", "canStep", "(LArmTolls$Gear;I)Z"⟩, 6) := ⟨⟨by decide +kernel, by decide +kernel⟩, List.mem_of_getElem? (i := 16) (by decide +kernel), List.mem_of_getElem? (i := 317) (by decide +kernel), List.mem_of_getElem? (i := 318) (by decide +kernel)⟩
theorem lw_p3 : lw_okq (⟨"ArmTolls", "makeSteps", "(LArmTolls$Gear;II)I"⟩, 6) := ⟨⟨by decide +kernel, by decide +kernel⟩, List.mem_of_getElem? (i := 16) (by decide +kernel), List.mem_of_getElem? (i := 380) (by decide +kernel), List.mem_of_getElem? (i := 381) (by decide +kernel)⟩
theorem lw_p4 : lw_okq (⟨"ArmTolls", "canGo", "(LArmTolls$Gear;I)Z"⟩, 6) := ⟨⟨by decide +kernel, by decide +kernel⟩, List.mem_of_getElem? (i := 16) (by decide +kernel), List.mem_of_getElem? (i := 421) (by decide +kernel), List.mem_of_getElem? (i := 422) (by decide +kernel)⟩
theorem lw_p5 : lw_okq (⟨"ArmTolls", "cheaperWay", "(LArmTolls$Gear;I)I"⟩, 6) := ⟨⟨by decide +kernel, by decide +kernel⟩, List.mem_of_getElem? (i := 16) (by decide +kernel), List.mem_of_getElem? (i := 425) (by decide +kernel), List.mem_of_getElem? (i := 426) (by decide +kernel)⟩
theorem lw_p6 : lw_okq (⟨"ArmTolls", "goTo", "(LArmTolls$Gear;I)I"⟩, 6) := ⟨⟨by decide +kernel, by decide +kernel⟩, List.mem_of_getElem? (i := 16) (by decide +kernel), List.mem_of_getElem? (i := 429) (by decide +kernel), List.mem_of_getElem? (i := 430) (by decide +kernel)⟩
theorem lw_p7 : lw_okq (⟨"ArmTolls", "homingFact", "(LArmTolls$Gear;I)I"⟩, 6) := ⟨⟨by decide +kernel, by decide +kernel⟩, List.mem_of_getElem? (i := 16) (by decide +kernel), List.mem_of_getElem? (i := 438) (by decide +kernel), List.mem_of_getElem? (i := 439) (by decide +kernel)⟩
theorem lw_p8 : lw_okq (⟨"ArmTolls", "makeHomed", "(LArmTolls$Gear;)Z"⟩, 6) := ⟨⟨by decide +kernel, by decide +kernel⟩, List.mem_of_getElem? (i := 16) (by decide +kernel), List.mem_of_getElem? (i := 452) (by decide +kernel), List.mem_of_getElem? (i := 453) (by decide +kernel)⟩
theorem lw_p9 : lw_okq (⟨"ArmTolls", "canGrease", "()Z"⟩, 6) := ⟨⟨by decide +kernel, by decide +kernel⟩, List.mem_of_getElem? (i := 16) (by decide +kernel), List.mem_of_getElem? (i := 475) (by decide +kernel), List.mem_of_getElem? (i := 476) (by decide +kernel)⟩
theorem lw_p10 : lw_okq (⟨"ArmTolls", "makeGreased", "(LArmTolls$Gear;)V"⟩, 6) := ⟨⟨by decide +kernel, by decide +kernel⟩, List.mem_of_getElem? (i := 16) (by decide +kernel), List.mem_of_getElem? (i := 480) (by decide +kernel), List.mem_of_getElem? (i := 481) (by decide +kernel)⟩
theorem lw_p11 : lw_okq (⟨"ArmTolls", "countOf", "(I)I"⟩, 6) := ⟨⟨by decide +kernel, by decide +kernel⟩, List.mem_of_getElem? (i := 16) (by decide +kernel), List.mem_of_getElem? (i := 550) (by decide +kernel), List.mem_of_getElem? (i := 551) (by decide +kernel)⟩
def lw_privs_1 : List (MethodName × Nat) := [(⟨"ArmTolls", "gearOf", "(I)LArmTolls$Gear;"⟩, 6), (⟨"java/lang/Throwable", "fillInStackTrace", "(I)Ljava/lang/Throwable;"⟩, 6), (⟨"ArmTolls", "canStep", "(LArmTolls$Gear;I)Z"⟩, 6), (⟨"ArmTolls", "makeSteps", "(LArmTolls$Gear;II)I"⟩, 6), (⟨"ArmTolls", "canGo", "(LArmTolls$Gear;I)Z"⟩, 6), (⟨"ArmTolls", "cheaperWay", "(LArmTolls$Gear;I)I"⟩, 6), (⟨"ArmTolls", "goTo", "(LArmTolls$Gear;I)I"⟩, 6), (⟨"ArmTolls", "homingFact", "(LArmTolls$Gear;I)I"⟩, 6), (⟨"ArmTolls", "makeHomed", "(LArmTolls$Gear;)Z"⟩, 6), (⟨"ArmTolls", "canGrease", "()Z"⟩, 6), (⟨"ArmTolls", "makeGreased", "(LArmTolls$Gear;)V"⟩, 6), (⟨"ArmTolls", "countOf", "(I)I"⟩, 6)]
theorem lw_r1 : ∀ q ∈ lw_privs_1, lw_okq q := List.forall_mem_cons.mpr ⟨lw_p0, List.forall_mem_cons.mpr ⟨lw_p1, List.forall_mem_cons.mpr ⟨lw_p2, List.forall_mem_cons.mpr ⟨lw_p3, List.forall_mem_cons.mpr ⟨lw_p4, List.forall_mem_cons.mpr ⟨lw_p5, List.forall_mem_cons.mpr ⟨lw_p6, List.forall_mem_cons.mpr ⟨lw_p7, List.forall_mem_cons.mpr ⟨lw_p8, List.forall_mem_cons.mpr ⟨lw_p9, List.forall_mem_cons.mpr ⟨lw_p10, List.forall_mem_cons.mpr ⟨lw_p11, fun _ h => absurd h List.not_mem_nil⟩⟩⟩⟩⟩⟩⟩⟩⟩⟩⟩⟩
def lw_privs : List (MethodName × Nat) := lw_privs_1
def lw_tbl : List Cond := k2_sels lw_privs ++ tables_1
theorem lw_privs_ok : ∀ q ∈ lw_privs, lw_okq q := lw_r1
-- ===== end of PART A; then your names; then what follows =====
end
section
/-! ===== BEGIN words of one list among another's, by their places ===== -/
theorem goodIn_r {big : List Cond} (ws : List Cond) (ps : List Nat) (hp : ws = ps.filterMap (fun i => big[i]?)) (h : ws.all goodWord = true) : GoodIn big ws := by
  intro w hw
  have h1 := List.all_eq_true.mp h w hw
  rw [hp] at hw
  obtain ⟨i, -, hi⟩ := List.mem_filterMap.mp hw
  have hm : w ∈ big := by first | exact List.mem_of_getElem? hi | exact List.getElem?_mem hi
  exact ⟨hm, good_of_word h1⟩
theorem goodIn_app {big a b : List Cond} (ha : GoodIn big a) (hb : GoodIn big b) : GoodIn big (a ++ b) := fun w h => (List.mem_append.mp h).elim (ha w) (hb w)
theorem goodIn_ca {big a b : List Cond} {c : Cond} (ha : GoodIn big (c :: a)) (hb : GoodIn big b) : GoodIn big (c :: (a ++ b)) := fun w h => (List.mem_cons.mp h).elim (fun e => ha w (List.mem_cons.mpr (Or.inl e))) (fun h => (List.mem_append.mp h).elim (fun h => ha w (List.mem_cons.mpr (Or.inr h))) (hb w))
theorem goodIn_sub {big ws : List Cond} (hm : ∀ w ∈ ws, w ∈ big) (h : ws.all goodWord = true) : GoodIn big ws := fun w hw => ⟨hm w hw, good_of_word (List.all_eq_true.mp h w hw)⟩
/-! ===== END ===== -/

/-! ===== BEGIN exceptions that leave a method, and their catching by the caller (launches without stack traces) ===== -/
section VXA
/-! The laws vx_back, vx_callV, vx_callS, vx_callSW, vx_throw0, vx_throwS follow proofs of the library, with one case more: JvmDerived/Free/Laws.lean (Back.of_free), Shelf42/LK1.lean (callV, callS), Shelf/KitTraced.lean (throwNew0V, throwNewS). -/
/-- where a method has thrown q: the class by its name, the cell, what was written, the world -/
def vx_T (XC : String → State → State → Prop) (st : State) (q : Addr) (t : State) (mc ms : Nat) (free : Addr → Prop) : Prop :=
  ∃ (E : String) (ce : Cell) (L : List Loc), XC E st t ∧ t.heap[q]? = some ce ∧ ce.vm = .none ∧ st.vm.findClass E = some ce.cls ∧ st.WarmedH t.vm ∧ st.sameButNew ({ t with vm := st.vm } : State) L mc ms ∧ ∀ z ∈ L, free z.base
def vx_Q (Qc : Array Value → State → Outcome → State → Prop) (XC : String → State → State → Prop) (mc ms : Nat) (free : Addr → Prop) : Array Value → State → Outcome → State → Prop := fun a st o t =>
  (Qc a st o t ∧ ∃ L, FrameEnd st o t L mc ms ∧ ∀ q ∈ L, free q.base) ∨ ∃ q, o = .threw q ∧ vx_T XC st q t mc ms free
/-- a callee that returns or throws -/
def vx_Met (l : Launch) (y : MethodName) (ws : List Cond) (rm : Room) (Pc : Array Value → State → Prop) (Qc : Array Value → State → Outcome → State → Prop) (XC : String → State → State → Prop) (mc ms : Nat) (free : Addr → Prop) : Prop :=
  MetFree l y (headSpec ws rm) Pc (fun _ _ _ _ _ => True) (vx_Q Qc XC mc ms free)
def vx_Post (XC : String → State → State → Prop) (mc ms : Nat) (free : Addr → Prop) : Pt → Array Value → Addr → Pt → Prop := fun A a q B =>
  ∃ (g : JFrame) (mk : MethodId) (t : State) (L : List Loc) (E : String) (ce : Cell), B.U.heap = t.heap ∧ B.U.vm = t.vm ∧ XC E (A.U.calling g mk a) t ∧ t.heap[q]? = some ce ∧ ce.vm = .none ∧ A.U.vm.findClass E = some ce.cls ∧ B.locs = A.locs ++ L ∧ (∀ z ∈ L, free z.base) ∧ B.cells = A.cells + mc ∧ B.slots = A.slots + ms
def vx_Back (l : Launch) (R : Room) (p : Program) (e : Env) (below : List Frame) (s : State) (sargs : Array Value) (y : MethodName) (len W9 : Nat)
    (Pre : Pt → Array Value → Prop) (Post : Pt → Array Value → Option Value → Pt → Prop) (PostX : Pt → Array Value → Addr → Pt → Prop) : Prop :=
  ∀ (m : MethodId) (meth : Method) (c : Code) (A : Pt) (g : JFrame) (ig : Instr) (mk : MethodId) (a : Array Value),
    Stand p l e R s m sargs below meth c A.U A.locs A.cells A.slots → g.method = m → g.locals.size = c.maxLocals → decode c.code g.pc = .ok (ig, len) →
    2 * g.monitorRoom + (g.stack.map fun v => v.category).sum ≤ W9 → A.U.methodNamed? y = some mk → Pre A a →
    (∃ (v : Option Value) (B : Pt), Stand p l e R s m sargs below meth c B.U B.locs B.cells B.slots ∧ Post A a v B ∧
      Steps p.tables e below (doInvoke e (A.U.setTop g) [] mk a).1 (B.U.setTop { g with pc := g.pc + len, stack := v.toList ++ g.stack })) ∨
    (∃ (q : Addr) (B : Pt), Stand p l e R s m sargs below meth c B.U B.locs B.cells B.slots ∧ PostX A a q B ∧
      Steps p.tables e below (doInvoke e (A.U.setTop g) [] mk a).1 ((B.U.setTop g).pushFrame (.throwing q)))
section Payer
variable {l : Launch} {R : Room} {p : Program} {e : Env} {below : List Frame} {s : State} {sargs : Array Value} {y : MethodName} {len W9 : Nat}
theorem vx_back {ws : List Cond} {rm : Room} {Pc : Array Value → State → Prop} {Qc : Array Value → State → Outcome → State → Prop} {XC : String → State → State → Prop} {mc ms : Nat} {free : Addr → Prop} {bytes : ByteArray} {maxL : Nat} {ret : Option FieldType}
    (hM : vx_Met l y ws rm Pc Qc XC mc ms free) (hblind : FrameBlind Pc) (hrc : rm.cells = mc) (hrs : rm.slots = ms)
    (hframes : rm.frames + 1 ≤ R.frames) (hlocals : W9 + (maxL + 11) + rm.locals ≤ R.locals)
    (hws : ∀ w ∈ ws, ∀ a' U, s.WarmedH U.vm → w.before a' U = true) (hcode : Cond.code y bytes maxL ret ∈ ws) (hinit : ∀ a' U, s.WarmedH U.vm → (Cond.initialized y.cls).before a' U = true) :
    vx_Back l R p e below s sargs y len W9 (PreOf R mc ms Pc) (PostOf Qc mc ms free) (vx_Post XC mc ms free) := by
  intro m meth c A g ig mk a X hg hsize hdg hW hn hp
  have h1 : (headSpec ws rm).pre.before a A.U = true := atoms_intro fun w hw => hws w hw _ _ X.warmed
  have h2 : (Cond.code y bytes maxL ret).before a A.U = true := hws _ hcode _ _ X.warmed
  have h3 : (Cond.initialized y.cls).before a A.U = true := hinit _ _ X.warmed
  have h4 : A.cells + (headSpec ws rm).room.cells ≤ R.cells := by rw [show (headSpec ws rm).room.cells = mc from hrc]; exact hp.1
  have h5 : A.slots + (headSpec ws rm).room.slots ≤ R.slots := by rw [show (headSpec ws rm).room.slots = ms from hrs]; exact hp.2.1
  have hPc : Pc a (A.U.calling g mk a) := hblind _ _ _ _ hp.2.2
  obtain ⟨U, Ls, c0, s0⟩ := A
  dsimp only [Pt.U, Pt.locs, Pt.cells, Pt.slots] at h1 h2 h3 h4 h5 X hn hPc ⊢
  obtain ⟨methY, cY, hmY, hcY, -, hlY, -, -, -, -⟩ := Cond.code_spec hn h2
  obtain ⟨kY, hkY, -⟩ := className_of_methodNamed hn
  have hinitY : kY.init = .initialized := Cond.initialized_spec (findClass_of_methodNamed hn) hkY h3
  have h : At U g.method c below := by rw [hg]; exact X.here
  have hlocals9 : W9 + (maxL + 11) + (headSpec ws rm).room.locals ≤ R.locals := hlocals
  have happ : (headSpec ws rm).appliesLoose y e.platform (U.calling g mk a) = true :=
    Spec.appliesLoose_calling (g := g) h hdg hn hkY hinitY
      (X.room_calling (g := g) (R' := (headSpec ws rm).room) hsize hmY hcY hframes (by rw [hlY]; omega) h4 h5) h1
  obtain ⟨mid, hmid⟩ := h.above
  have hfr : (U.setTop g).frames = (.java g :: mid) ++ below := by rw [State.frames_setTop' g h.top, hmid]; rfl
  obtain ⟨o, s₂, hsteps, -, hend, hq⟩ := Steps.callFree hM p X.admits X.cas X.clock (acts := []) hfr happ hPc trivial
  have hq' : vx_Q Qc XC mc ms free a (U.calling g mk a) o s₂ := hq
  rw [State.frames_setTop' g h.top] at hend
  obtain ⟨g₀, hg0⟩ := Option.isSome_iff_exists.mp h.top
  obtain ⟨r, hr⟩ := State.topJava?_eq_some.mp hg0
  have hr' : (({ U with heap := s₂.heap, slotsUsed := s₂.slotsUsed } : State).setVm s₂.vm).frames = .java g₀ :: r := hr
  rcases hq' with ⟨hqc, L, hfe, hL⟩ | ⟨q, rfl, E, ce, L, hx, hce, hcv, hcl, hW₂, hsm, hL⟩
  · obtain ⟨⟨v, rfl⟩, hW₂, e2, q2, q3, q4, q5, q6⟩ := id hfe
    have e3 : s₂ = ({ (U.calling g mk a).setFrames s₂.frames with heap := s₂.heap, slotsUsed := s₂.slotsUsed } : State).setVm s₂.vm := by
      have : s₂ = ({ s₂ with vm := (U.calling g mk a).vm } : State).setVm s₂.vm := rfl
      rw [e2] at this
      exact this
    obtain ⟨c₂, i₂, len₂, hc₂, hd₂, hf₂⟩ := hend
    have hW' : U.WarmedH s₂.vm := hW₂
    have hcc : c₂ = c := by
      have h1 : s₂.code? g.method = U.code? g.method := by
        rw [State.code?_eq, State.code?_eq, hW'.alike.method?]
      exact Option.some.inj (hc₂.symm.trans (h1.trans h.code))
    subst hcc
    have hlen : len₂ = len := by rw [hdg] at hd₂; cases hd₂; rfl
    subst hlen
    have hs₂ : s₂ = (({ U with heap := s₂.heap, slotsUsed := s₂.slotsUsed } : State).setVm s₂.vm).setTop { g with pc := g.pc + len₂, stack := v.toList ++ g.stack } := by
      refine e3.trans ?_
      rw [hf₂, State.calling_eq h.top, State.setFrames_setFrames, State.setTop_of_frames _ hr', hr]
      rfl
    have hsame : U.sameButNew ({ U with heap := s₂.heap, slotsUsed := s₂.slotsUsed } : State) L mc ms := by
      refine ⟨?_, q2, q3, q4, q5, q6⟩
      obtain ⟨t, ht, -⟩ := State.frames_cons hr
      show ({ U with heap := s₂.heap, slotsUsed := s₂.slotsUsed } : State) = { U.setFrames U.frames with heap := s₂.heap, slotsUsed := s₂.slotsUsed }
      rw [State.setFrames_self ht]
    subst hg
    refine Or.inl ⟨v, ⟨(({ U with heap := s₂.heap, slotsUsed := s₂.slotsUsed } : State).setVm s₂.vm), Ls ++ L, c0 + mc, s0 + ms⟩,
      ⟨X.admits, X.cas, X.clock, X.frames, X.room, X.hears, X.method, X.code, (X.here.setHeapUsed s₂.heap s₂.slotsUsed).setVm hW'.alike, X.tail, State.WarmedH.trans X.warmed hW', X.limits, X.bytes, X.same.trans (hsame.setVm s.vm)⟩,
      ⟨g, mk, s₂, L, rfl, rfl, hqc, rfl, hL, rfl, rfl⟩, ?_⟩
    show Steps p.tables e below _ ((({ U with heap := s₂.heap, slotsUsed := s₂.slotsUsed } : State).setVm s₂.vm).setTop { g with pc := g.pc + len₂, stack := v.toList ++ g.stack })
    rw [← hs₂]
    exact hsteps
  · obtain ⟨e2, q2, q3, q4, q5, q6⟩ := id hsm
    have e3 : s₂ = ({ (U.calling g mk a).setFrames s₂.frames with heap := s₂.heap, slotsUsed := s₂.slotsUsed } : State).setVm s₂.vm := by
      have : s₂ = ({ s₂ with vm := (U.calling g mk a).vm } : State).setVm s₂.vm := rfl
      rw [e2] at this
      exact this
    have hf₂ : s₂.frames = .throwing q :: .java g :: U.frames.tail := hend
    have hW' : U.WarmedH s₂.vm := hW₂
    have hs₂ : s₂ = ((({ U with heap := s₂.heap, slotsUsed := s₂.slotsUsed } : State).setVm s₂.vm).setTop g).pushFrame (.throwing q) := by
      refine e3.trans ?_
      rw [hf₂, State.calling_eq h.top, State.setFrames_setFrames, State.pushFrame, State.frames_setTop _ hr', State.setTop_of_frames _ hr', State.setFrames_setFrames, hr]
      rfl
    have hsame : U.sameButNew ({ U with heap := s₂.heap, slotsUsed := s₂.slotsUsed } : State) L mc ms := by
      refine ⟨?_, q2, q3, q4, q5, q6⟩
      obtain ⟨t, ht, -⟩ := State.frames_cons hr
      show ({ U with heap := s₂.heap, slotsUsed := s₂.slotsUsed } : State) = { U.setFrames U.frames with heap := s₂.heap, slotsUsed := s₂.slotsUsed }
      rw [State.setFrames_self ht]
    subst hg
    refine Or.inr ⟨q, ⟨(({ U with heap := s₂.heap, slotsUsed := s₂.slotsUsed } : State).setVm s₂.vm), Ls ++ L, c0 + mc, s0 + ms⟩,
      ⟨X.admits, X.cas, X.clock, X.frames, X.room, X.hears, X.method, X.code, (X.here.setHeapUsed s₂.heap s₂.slotsUsed).setVm hW'.alike, X.tail, State.WarmedH.trans X.warmed hW', X.limits, X.bytes, X.same.trans (hsame.setVm s.vm)⟩,
      ⟨g, mk, s₂, L, E, ce, rfl, rfl, hx, hce, hcv, hcl, rfl, hL, rfl, rfl⟩, ?_⟩
    show Steps p.tables e below _ (((({ U with heap := s₂.heap, slotsUsed := s₂.slotsUsed } : State).setVm s₂.vm).setTop g).pushFrame (.throwing q))
    rw [← hs₂]
    exact hsteps
end Payer
section Calls
variable {p : Program} {l : Launch} {e : Env} {R : Room} {s : State} {m : MethodId} {args : Array Value} {below : List Frame} {meth : Method} {c : Code} {T : State} {locs : List Loc} {cells slots : Nat}
theorem vx_callV (X : Stand p l e R s m args below meth c T locs cells slots) (hexec : p.tables.exec = Jvm.exec) {own C : String} {index : Nat} {y : MethodName} {bytes : ByteArray} {maxL : Nat} {ret : Option FieldType}
    (hown : s.vm.findClass own = some m.cls) (hlink : (Cond.methodLink own index y).before args s = true) (hinst : (Cond.instanceMethod y).before args s = true) (hsel : (Cond.selects C y y).before args s = true)
    (hcode : (Cond.code y bytes maxL ret).before args s = true) (hy : y.cls ≠ "java/lang/invoke/MethodHandle" ∧ y.cls ≠ "java/lang/invoke/VarHandle")
    {W9 : Nat} {Pre : Pt → Array Value → Prop} {Post : Pt → Array Value → Option Value → Pt → Prop} {PostX : Pt → Array Value → Addr → Pt → Prop} (hK : vx_Back l R p e below s args y 3 W9 Pre Post PostX)
    {b : Addr} {cellB : Cell} (hcell : T.heap[b]? = some cellB) (hobj : cellB.vm.isStatics = false) (hcls : s.vm.findClass C = some cellB.cls)
    {g : JFrame} (hg : g.method = m) (hsize : g.locals.size = c.maxLocals) {argsL rest : List Value} (hlen : ∀ sig, parseMethodDescriptor y.desc = some sig → argsL.length = sig.parameters.length)
    (hstack : g.stack = argsL.reverse ++ .ref b :: rest) (hW : 2 * g.monitorRoom + (rest.map fun v => v.category).sum ≤ W9) (hdg : decode c.code g.pc = .ok (.invokevirtual index, 3))
    (hpre : ∀ vm₁, s.WarmedH vm₁ → Pre ⟨T.setVm vm₁, locs, cells, slots⟩ (Value.ref b :: argsL).toArray) :
    (∃ (v : Option Value) (vm₁ : Vm) (B : Pt), s.WarmedH vm₁ ∧ Stand p l e R s m args below meth c B.U B.locs B.cells B.slots ∧ Post ⟨T.setVm vm₁, locs, cells, slots⟩ (Value.ref b :: argsL).toArray v B ∧
      ∀ target, Steps p.tables e below (B.U.setTop { g with pc := g.pc + 3, stack := v.toList ++ rest }) target → Steps p.tables e below (T.setTop g) target) ∨
    (∃ (q : Addr) (vm₁ : Vm) (B : Pt), s.WarmedH vm₁ ∧ Stand p l e R s m args below meth c B.U B.locs B.cells B.slots ∧ PostX ⟨T.setVm vm₁, locs, cells, slots⟩ (Value.ref b :: argsL).toArray q B ∧
      Steps p.tables e below (T.setTop g) ((B.U.setTop { g with stack := rest }).pushFrame (.throwing q))) := by
  obtain ⟨mk, methM, hnamed, hmethM, hstM, habM⟩ := Cond.instanceMethod_spec hinst
  obtain ⟨methM', cM, hmethM', -, -, -, -, -, -, hsigM⟩ := Cond.code_spec hnamed hcode
  cases hmethM.symm.trans hmethM'
  obtain ⟨c2, r2, m2, q1, q2, q3, q4, kP, hkP, hkPi⟩ := Cond.selects_spec hsel
  cases hcls.symm.trans q1
  cases (State.methodFound?_of_named hnamed hy).symm.trans q2
  cases hnamed.symm.trans q3
  have hselP : selectMethod e.platform s.vm cellB.cls mk = .method mk := by rw [Launch.admits_selectMethod X.admits]; exact q4
  obtain ⟨vm₁, X₁, hstep₁⟩ := X.invokevirtual hexec hown hlink hnamed hmethM hstM hkP hkPi hy (a := b) (cell := cellB) hcell
    (fun z h => by rw [h] at hobj; cases hobj) hselP hmethM habM hkP hkPi (g := g) hg (argsL := argsL) (rest := rest) (hlen _ hsigM) hstack hdg
  rcases hK m meth c ⟨T.setVm vm₁, locs, cells, slots⟩ { g with stack := rest } (.invokevirtual index) mk (Value.ref b :: argsL).toArray X₁ hg hsize hdg hW (X₁.named hnamed) (hpre vm₁ X₁.warmed) with ⟨v, B, X', hpost, hsteps⟩ | ⟨q, B, X', hpost, hsteps⟩
  · exact Or.inl ⟨v, vm₁, B, X₁.warmed, X', hpost, fun target h => hstep₁ _ fun acts => by rw [doInvoke_state]; exact hsteps.trans h⟩
  · exact Or.inr ⟨q, vm₁, B, X₁.warmed, X', hpost, hstep₁ _ fun acts => by rw [doInvoke_state]; exact hsteps⟩
theorem vx_callS (X : Stand p l e R s m args below meth c T locs cells slots) (hexec : p.tables.exec = Jvm.exec) {own : String} {index : Nat} {y : MethodName} {bytes : ByteArray} {maxL : Nat} {ret : Option FieldType}
    (hown : s.vm.findClass own = some m.cls) (hlink : (Cond.methodLink own index y).before args s = true) (hstat : (Cond.static y).before args s = true) (hinit : (Cond.initialized y.cls).before args s = true)
    (hcode : (Cond.code y bytes maxL ret).before args s = true) (hy : y.cls ≠ "java/lang/invoke/MethodHandle" ∧ y.cls ≠ "java/lang/invoke/VarHandle")
    {W9 : Nat} {Pre : Pt → Array Value → Prop} {Post : Pt → Array Value → Option Value → Pt → Prop} {PostX : Pt → Array Value → Addr → Pt → Prop} (hK : vx_Back l R p e below s args y 3 W9 Pre Post PostX)
    {g : JFrame} (hg : g.method = m) (hsize : g.locals.size = c.maxLocals) {argsL rest : List Value} (hlen : ∀ sig, parseMethodDescriptor y.desc = some sig → argsL.length = sig.parameters.length)
    (hstack : g.stack = argsL.reverse ++ rest) (hW : 2 * g.monitorRoom + (rest.map fun v => v.category).sum ≤ W9) (hdg : decode c.code g.pc = .ok (.invokestatic index, 3))
    (hpre : ∀ vm₁, s.WarmedH vm₁ → Pre ⟨T.setVm vm₁, locs, cells, slots⟩ argsL.toArray) :
    (∃ (v : Option Value) (vm₁ : Vm) (B : Pt), s.WarmedH vm₁ ∧ Stand p l e R s m args below meth c B.U B.locs B.cells B.slots ∧ Post ⟨T.setVm vm₁, locs, cells, slots⟩ argsL.toArray v B ∧
      ∀ target, Steps p.tables e below (B.U.setTop { g with pc := g.pc + 3, stack := v.toList ++ rest }) target → Steps p.tables e below (T.setTop g) target) ∨
    (∃ (q : Addr) (vm₁ : Vm) (B : Pt), s.WarmedH vm₁ ∧ Stand p l e R s m args below meth c B.U B.locs B.cells B.slots ∧ PostX ⟨T.setVm vm₁, locs, cells, slots⟩ argsL.toArray q B ∧
      Steps p.tables e below (T.setTop g) ((B.U.setTop { g with stack := rest }).pushFrame (.throwing q))) := by
  obtain ⟨mk, hnamed⟩ := Cond.code_named hcode
  obtain ⟨methM, cM, hmethM, -, -, -, -, -, -, hsigM⟩ := Cond.code_spec hnamed hcode
  have hstatic : methM.isStatic = true := Cond.static_spec hnamed hmethM hstat
  obtain ⟨kP, hkP, -⟩ := className_of_methodNamed hnamed
  have hinitP : kP.init = .initialized := Cond.initialized_spec (findClass_of_methodNamed hnamed) hkP hinit
  obtain ⟨vm₁, X₁, hstep₁⟩ := X.invokestatic hexec hown hlink hnamed hmethM hstatic hkP hinitP hy (g := g) hg (argsL := argsL) (rest := rest) (hlen _ hsigM) hstack hdg
  rcases hK m meth c ⟨T.setVm vm₁, locs, cells, slots⟩ { g with stack := rest } (.invokestatic index) mk argsL.toArray X₁ hg hsize hdg hW (X₁.named hnamed) (hpre vm₁ X₁.warmed) with ⟨v, B, X', hpost, hsteps⟩ | ⟨q, B, X', hpost, hsteps⟩
  · exact Or.inl ⟨v, vm₁, B, X₁.warmed, X', hpost, fun target h => hstep₁ _ fun acts => by rw [doInvoke_state]; exact hsteps.trans h⟩
  · exact Or.inr ⟨q, vm₁, B, X₁.warmed, X', hpost, hstep₁ _ fun acts => by rw [doInvoke_state]; exact hsteps⟩
end Calls
theorem vx_cls {s : State} {T : State} {vm₁ : Vm} {E : String} {k : ClassId} (hW : s.WarmedH vm₁) (h : (T.setVm vm₁).vm.findClass E = some k) : s.vm.findClass E = some k := by
  have h1 : vm₁.findClass E = some k := h
  rw [hW.alike.findClass] at h1
  exact h1
/-- the method's frame g, with q thrown over it -/
def vx_W (p : Program) (l : Launch) (e : Env) (R : Room) (s : State) (m : MethodId) (args : Array Value) (below : List Frame) (meth : Method) (c : Code) (H : Heap) (locs : List Loc) (cells slots : Nat) (Q : State → Prop) (g : JFrame) (q : Addr) : Prop :=
  ∀ T : State, T.heap = H → Stand p l e R s m args below meth c T locs cells slots → ∃ t, Steps p.tables e below ((T.setTop g).pushFrame (.throwing q)) t ∧ Q t
def vx_Run (p : Program) (l : Launch) (e : Env) (R : Room) (s : State) (m : MethodId) (args : Array Value) (below : List Frame) (meth : Method) (c : Code) (H : Heap) (locs : List Loc) (cells slots mc ms : Nat) (g : JFrame) (rest : List Value) (Qa : State → Outcome → State → Prop) (XC : String → State → State → Prop) (free : Addr → Prop) : Prop :=
  ∀ T : State, T.heap = H → Stand p l e R s m args below meth c T locs cells slots →
    (∃ (v : Option Value) (st₀ t T' : State) (L : List Loc), st₀.heap = H ∧ Stand p l e R s m args below meth c T' (locs ++ L) (cells + mc) (slots + ms) ∧ (∀ q ∈ L, free q.base) ∧ T'.heap = t.heap ∧ T'.vm = t.vm ∧ Qa st₀ (.returned v) t ∧
      Goes p e below T g T' { g with pc := g.pc + 3, stack := v.toList ++ rest }) ∨
    (∃ (q : Addr) (st₀ t T' : State) (L : List Loc) (E : String) (ce : Cell), st₀.heap = H ∧ Stand p l e R s m args below meth c T' (locs ++ L) (cells + mc) (slots + ms) ∧ (∀ z ∈ L, free z.base) ∧ T'.heap = t.heap ∧ T'.vm = t.vm ∧ XC E st₀ t ∧ t.heap[q]? = some ce ∧ ce.vm = .none ∧ s.vm.findClass E = some ce.cls ∧
      Steps p.tables e below (T.setTop g) ((T'.setTop { g with stack := rest }).pushFrame (.throwing q)))
def vx_X {S : Type} (px : S → Prop) (B : String → S → State → Prop) (A : Nat → Prop) : String → State → State → Prop := fun E st t => ∃ u : S, px u ∧ B E u t ∧ va_F A st t
section Runs
variable {p : Program} {l : Launch} {e : Env} {R : Room} {s : State} {m : MethodId} {args : Array Value} {below : List Frame} {meth : Method} {c : Code} {H : Heap} {locs : List Loc} {cells slots : Nat}
variable {y : MethodName} {bytes cc : ByteArray} {maxL nL mc ms n index : Nat} {ret : Option FieldType} {ws : List Cond} {rm : Room} {Pc : Array Value → State → Prop} {Qc : Array Value → State → Outcome → State → Prop} {XC : String → State → State → Prop} {free : Addr → Prop} {Ts : List Cond} {own C : String} {b : Addr} {As rest : List Value} {g : JFrame}
theorem vx_callBack (cb : CallB R s args own index y bytes maxL ret ws rm mc ms n) (hM : vx_Met l y ws rm Pc Qc XC mc ms free) (hbl : FrameBlind Pc) : vx_Back l R p e below s args y 3 8 (PreOf R mc ms Pc) (PostOf Qc mc ms free) (vx_Post XC mc ms free) := by
  obtain ⟨hrc, hrs, hfr, hlo, hws, hcw, -, hini, -⟩ := cb
  exact vx_back (bytes := bytes) (maxL := maxL) (ret := ret) hM hbl hrc hrs hfr hlo hws hcw (fun a' U hW => word_at hW (Or.inl (by first | rfl | simp [Cond.onTables, Cond.keeps, Cond.steady])) hini)
theorem vx_runV (S : CallFix p m c cc nL s args Ts own) (hM : vx_Met l y ws rm Pc Qc XC mc ms free) (cw : CallW R s args own C index y bytes maxL ret ws rm mc ms n) (hp : PreV s H C b Pc As)
    (hg : g.method = m) (hn : As.length = n) (hsize : g.locals.size = nL) (hstack : g.stack = As.reverse ++ .ref b :: rest) (hW : 2 * g.monitorRoom + (rest.map fun v => v.category).sum ≤ 8) (hdg : decode cc g.pc = .ok (.invokevirtual index, 3)) (hf : cells + mc ≤ R.cells ∧ slots + ms ≤ R.slots) :
    vx_Run p l e R s m args below meth c H locs cells slots mc ms g rest (Qc (Value.ref b :: As).toArray) XC free := by
  have hK : vx_Back l R p e below s args y 3 8 (PreOf R mc ms Pc) (PostOf Qc mc ms free) (vx_Post XC mc ms free) := vx_callBack cw.1 hM hp.1
  obtain ⟨⟨-, -, -, -, -, -, hcode, -, hy, hlen, hl⟩, hin, hse⟩ := cw
  obtain ⟨hx, hb, hml, ho, -⟩ := S
  obtain ⟨-, ⟨cellB, hcB, hoB, hclB⟩, hPc⟩ := hp
  intro T hT X
  rcases vx_callV X hx (C := C) (bytes := bytes) (maxL := maxL) (ret := ret) ho hl hin hse hcode hy hK (by rw [hT]; exact hcB) hoB hclB hg (hsize.trans hml.symm) (argsL := As) (rest := rest) (fun sig h => hn.trans (hlen sig h)) hstack hW (by rw [hb]; exact hdg)
    (fun vm₁ hW₁ => ⟨hf.1, hf.2, hPc (T.setVm vm₁) hT hW₁⟩) with ⟨v, vm₁, ⟨U', l2, c2, s2⟩, hW₁, X', ⟨g', mk, t, L, e1, e2, hq, h1, hL, h2, h3⟩, st⟩ | ⟨q, vm₁, ⟨U', l2, c2, s2⟩, hW₁, X', ⟨g', mk, t, L, E, ce, e1, e2, hq, hce, hcv, hcl, h1, hL, h2, h3⟩, st⟩
  · dsimp only [Pt.U, Pt.locs, Pt.cells, Pt.slots] at X' e1 e2 h1 h2 h3 st
    subst h1; subst h2; subst h3
    exact Or.inl ⟨v, (T.setVm vm₁).calling g' mk (Value.ref b :: As).toArray, t, U', L, hT, X', hL, e1, e2, hq, st⟩
  · dsimp only [Pt.U, Pt.locs, Pt.cells, Pt.slots] at X' e1 e2 h1 h2 h3 st hcl
    subst h1; subst h2; subst h3
    exact Or.inr ⟨q, (T.setVm vm₁).calling g' mk (Value.ref b :: As).toArray, t, U', L, E, ce, hT, X', hL, e1, e2, hq, hce, hcv, vx_cls hW₁ hcl, st⟩
theorem vx_runS (S : CallFix p m c cc nL s args Ts own) (hM : vx_Met l y ws rm Pc Qc XC mc ms free) (cw : CallB R s args own index y bytes maxL ret ws rm mc ms n ∧ (Cond.static y).before args s = true) (hp : PreS s H Pc As)
    (hg : g.method = m) (hn : As.length = n) (hsize : g.locals.size = nL) (hstack : g.stack = As.reverse ++ rest) (hW : 2 * g.monitorRoom + (rest.map fun v => v.category).sum ≤ 8) (hdg : decode cc g.pc = .ok (.invokestatic index, 3)) (hf : cells + mc ≤ R.cells ∧ slots + ms ≤ R.slots) :
    vx_Run p l e R s m args below meth c H locs cells slots mc ms g rest (Qc As.toArray) XC free := by
  have hK : vx_Back l R p e below s args y 3 8 (PreOf R mc ms Pc) (PostOf Qc mc ms free) (vx_Post XC mc ms free) := vx_callBack cw.1 hM hp.1
  obtain ⟨⟨-, -, -, -, -, -, hcode, hini, hy, hlen, hl⟩, hstt⟩ := cw
  obtain ⟨hx, hb, hml, ho, -⟩ := S
  intro T hT X
  rcases vx_callS X hx (bytes := bytes) (maxL := maxL) (ret := ret) ho hl hstt hini hcode hy hK hg (hsize.trans hml.symm) (argsL := As) (rest := rest) (fun sig h => hn.trans (hlen sig h)) hstack hW (by rw [hb]; exact hdg)
    (fun vm₁ hW₁ => ⟨hf.1, hf.2, hp.2 (T.setVm vm₁) hT hW₁⟩) with ⟨v, vm₁, ⟨U', l2, c2, s2⟩, hW₁, X', ⟨g', mk, t, L, e1, e2, hq, h1, hL, h2, h3⟩, st⟩ | ⟨q, vm₁, ⟨U', l2, c2, s2⟩, hW₁, X', ⟨g', mk, t, L, E, ce, e1, e2, hq, hce, hcv, hcl, h1, hL, h2, h3⟩, st⟩
  · dsimp only [Pt.U, Pt.locs, Pt.cells, Pt.slots] at X' e1 e2 h1 h2 h3 st
    subst h1; subst h2; subst h3
    exact Or.inl ⟨v, (T.setVm vm₁).calling g' mk As.toArray, t, U', L, hT, X', hL, e1, e2, hq, st⟩
  · dsimp only [Pt.U, Pt.locs, Pt.cells, Pt.slots] at X' e1 e2 h1 h2 h3 st hcl
    subst h1; subst h2; subst h3
    exact Or.inr ⟨q, (T.setVm vm₁).calling g' mk As.toArray, t, U', L, E, ce, hT, X', hL, e1, e2, hq, hce, hcv, vx_cls hW₁ hcl, st⟩
end Runs
section Rows
variable {p : Program} {l : Launch} {e : Env} {R : Room} {s : State} {m : MethodId} {args : Array Value} {below : List Frame} {meth : Method} {c : Code} {H : Heap} {locs : List Loc} {cells slots : Nat} {Q : State → Prop}
variable {mc ms : Nat} {free : Addr → Prop} {A0 A1 : Nat → Prop} {H0 : Heap} {a : Array Value} {pc : Nat} {ls : Array Slot} {st0 rest : List Value}
theorem vx_keep {st₀ t T' : State} {L : List Loc} (h0 : st₀.heap = H) (e1 : T'.heap = t.heap) (hS : va_S A0 H0 H locs) (hA : ∀ q, q < H.size → A1 q → A0 q) (hf : ∀ q, free q → A0 q) (hL : ∀ q ∈ L, free q.base) (hF : va_F A1 st₀ t) :
    H.size ≤ T'.heap.size ∧ (∀ q : Nat, q < H.size → ¬ A1 q → T'.heap[q]? = H[q]?) ∧ va_S A0 H0 T'.heap (locs ++ L) := by
  obtain ⟨hz, hk⟩ := hF
  rw [h0] at hz hk
  exact ⟨by rw [e1]; exact hz, fun q h1 h2 => by rw [e1]; exact hk q h1 h2,
    ⟨Nat.le_trans hS.1 (by rw [e1]; exact hz), fun q h1 h2 => by rw [e1, hk q (Nat.lt_of_lt_of_le h1 hS.1) (fun z => h2 (hA q (Nat.lt_of_lt_of_le h1 hS.1) z))]; exact hS.2.1 q h1 h2, fun q hq => by
      rcases List.mem_append.mp hq with h | h
      · exact hS.2.2 q h
      · exact hf _ (hL q h)⟩⟩
theorem vx_calli {S SX : Type} {post : Int32 → S → Prop} {px : SX → Prop} {B : S → State → Prop} {BX : String → SX → State → Prop} {AX : Nat → Prop} (hr : vx_Run p l e R s m args below meth c H locs cells slots mc ms (F0 m pc ls st0) rest (va_Qi post B A1 a) (vx_X px BX AX) free) (hS : va_S A0 H0 H locs) (hA : ∀ q, q < H.size → A1 q → A0 q) (hf : ∀ q, free q → A0 q) (hAX : ∀ q, q < H.size → AX q → A0 q)
    (kx : ∀ (E : String) (ce : Cell) (q9 : Addr) (u : SX) (t : State) (H1 : Heap) (locs1 : List Loc), t.heap = H1 → s.vm.Alike t.vm → px u → BX E u t → H.size ≤ H1.size → (∀ q : Nat, q < H.size → ¬ AX q → H1[q]? = H[q]?) → va_S A0 H0 H1 locs1 → H1[q9]? = some ce → ce.vm = .none → s.vm.findClass E = some ce.cls → vx_W p l e R s m args below meth c H1 locs1 (cells + mc) (slots + ms) Q (F0 m pc ls rest) q9)
    (kk : ∀ (r : Int32) (u : S) (t : State) (H1 : Heap) (locs1 : List Loc), t.heap = H1 → s.vm.Alike t.vm → post r u → B u t → H.size ≤ H1.size → (∀ q : Nat, q < H.size → ¬ A1 q → H1[q]? = H[q]?) → va_S A0 H0 H1 locs1 → W p l e R s m args below meth c H1 locs1 (cells + mc) (slots + ms) Q (F0 m (pc + 3) ls (.int r :: rest))) : W p l e R s m args below meth c H locs cells slots Q (F0 m pc ls st0) := by
  intro T hT X
  rcases hr T hT X with ⟨v, st₀, t, T', L, h0, X', hL, e1, e2, ⟨⟨r, u, hv, hp, hb⟩, hF⟩, st⟩ | ⟨q, st₀, t, T', L, E, ce, h0, X', hL, e1, e2, ⟨u, hp, hb, hF⟩, hce, hcv, hcl, st⟩
  · cases hv
    obtain ⟨k1, k2, k3⟩ := vx_keep h0 e1 hS hA hf hL hF
    obtain ⟨t2, a1, b1⟩ := kk r u t T'.heap (locs ++ L) e1.symm (by rw [← e2]; exact X'.warmed.alike) hp hb k1 k2 k3 T' rfl X'
    exact ⟨t2, st t2 a1, b1⟩
  · obtain ⟨k1, k2, k3⟩ := vx_keep h0 e1 hS hAX hf hL hF
    obtain ⟨t2, a1, b1⟩ := kx E ce q u t T'.heap (locs ++ L) e1.symm (by rw [← e2]; exact X'.warmed.alike) hp hb k1 k2 k3 (by rw [e1]; exact hce) hcv hcl T' rfl X'
    exact ⟨t2, st.trans a1, b1⟩
theorem vx_calll {S SX : Type} {post : Int64 → S → Prop} {px : SX → Prop} {B : S → State → Prop} {BX : String → SX → State → Prop} {AX : Nat → Prop} (hr : vx_Run p l e R s m args below meth c H locs cells slots mc ms (F0 m pc ls st0) rest (va_Ql post B A1 a) (vx_X px BX AX) free) (hS : va_S A0 H0 H locs) (hA : ∀ q, q < H.size → A1 q → A0 q) (hf : ∀ q, free q → A0 q) (hAX : ∀ q, q < H.size → AX q → A0 q)
    (kx : ∀ (E : String) (ce : Cell) (q9 : Addr) (u : SX) (t : State) (H1 : Heap) (locs1 : List Loc), t.heap = H1 → s.vm.Alike t.vm → px u → BX E u t → H.size ≤ H1.size → (∀ q : Nat, q < H.size → ¬ AX q → H1[q]? = H[q]?) → va_S A0 H0 H1 locs1 → H1[q9]? = some ce → ce.vm = .none → s.vm.findClass E = some ce.cls → vx_W p l e R s m args below meth c H1 locs1 (cells + mc) (slots + ms) Q (F0 m pc ls rest) q9)
    (kk : ∀ (r : Int64) (u : S) (t : State) (H1 : Heap) (locs1 : List Loc), t.heap = H1 → s.vm.Alike t.vm → post r u → B u t → H.size ≤ H1.size → (∀ q : Nat, q < H.size → ¬ A1 q → H1[q]? = H[q]?) → va_S A0 H0 H1 locs1 → W p l e R s m args below meth c H1 locs1 (cells + mc) (slots + ms) Q (F0 m (pc + 3) ls (.long r :: rest))) : W p l e R s m args below meth c H locs cells slots Q (F0 m pc ls st0) := by
  intro T hT X
  rcases hr T hT X with ⟨v, st₀, t, T', L, h0, X', hL, e1, e2, ⟨⟨r, u, hv, hp, hb⟩, hF⟩, st⟩ | ⟨q, st₀, t, T', L, E, ce, h0, X', hL, e1, e2, ⟨u, hp, hb, hF⟩, hce, hcv, hcl, st⟩
  · cases hv
    obtain ⟨k1, k2, k3⟩ := vx_keep h0 e1 hS hA hf hL hF
    obtain ⟨t2, a1, b1⟩ := kk r u t T'.heap (locs ++ L) e1.symm (by rw [← e2]; exact X'.warmed.alike) hp hb k1 k2 k3 T' rfl X'
    exact ⟨t2, st t2 a1, b1⟩
  · obtain ⟨k1, k2, k3⟩ := vx_keep h0 e1 hS hAX hf hL hF
    obtain ⟨t2, a1, b1⟩ := kx E ce q u t T'.heap (locs ++ L) e1.symm (by rw [← e2]; exact X'.warmed.alike) hp hb k1 k2 k3 (by rw [e1]; exact hce) hcv hcl T' rfl X'
    exact ⟨t2, st.trans a1, b1⟩
theorem vx_callf {S SX : Type} {post : UInt32 → S → Prop} {px : SX → Prop} {B : S → State → Prop} {BX : String → SX → State → Prop} {AX : Nat → Prop} (hr : vx_Run p l e R s m args below meth c H locs cells slots mc ms (F0 m pc ls st0) rest (va_Qf post B A1 a) (vx_X px BX AX) free) (hS : va_S A0 H0 H locs) (hA : ∀ q, q < H.size → A1 q → A0 q) (hf : ∀ q, free q → A0 q) (hAX : ∀ q, q < H.size → AX q → A0 q)
    (kx : ∀ (E : String) (ce : Cell) (q9 : Addr) (u : SX) (t : State) (H1 : Heap) (locs1 : List Loc), t.heap = H1 → s.vm.Alike t.vm → px u → BX E u t → H.size ≤ H1.size → (∀ q : Nat, q < H.size → ¬ AX q → H1[q]? = H[q]?) → va_S A0 H0 H1 locs1 → H1[q9]? = some ce → ce.vm = .none → s.vm.findClass E = some ce.cls → vx_W p l e R s m args below meth c H1 locs1 (cells + mc) (slots + ms) Q (F0 m pc ls rest) q9)
    (kk : ∀ (r : UInt32) (u : S) (t : State) (H1 : Heap) (locs1 : List Loc), t.heap = H1 → s.vm.Alike t.vm → post r u → B u t → H.size ≤ H1.size → (∀ q : Nat, q < H.size → ¬ A1 q → H1[q]? = H[q]?) → va_S A0 H0 H1 locs1 → W p l e R s m args below meth c H1 locs1 (cells + mc) (slots + ms) Q (F0 m (pc + 3) ls (.float r :: rest))) : W p l e R s m args below meth c H locs cells slots Q (F0 m pc ls st0) := by
  intro T hT X
  rcases hr T hT X with ⟨v, st₀, t, T', L, h0, X', hL, e1, e2, ⟨⟨r, u, hv, hp, hb⟩, hF⟩, st⟩ | ⟨q, st₀, t, T', L, E, ce, h0, X', hL, e1, e2, ⟨u, hp, hb, hF⟩, hce, hcv, hcl, st⟩
  · cases hv
    obtain ⟨k1, k2, k3⟩ := vx_keep h0 e1 hS hA hf hL hF
    obtain ⟨t2, a1, b1⟩ := kk r u t T'.heap (locs ++ L) e1.symm (by rw [← e2]; exact X'.warmed.alike) hp hb k1 k2 k3 T' rfl X'
    exact ⟨t2, st t2 a1, b1⟩
  · obtain ⟨k1, k2, k3⟩ := vx_keep h0 e1 hS hAX hf hL hF
    obtain ⟨t2, a1, b1⟩ := kx E ce q u t T'.heap (locs ++ L) e1.symm (by rw [← e2]; exact X'.warmed.alike) hp hb k1 k2 k3 (by rw [e1]; exact hce) hcv hcl T' rfl X'
    exact ⟨t2, st.trans a1, b1⟩
theorem vx_calld {S SX : Type} {post : UInt64 → S → Prop} {px : SX → Prop} {B : S → State → Prop} {BX : String → SX → State → Prop} {AX : Nat → Prop} (hr : vx_Run p l e R s m args below meth c H locs cells slots mc ms (F0 m pc ls st0) rest (va_Qd post B A1 a) (vx_X px BX AX) free) (hS : va_S A0 H0 H locs) (hA : ∀ q, q < H.size → A1 q → A0 q) (hf : ∀ q, free q → A0 q) (hAX : ∀ q, q < H.size → AX q → A0 q)
    (kx : ∀ (E : String) (ce : Cell) (q9 : Addr) (u : SX) (t : State) (H1 : Heap) (locs1 : List Loc), t.heap = H1 → s.vm.Alike t.vm → px u → BX E u t → H.size ≤ H1.size → (∀ q : Nat, q < H.size → ¬ AX q → H1[q]? = H[q]?) → va_S A0 H0 H1 locs1 → H1[q9]? = some ce → ce.vm = .none → s.vm.findClass E = some ce.cls → vx_W p l e R s m args below meth c H1 locs1 (cells + mc) (slots + ms) Q (F0 m pc ls rest) q9)
    (kk : ∀ (r : UInt64) (u : S) (t : State) (H1 : Heap) (locs1 : List Loc), t.heap = H1 → s.vm.Alike t.vm → post r u → B u t → H.size ≤ H1.size → (∀ q : Nat, q < H.size → ¬ A1 q → H1[q]? = H[q]?) → va_S A0 H0 H1 locs1 → W p l e R s m args below meth c H1 locs1 (cells + mc) (slots + ms) Q (F0 m (pc + 3) ls (.double r :: rest))) : W p l e R s m args below meth c H locs cells slots Q (F0 m pc ls st0) := by
  intro T hT X
  rcases hr T hT X with ⟨v, st₀, t, T', L, h0, X', hL, e1, e2, ⟨⟨r, u, hv, hp, hb⟩, hF⟩, st⟩ | ⟨q, st₀, t, T', L, E, ce, h0, X', hL, e1, e2, ⟨u, hp, hb, hF⟩, hce, hcv, hcl, st⟩
  · cases hv
    obtain ⟨k1, k2, k3⟩ := vx_keep h0 e1 hS hA hf hL hF
    obtain ⟨t2, a1, b1⟩ := kk r u t T'.heap (locs ++ L) e1.symm (by rw [← e2]; exact X'.warmed.alike) hp hb k1 k2 k3 T' rfl X'
    exact ⟨t2, st t2 a1, b1⟩
  · obtain ⟨k1, k2, k3⟩ := vx_keep h0 e1 hS hAX hf hL hF
    obtain ⟨t2, a1, b1⟩ := kx E ce q u t T'.heap (locs ++ L) e1.symm (by rw [← e2]; exact X'.warmed.alike) hp hb k1 k2 k3 (by rw [e1]; exact hce) hcv hcl T' rfl X'
    exact ⟨t2, st.trans a1, b1⟩
theorem vx_callv {S SX : Type} {post : S → Prop} {px : SX → Prop} {B : S → State → Prop} {BX : String → SX → State → Prop} {AX : Nat → Prop} (hr : vx_Run p l e R s m args below meth c H locs cells slots mc ms (F0 m pc ls st0) rest (va_Qv post B A1 a) (vx_X px BX AX) free) (hS : va_S A0 H0 H locs) (hA : ∀ q, q < H.size → A1 q → A0 q) (hf : ∀ q, free q → A0 q) (hAX : ∀ q, q < H.size → AX q → A0 q)
    (kx : ∀ (E : String) (ce : Cell) (q9 : Addr) (u : SX) (t : State) (H1 : Heap) (locs1 : List Loc), t.heap = H1 → s.vm.Alike t.vm → px u → BX E u t → H.size ≤ H1.size → (∀ q : Nat, q < H.size → ¬ AX q → H1[q]? = H[q]?) → va_S A0 H0 H1 locs1 → H1[q9]? = some ce → ce.vm = .none → s.vm.findClass E = some ce.cls → vx_W p l e R s m args below meth c H1 locs1 (cells + mc) (slots + ms) Q (F0 m pc ls rest) q9)
    (kk : ∀ (u : S) (t : State) (H1 : Heap) (locs1 : List Loc), t.heap = H1 → s.vm.Alike t.vm → post u → B u t → H.size ≤ H1.size → (∀ q : Nat, q < H.size → ¬ A1 q → H1[q]? = H[q]?) → va_S A0 H0 H1 locs1 → W p l e R s m args below meth c H1 locs1 (cells + mc) (slots + ms) Q (F0 m (pc + 3) ls (rest))) : W p l e R s m args below meth c H locs cells slots Q (F0 m pc ls st0) := by
  intro T hT X
  rcases hr T hT X with ⟨v, st₀, t, T', L, h0, X', hL, e1, e2, ⟨⟨u, hv, hp, hb⟩, hF⟩, st⟩ | ⟨q, st₀, t, T', L, E, ce, h0, X', hL, e1, e2, ⟨u, hp, hb, hF⟩, hce, hcv, hcl, st⟩
  · cases hv
    obtain ⟨k1, k2, k3⟩ := vx_keep h0 e1 hS hA hf hL hF
    obtain ⟨t2, a1, b1⟩ := kk u t T'.heap (locs ++ L) e1.symm (by rw [← e2]; exact X'.warmed.alike) hp hb k1 k2 k3 T' rfl X'
    exact ⟨t2, st t2 a1, b1⟩
  · obtain ⟨k1, k2, k3⟩ := vx_keep h0 e1 hS hAX hf hL hF
    obtain ⟨t2, a1, b1⟩ := kx E ce q u t T'.heap (locs ++ L) e1.symm (by rw [← e2]; exact X'.warmed.alike) hp hb k1 k2 k3 (by rw [e1]; exact hce) hcv hcl T' rfl X'
    exact ⟨t2, st.trans a1, b1⟩
/-- caught by the row x of this method's table; the rows ahead don't take it -/
theorem vx_catch {own name : String} {E : String} {ce : Cell} {q : Addr} (hown : s.vm.findClass own = some m.cls) (pre : List ExceptionTableEntry) (x : ExceptionTableEntry) (suf : List ExceptionTableEntry) (hsplit : c.exceptionTable.toList = pre ++ x :: suf)
    (hpass : ∀ z ∈ pre, covers z pc = false ∨ (z.catchType ≠ 0 ∧ ∃ nm : String, (Cond.classLink own z.catchType nm).before args s = true ∧ va_Nc E nm s)) (hx : covers x pc = true) (h0 : x.catchType ≠ 0)
    (hlink : (Cond.classLink own x.catchType name).before args s = true) (hcast : (Cond.castable E name).before args s = true) (hcell : H[q]? = some ce) (hv : ce.vm = .none) (hcl : s.vm.findClass E = some ce.cls)
    (kk : W p l e R s m args below meth c H locs cells slots Q (F0 m x.handlerPc ls [.ref q])) : vx_W p l e R s m args below meth c H locs cells slots Q (F0 m pc ls rest) q := by
  intro T hT X
  have hpl : e.platform.magicAccessors = ({} : Platform).magicAccessors := by rw [X.admits.platform]
  obtain ⟨c3, c4, hc3, hc4, hasg⟩ := Cond.castable_spec hcast
  cases Option.some.inj (hc3.symm.trans hcl)
  obtain ⟨c5, hc5, hcl5⟩ := Cond.classLink_spec hown hlink e.platform hpl
  cases Option.some.inj (hc4.symm.trans hc5)
  obtain ⟨vm', X', st⟩ := X.thenCaughtThrough q (g := F0 m pc ls rest) rfl (Steps.refl _) (by rw [hT]; exact hcell) (by rw [hv]; rfl) (by obtain ⟨k9, h9, -⟩ := Vm.findClass_spec hcl; exact ⟨k9, h9⟩) pre x suf hsplit
    (fun z hz => by
      rcases hpass z hz with h | ⟨hz0, nm, hl1, hn1⟩
      · exact Or.inl h
      · obtain ⟨c6, hc6, hcl6⟩ := Cond.classLink_spec hown hl1 e.platform hpl
        obtain ⟨a8, b8, h1, h2, h3⟩ := hn1
        cases Option.some.inj (h1.symm.trans hcl)
        cases Option.some.inj (h2.symm.trans hc6)
        exact Or.inr ⟨hz0, _, hcl6, h3⟩) hx (Or.inr ⟨h0, c4, hcl5, hasg⟩)
  obtain ⟨t, a1, b1⟩ := kk (T.setVm vm') hT X'
  exact ⟨t, st.trans a1, b1⟩
end Rows
section Ends
variable {p : Program} {l : Launch} {e : Env} {R : Room} {s : State} {m : MethodId} {args : Array Value} {below : List Frame} {meth : Method} {c : Code} {H : Heap} {locs : List Loc} {cells slots : Nat} {Q : State → Prop}
variable {mc ms : Nat} {free : Addr → Prop} {A0 A1 : Nat → Prop} {H0 : Heap} {a : Array Value} {ls : Array Slot} {st0 rest : List Value}
variable {Qc : Array Value → State → Outcome → State → Prop} {XC : String → State → State → Prop}
/-- what a body that may throw owes at its end -/
def vx_MQ (below : List Frame) (Qc : Array Value → State → Outcome → State → Prop) (XC : String → State → State → Prop) (a : Array Value) (s : State) (mc ms : Nat) (free : Addr → Prop) : State → Prop := fun t =>
  ∃ o, t.status = .running ∧ Ended t below o ∧ vx_Q Qc XC mc ms free a s o t
theorem vx_ret {g : JFrame} {mc ms : Nat} (k : W p l e R s m args below meth c H locs cells slots (MQ below Qc args s mc ms free) g) : W p l e R s m args below meth c H locs cells slots (vx_MQ below Qc XC args s mc ms free) g := by
  intro T hT X
  obtain ⟨t, a1, o, b1, b2, b3, b4⟩ := k T hT X
  exact ⟨t, a1, o, b1, b2, Or.inl ⟨b3, b4⟩⟩
/-- not caught here: it goes on to the caller -/
theorem vx_widen {g : JFrame} {q : Addr} {k n : Nat} (h1 : cells ≤ k) (h2 : slots ≤ n) (kk : vx_W p l e R s m args below meth c H locs k n Q g q) : vx_W p l e R s m args below meth c H locs cells slots Q g q := fun T hT X => kk T hT (stand_widen X h1 h2)
theorem vx_out {pc : Nat} {E : String} {ce : Cell} {q : Addr} {mc ms : Nat} (hout : ∀ x ∈ c.exceptionTable.toList, covers x pc = false) (hlocks : meth.locks = false) (hcell : H[q]? = some ce) (hv : ce.vm = .none) (hcl : s.vm.findClass E = some ce.cls)
    (hx : ∀ t : State, t.heap = H → s.vm.Alike t.vm → XC E s t) (hf : ∀ z ∈ locs, free z.base) (hc : cells ≤ mc) (hs : slots ≤ ms) :
    vx_W p l e R s m args below meth c H locs cells slots (vx_MQ below Qc XC args s mc ms free) (F0 m pc ls rest) q := by
  intro T hT X
  obtain ⟨st1, hrun, hend, hW, hsm⟩ := X.leaveThrown q (g := F0 m pc ls rest) rfl rfl rfl hout hlocks
  have hcell9 : (T.setFrames (.throwing q :: below)).heap[q]? = some ce := by
    show T.heap[q]? = some ce
    rw [hT]; exact hcell
  exact ⟨_, st1, .threw q, hrun, hend, Or.inr ⟨q, rfl, E, ce, locs, hx _ hT hW.alike, hcell9, hv, hcl, hW, hsm.mono hc hs, hf⟩⟩
theorem vx_frame {U : State} {k n : Nat} (h : s.sameButNew ({ U with vm := s.vm } : State) locs k n) : s.heap.size ≤ U.heap.size ∧ ∀ q : Nat, q < s.heap.size → (∀ z ∈ locs, z.base ≠ q) → U.heap[q]? = s.heap[q]? := by
  obtain ⟨-, h2, -, -, -, h6⟩ := h
  refine ⟨h2, fun q hq hz => ?_⟩
  obtain ⟨c9, e1, e2, e3, e4⟩ := h6 q _ (Array.getElem?_eq_getElem hq)
  have hs : c9.slots = (s.heap[q]).slots := Array.ext_getElem? fun i => e4 i fun hm => hz _ hm rfl
  have h9 : c9 = s.heap[q] := by
    rw [hs] at e2
    exact e2
  have e5 : U.heap[q]? = some c9 := e1
  rw [e5, h9, Array.getElem?_eq_getElem hq]
/-- the words of a throw but the four that speak of the heap -/
def vx_no (w : Cond) : Bool := decide (w ≠ .isRef (.static Bundle.tN "UNASSIGNED_STACK" Bundle.steD)) && decide (w ≠ .isRef (.static Bundle.tN "SUPPRESSED_SENTINEL" Bundle.listD)) && decide (w ≠ .laysStatic Bundle.tN "UNASSIGNED_STACK" Bundle.steD) && decide (w ≠ .laysStatic Bundle.tN "SUPPRESSED_SENTINEL" Bundle.listD)
def vx_at0 (own : String) (ic : Nat) (X : String) (names : List String) : List Cond := (Bundle.ownAtoms0 own ic X names).filter vx_no
def vx_atS (own : String) (ic : Nat) (X : String) (names : List String) : List Cond := (Bundle.ownAtoms own ic X names).filter vx_no
/-- a word that the tables alone decide, or a good one -/
def vx_ot (w : Cond) : Bool := w.onTables || goodWord w
theorem vx_ot_at {args a' : Array Value} {s U : State} {w : Cond} (hW : s.WarmedH U.vm) (hvm : s.vm = U.vm) (hg : vx_ot w = true) (h : w.before args s = true) : w.before a' U = true := by
  simp only [vx_ot, Bool.or_eq_true] at hg
  rcases hg with hg | hg
  · exact va_tabs hg hvm h
  · exact word_at hW (good_of_word hg) h
/-- a list's words: the good ones out of the method's own list, the others by premises of their own -/
theorem vx_hat {args : Array Value} {s : State} {L B : List Cond} (h1 : ∀ w ∈ L.filter goodWord, w.before args s = true) (h2 : ∀ w ∈ L.filter (fun w => !goodWord w), w ∈ B) (h3 : ∀ w ∈ B, w.before args s = true) : ∀ w ∈ L, w.before args s = true := by
  intro w hw
  by_cases g : goodWord w = true
  · exact h1 w (List.mem_filter.mpr ⟨hw, g⟩)
  · refine h3 w (h2 w (List.mem_filter.mpr ⟨hw, ?_⟩))
    show (!goodWord w) = true
    cases hgw : goodWord w
    · rfl
    · exact absurd hgw g
theorem vx_c {args : Array Value} {s : State} {w : Cond} {B : List Cond} (h : w.before args s = true) (t : ∀ w ∈ B, w.before args s = true) : ∀ w' ∈ w :: B, w'.before args s = true := fun w' h' => (List.mem_cons.mp h').elim (fun e => by rw [e]; exact h) (t w')
theorem vx_n {args : Array Value} {s : State} : ∀ w ∈ ([] : List Cond), w.before args s = true := fun _ h => nomatch h
theorem vx_own {args : Array Value} {s : State} {L : List Cond} (h1 : ∀ w ∈ L.filter vx_no, w.before args s = true)
    (hU : (Cond.isRef (.static Bundle.tN "UNASSIGNED_STACK" Bundle.steD)).before args s = true) (hN : (Cond.isRef (.static Bundle.tN "SUPPRESSED_SENTINEL" Bundle.listD)).before args s = true)
    (lU : (Cond.laysStatic Bundle.tN "UNASSIGNED_STACK" Bundle.steD).before args s = true) (lN : (Cond.laysStatic Bundle.tN "SUPPRESSED_SENTINEL" Bundle.listD).before args s = true) : ∀ w ∈ L, w.before args s = true := by
  intro w hw
  by_cases e1 : w = .isRef (.static Bundle.tN "UNASSIGNED_STACK" Bundle.steD)
  · rw [e1]; exact hU
  · by_cases e2 : w = .isRef (.static Bundle.tN "SUPPRESSED_SENTINEL" Bundle.listD)
    · rw [e2]; exact hN
    · by_cases e3 : w = .laysStatic Bundle.tN "UNASSIGNED_STACK" Bundle.steD
      · rw [e3]; exact lU
      · by_cases e4 : w = .laysStatic Bundle.tN "SUPPRESSED_SENTINEL" Bundle.listD
        · rw [e4]; exact lN
        · exact h1 w (List.mem_filter.mpr ⟨hw, by unfold vx_no; rw [decide_eq_true e1, decide_eq_true e2, decide_eq_true e3, decide_eq_true e4]; rfl⟩)
/-- where a static field lies, its class's statics cell in H -/
def vx_L (C n d : String) (A : Nat → Prop) (U : State) (H : Heap) : Prop := ∃ (c : ClassId) (k : Class) (i : Nat) (f : Field) (a : Nat) (cell : Cell), U.vm.findClass C = some c ∧ U.fieldFound? C n d = some (c, k, i, f) ∧ f.isStatic = true ∧ k.statics = some a ∧ H[a]? = some cell ∧ cell.vm.isStatics = true ∧ cell.cls = c ∧ f.slot < cell.slots.size ∧ k.staticTypes[f.slot]? = some f.type ∧ ¬ A a
theorem vx_L.moved {C n d : String} {A : Nat → Prop} {u U : State} {H : Heap} (hvm : u.vm.Alike U.vm) (h : vx_L C n d A u H) : vx_L C n d A U H := by
  obtain ⟨c, k, i, f, a, cell, h1, h2, h3, h4, h5, h6, h7, h8, h9, h10⟩ := h
  obtain ⟨k', hi', he⟩ := State.fieldFound?_setVm hvm h2
  exact ⟨c, k', i, f, a, cell, by rw [hvm.findClass]; exact h1, hi', h3, by rw [he]; exact h4, h5, h6, h7, h8, by rw [he]; exact h9, h10⟩
theorem vx_L.kept {C n d : String} {A : Nat → Prop} {U : State} {H H1 : Heap} (h : vx_L C n d A U H) (hq : ∀ a : Nat, a < H.size → ¬ A a → H1[a]? = H[a]?) : vx_L C n d A U H1 := by
  obtain ⟨c, k, i, f, a, cell, h1, h2, h3, h4, h5, h6, h7, h8, h9, h10⟩ := h
  exact ⟨c, k, i, f, a, cell, h1, h2, h3, h4, by rw [hq a (Array.getElem?_eq_some_iff.mp h5).1 h10]; exact h5, h6, h7, h8, h9, h10⟩
theorem vx_L.narrow {C n d : String} {A B : Nat → Prop} {U : State} {H : Heap} (h : vx_L C n d A U H) (hAB : ∀ q, B q → A q) : vx_L C n d B U H := by
  obtain ⟨c, k, i, f, a, cell, h1, h2, h3, h4, h5, h6, h7, h8, h9, h10⟩ := h
  exact ⟨c, k, i, f, a, cell, h1, h2, h3, h4, h5, h6, h7, h8, h9, fun z => h10 (hAB _ z)⟩
theorem vx_L.word {C n d : String} {A : Nat → Prop} {s : State} {args : Array Value} (h : vx_L C n d A s s.heap) : (Cond.laysStatic C n d).before args s = true := by
  obtain ⟨c, k, i, f, a, cell, h1, h2, h3, h4, h5, h6, h7, h8, h9, -⟩ := h
  show (Cond.laysStatic C n d).holds args s none s [] = true
  exact Cond.laysStatic_of h1 h2 h3 h4 h5 h6 h7 h8 h9
/-- .. and what it holds: null or some reference -/
def vx_Zq (C n d : String) (A : Nat → Prop) (U : State) (H : Heap) : Prop := va_Zq C n d A U H ∧ vx_L C n d A U H
theorem vx_Zq.moved {C n d : String} {A : Nat → Prop} {u U : State} {H : Heap} (hvm : u.vm.Alike U.vm) (h : vx_Zq C n d A u H) : vx_Zq C n d A U H := ⟨va_Zq.moved hvm h.1, vx_L.moved hvm h.2⟩
theorem vx_Zq.kept {C n d : String} {A : Nat → Prop} {U : State} {H H1 : Heap} (h : vx_Zq C n d A U H) (hq : ∀ a : Nat, a < H.size → ¬ A a → H1[a]? = H[a]?) : vx_Zq C n d A U H1 := ⟨va_Zq.kept h.1 hq, vx_L.kept h.2 hq⟩
theorem vx_Zq.narrow {C n d : String} {A B : Nat → Prop} {U : State} {H : Heap} (h : vx_Zq C n d A U H) (hAB : ∀ q, B q → A q) : vx_Zq C n d B U H := ⟨va_Zq.narrow h.1 hAB, vx_L.narrow h.2 hAB⟩
theorem vx_Zqof {args : Array Value} {s : State} {C n d : String} {A : Nat → Prop} (hl : (Cond.laysStatic C n d).before args s = true) (hini : (Cond.initialized C).before args s = true) (h : (Cond.isRef (.static C n d)).before args s = true) (hA : ∀ a : Nat, a < s.heap.size → ¬ A a) : vx_Zq C n d A s s.heap := by
  refine ⟨va_Zqof hl hini h hA, ?_⟩
  obtain ⟨c, k, i, f, a, cell, h1, h2, h3, h4, h5, h6, h7, h8, h9⟩ := Cond.laysStatic_spec hl
  exact ⟨c, k, i, f, a, cell, h1, h2, h3, h4, h5, h6, h7, h8, h9, hA a (Array.getElem?_eq_some_iff.mp h5).1⟩
theorem vx_isRef {C n d : String} {v : Value} {A : Nat → Prop} {s : State} {args : Array Value} (h : va_Z C n d v A s s.heap) (hv : v.isRef = true) : (Cond.isRef (.static C n d)).before args s = true := by
  obtain ⟨cf, kf, fi, f, a, cell, h1, h2, h3, h4, h5, h6, h7, -⟩ := h
  have he : (Term.static C n d).eval args s none [] s = some v := by
    simp [Term.eval, State.fieldNamed?, h1, h2, h4, h5, h6, h7]
  simp only [Cond.before, Cond.holds, Cond.value, he]
  cases v <;> simp_all [Value.isRef]
theorem vx_isRefq {C n d : String} {A : Nat → Prop} {s : State} {args : Array Value} (h : va_Zq C n d A s s.heap) : (Cond.isRef (.static C n d)).before args s = true := by
  rcases h with h | ⟨t, h⟩
  · exact vx_isRef h rfl
  · exact vx_isRef h rfl
/-- the same frame, seen from here: as if the method were called anew in this heap -/
theorem vx_rebase {T : State} (X : Stand p l e R s m args below meth c T locs cells slots) {R' : Room} (hf : R'.frames ≤ R.frames) (hl : R'.locals ≤ R.locals) (hc : cells + R'.cells ≤ R.cells) (hs : slots + R'.slots ≤ R.slots) :
    Stand p l e R' ((T.setVm s.vm).setFrames (.invoking m args :: below)) m args below meth c T [] 0 0 := by
  have htop : (T.setVm s.vm).topJava?.isSome := X.here.top
  have hF : ((T.setVm s.vm).setFrames (.invoking m args :: below)).frames = .invoking m args :: below := State.frames_setFrames _ (State.cur_lt_of_top htop)
  obtain ⟨g₀, hg0⟩ := Option.isSome_iff_exists.mp htop
  obtain ⟨r, hr⟩ := State.topJava?_eq_some.mp hg0
  have hl9 : e.platform.stackLimits (T.setVm s.vm).me = e.platform.stackLimits s.me := X.limits
  have hb9 : (T.setVm s.vm).me.stackBytes = s.me.stackBytes := X.bytes
  refine ⟨X.admits, X.cas, X.clock, hF, ?_, X.hears, X.method, X.code, X.here, X.tail, X.warmed, ?_, ?_, ?_⟩
  · have h := X.room
    have hU : ((T.setVm s.vm).setFrames (.invoking m args :: below)).localsInUse = s.localsInUse := by
      rw [State.localsInUse_invoking hF (meth := meth) (c := c) X.method X.code, State.localsInUse_invoking X.frames X.method X.code]
    simp only [State.hasRoom, Bool.and_eq_true, decide_eq_true_eq] at h ⊢
    obtain ⟨⟨⟨⟨h1, h2, h3, h4, h5, h6⟩, h7⟩, h8⟩, h9⟩ := h
    rw [X.frames, List.length_cons] at h2 h3
    have q1 := X.heapSize
    have q2 := X.used
    simp only [hF, hU, List.length_cons, State.stackLimits_setFrames, State.stackBytes_setFrames, hl9, hb9]
    refine ⟨⟨⟨⟨by omega, by omega, by omega, by omega, by omega, h6⟩, ?_⟩, ?_⟩, X.book⟩
    · show T.heap.size + R'.cells ≤ e.platform.maxCells
      omega
    · show T.slotsUsed + R'.slots ≤ e.platform.maxSlots
      omega
  · rw [State.stackLimits_setFrames]; rfl
  · rw [State.stackBytes_setFrames]; rfl
  · refine ⟨?_, Nat.le_refl _, Nat.le_refl _, ?_, ?_, fun a c9 h9 => ⟨c9, h9, rfl, rfl, fun _ _ => rfl⟩⟩
    · obtain ⟨t, ht, -⟩ := State.frames_cons hr
      show T.setVm s.vm = { ((T.setVm s.vm).setFrames (.invoking m args :: below)).setFrames (T.setVm s.vm).frames with heap := T.heap, slotsUsed := T.slotsUsed }
      rw [State.setFrames_setFrames, State.setFrames_self ht]
      rfl
    · show T.slotsUsed = T.slotsUsed + ((T.heap.toList.drop T.heap.size).map (·.slots.size)).sum
      rw [List.drop_eq_nil_of_le (Nat.le_of_eq Array.length_toList)]
      rfl
    · show ((T.heap.toList.drop T.heap.size).map (·.slots.size)).sum ≤ 0
      rw [List.drop_eq_nil_of_le (Nat.le_of_eq Array.length_toList)]
      exact Nat.le_refl _
/-- 'throw new E()': new; dup; invokespecial; athrow -/
theorem vx_throw0 {cc : ByteArray} {pc : Nat} (hexec : p.tables.exec = Jvm.exec) (hb : c.code = cc) (hl : l.stackTraces = false) {own cls : String} {names : List String} {ik ic mc ms : Nat} {A : Nat → Prop}
    (hown : s.vm.findClass own = some m.cls) (hcls : Bundle.fit cls = true) (hnames : ∀ n ∈ names, Bundle.fit n = true)
    (hk : (Cond.classLink own ik cls).before args s = true) (hini : (Cond.initialized cls).before args s = true) (hat : ∀ w ∈ vx_at0 own ic cls names, w.before args s = true)
    (hgood : ∀ w ∈ Cond.classLink own ik cls :: Cond.initialized cls :: vx_at0 own ic cls names, vx_ot w = true)
    (hU : vx_Zq Bundle.tN "UNASSIGNED_STACK" Bundle.steD A s s.heap) (hN : vx_Zq Bundle.tN "SUPPRESSED_SENTINEL" Bundle.listD A s s.heap) (hS : va_S A s.heap H locs) (hsize : ls.size = c.maxLocals)
    (d0 : decode cc pc = .ok (.new ik, 3)) (d3 : decode cc (pc + 3) = .ok (.dup, 1)) (d4 : decode cc (pc + 4) = .ok (.invokespecial ic, 3)) (d7 : decode cc (pc + 7) = .ok (.athrow, 1))
    (hout : ∀ x ∈ c.exceptionTable.toList, covers x (pc + 7) = false)
    (hRframes : names.length + 3 < R.frames) (hRlocals : (rest.map fun v => v.category).sum + (13 * (names.length + 1) + 42) ≤ R.locals) (hRcells : cells + 1 ≤ R.cells) (hRslots : slots + 6 ≤ R.slots) (hlocks : meth.locks = false)
    (hx : ∀ t : State, s.vm.Alike t.vm → H.size ≤ t.heap.size → (∀ q : Nat, q < H.size → t.heap[q]? = H[q]?) → XC cls s t)
    (hf : ∀ z ∈ locs, free z.base) (hc : cells + 1 ≤ mc) (hs : slots + 6 ≤ ms) :
    W p l e R s m args below meth c H locs cells slots (vx_MQ below Qc XC args s mc ms free) (F0 m pc ls rest) := by
  intro T hT X
  have htr : e.platform.stackTraces = false := (show e.platform.stackTraces = l.stackTraces by rw [X.admits.platform]).trans hl
  have Y := vx_rebase X (R' := { frames := R.frames, locals := R.locals, cells := 1, slots := 6 }) (Nat.le_refl _) (Nat.le_refl _) hRcells hRslots
  obtain ⟨s', hA⟩ : ∃ z, z = (T.setVm s.vm).setFrames (.invoking m args :: below) := ⟨_, rfl⟩
  rw [← hA] at Y
  have hvm : s'.vm = s.vm := by rw [hA]; rfl
  have hhp : s'.heap = H := by rw [hA]; exact hT
  have hW0 : s.WarmedH s'.vm := by rw [hvm]; exact State.WarmedH.refl s
  have hat' : ∀ w ∈ vx_at0 own ic cls names, w.before args s' = true := fun w hw => vx_ot_at hW0 hvm.symm (hgood w (List.mem_cons_of_mem _ (List.mem_cons_of_mem _ hw))) (hat w hw)
  have hk' : (Cond.classLink own ik cls).before args s' = true := vx_ot_at hW0 hvm.symm (hgood _ List.mem_cons_self) hk
  have hini' : (Cond.initialized cls).before args s' = true := vx_ot_at hW0 hvm.symm (hgood _ (List.mem_cons_of_mem _ List.mem_cons_self)) hini
  have hU' : vx_Zq Bundle.tN "UNASSIGNED_STACK" Bundle.steD A s' s'.heap := by rw [hhp]; exact vx_Zq.moved hW0.alike (hU.kept hS.2.1)
  have hN' : vx_Zq Bundle.tN "SUPPRESSED_SENTINEL" Bundle.listD A s' s'.heap := by rw [hhp]; exact vx_Zq.moved hW0.alike (hN.kept hS.2.1)
  have h : ∀ w ∈ Bundle.ownAtoms0 own ic cls names, w.before args s' = true := vx_own hat' (vx_isRefq hU'.1) (vx_isRefq hN'.1) hU'.2.word hN'.2.word
  have hown' : s'.vm.findClass own = some m.cls := by rw [hvm]; exact hown
  have hins : (Cond.instantiable cls 6).before args s' = true := h _ (by simp [Bundle.ownAtoms0])
  obtain ⟨vm₁, cX, kX, hfX, hkX, -, -, X₁, st1⟩ := Y.newCold hexec (own := own) (C := cls) (index := ik) (n := 6) hown' hk' hins hini'
    (g := F0 m pc ls rest) rfl (by rw [hb]; exact d0) (Nat.le_refl _) (Nat.le_refl _)
  generalize hT1 : (T.setVm vm₁).pushCell { cls := cX, slots := kX.instanceTypes.map defaultValue, vm := .none } = T1 at X₁ st1
  have hcat : (Value.ref T.heap.size).category = 1 := rfl
  have hcellA : T1.heap[T.heap.size]? = some (freshCell cX kX) := by rw [← hT1]; exact State.heap_pushCell_size _ _
  have d3' : decode c.code (pc + 3) = .ok (.dup, 1) := by rw [hb]; exact d3
  obtain ⟨U, hsteps, hrun, hend, hW, hsame, ce, hce, hO⟩ := X₁.ctorThrow0 hexec htr (own := own) (cls := cls) (names := names) (ic := ic) hown' hcls hnames h (fun x hx => nomatch hx) hfX hkX hcellA (by rw [hhp, hT]; exact Nat.le_refl _)
    (g := { method := m, pc := pc + 4, locals := ls, stack := .ref T.heap.size :: .ref T.heap.size :: rest, locked := none }) rfl hsize rfl rfl (rest := rest) rfl
    (by rw [hb]; exact d4) (by rw [hb]; exact d7) hout hRframes (by simp only [List.map_cons, List.sum_cons, hcat]; omega) hlocks
  obtain ⟨f1, f2⟩ := vx_frame hsame
  rw [hhp] at f1 f2
  have hWs : s.WarmedH U.vm := State.WarmedH.trans hW0 hW
  have hcl : s.vm.findClass cls = some ce.cls := by
    have h9 := hO.cls
    rw [hvm] at h9
    exact h9
  have hall : s.sameButNew ({ U with vm := s.vm } : State) locs mc ms := by
    subst hA
    obtain ⟨e1, e2⟩ := hsame
    rw [State.setFrames_setFrames] at e1
    have h2 : (T.setVm s.vm).sameButNew ({ U with vm := s.vm } : State) [] (0 + 1) (0 + 6) := ⟨e1, e2⟩
    have h3 := X.same.trans h2
    rw [List.append_nil] at h3
    exact h3.mono hc hs
  refine ⟨U, ?_, .threw T.heap.size, hrun, hend, Or.inr ⟨T.heap.size, rfl, cls, ce, locs, hx U hWs.alike f1 (fun q hq => f2 q hq (fun z hz => nomatch hz)), hce, hO.vm, hcl, hWs, hall, hf⟩⟩
  refine st1 _ ?_
  show Steps p.tables e below (T1.setTop { method := m, pc := pc + 3, locals := ls, stack := .ref T.heap.size :: rest, locked := none }) _
  jvm_step X₁.here [X₁.here.top, hexec, d3', Value.category]
  exact hsteps
/-- 'throw new E("text")': new; dup; ldc; invokespecial; athrow -/
theorem vx_throwS {cc : ByteArray} {pc : Nat} (hexec : p.tables.exec = Jvm.exec) (hb : c.code = cc) (hl : l.stackTraces = false) {own cls text : String} {names : List String} {ik is ic mc ms sa : Nat} {A : Nat → Prop}
    (hown : s.vm.findClass own = some m.cls) (hcls : Bundle.fit cls = true) (hnames : ∀ n ∈ names, Bundle.fit n = true)
    (hk : (Cond.classLink own ik cls).before args s = true) (hini : (Cond.initialized cls).before args s = true) (hstr : vk_R own is text sa s) (hat : ∀ w ∈ vx_atS own ic cls names, w.before args s = true)
    (hgood : ∀ w ∈ Cond.classLink own ik cls :: Cond.initialized cls :: vx_atS own ic cls names, vx_ot w = true)
    (hU : vx_Zq Bundle.tN "UNASSIGNED_STACK" Bundle.steD A s s.heap) (hN : vx_Zq Bundle.tN "SUPPRESSED_SENTINEL" Bundle.listD A s s.heap) (hS : va_S A s.heap H locs) (hsize : ls.size = c.maxLocals)
    (d0 : decode cc pc = .ok (.new ik, 3)) (d3 : decode cc (pc + 3) = .ok (.dup, 1)) (d4 : decode cc (pc + 4) = .ok (.ldc is, 2)) (d6 : decode cc (pc + 6) = .ok (.invokespecial ic, 3)) (d9 : decode cc (pc + 9) = .ok (.athrow, 1))
    (hout : ∀ x ∈ c.exceptionTable.toList, covers x (pc + 9) = false)
    (hRframes : names.length + 3 < R.frames) (hRlocals : (rest.map fun v => v.category).sum + (13 * (names.length + 1) + 43) ≤ R.locals) (hRcells : cells + 1 ≤ R.cells) (hRslots : slots + 6 ≤ R.slots) (hlocks : meth.locks = false)
    (hx : ∀ t : State, s.vm.Alike t.vm → H.size ≤ t.heap.size → (∀ q : Nat, q < H.size → t.heap[q]? = H[q]?) → XC cls s t)
    (hf : ∀ z ∈ locs, free z.base) (hc : cells + 1 ≤ mc) (hs : slots + 6 ≤ ms) :
    W p l e R s m args below meth c H locs cells slots (vx_MQ below Qc XC args s mc ms free) (F0 m pc ls rest) := by
  intro T hT X
  have htr : e.platform.stackTraces = false := (show e.platform.stackTraces = l.stackTraces by rw [X.admits.platform]).trans hl
  have Y := vx_rebase X (R' := { frames := R.frames, locals := R.locals, cells := 1, slots := 6 }) (Nat.le_refl _) (Nat.le_refl _) hRcells hRslots
  obtain ⟨s', hA⟩ : ∃ z, z = (T.setVm s.vm).setFrames (.invoking m args :: below) := ⟨_, rfl⟩
  rw [← hA] at Y
  have hvm : s'.vm = s.vm := by rw [hA]; rfl
  have hhp : s'.heap = H := by rw [hA]; exact hT
  have hW0 : s.WarmedH s'.vm := by rw [hvm]; exact State.WarmedH.refl s
  have hat' : ∀ w ∈ vx_atS own ic cls names, w.before args s' = true := fun w hw => vx_ot_at hW0 hvm.symm (hgood w (List.mem_cons_of_mem _ (List.mem_cons_of_mem _ hw))) (hat w hw)
  have hk' : (Cond.classLink own ik cls).before args s' = true := vx_ot_at hW0 hvm.symm (hgood _ List.mem_cons_self) hk
  have hini' : (Cond.initialized cls).before args s' = true := vx_ot_at hW0 hvm.symm (hgood _ (List.mem_cons_of_mem _ List.mem_cons_self)) hini
  have hU' : vx_Zq Bundle.tN "UNASSIGNED_STACK" Bundle.steD A s' s'.heap := by rw [hhp]; exact vx_Zq.moved hW0.alike (hU.kept hS.2.1)
  have hN' : vx_Zq Bundle.tN "SUPPRESSED_SENTINEL" Bundle.listD A s' s'.heap := by rw [hhp]; exact vx_Zq.moved hW0.alike (hN.kept hS.2.1)
  have h : ∀ w ∈ Bundle.ownAtoms own ic cls names, w.before args s' = true := vx_own hat' (vx_isRefq hU'.1) (vx_isRefq hN'.1) hU'.2.word hN'.2.word
  have hown' : s'.vm.findClass own = some m.cls := by rw [hvm]; exact hown
  have hins : (Cond.instantiable cls 6).before args s' = true := h _ (by simp [Bundle.ownAtoms])
  obtain ⟨vm₁, cX, kX, hfX, hkX, -, -, X₁, st1⟩ := Y.newCold hexec (own := own) (C := cls) (index := ik) (n := 6) hown' hk' hins hini'
    (g := F0 m pc ls rest) rfl (by rw [hb]; exact d0) (Nat.le_refl _) (Nat.le_refl _)
  generalize hT1 : (T.setVm vm₁).pushCell { cls := cX, slots := kX.instanceTypes.map defaultValue, vm := .none } = T1 at X₁ st1
  have hcat : (Value.ref T.heap.size).category = 1 := rfl
  have hcellA : T1.heap[T.heap.size]? = some (freshCell cX kX) := by rw [← hT1]; exact State.heap_pushCell_size _ _
  have d3' : decode c.code (pc + 3) = .ok (.dup, 1) := by rw [hb]; exact d3
  have d4' : decode c.code (pc + 4) = .ok (.ldc is, 2) := by rw [hb]; exact d4
  have hstr' : vk_R own is text sa s' := vk_R.warm hW0 hstr
  obtain ⟨U, hsteps, hrun, hend, hW, hsame, ce, hce, hO⟩ := X₁.ctorThrowS hexec htr (own := own) (cls := cls) (names := names) (ic := ic) hown' hcls hnames h (fun x hx => nomatch hx) hfX hkX hcellA (by rw [hhp, hT]; exact Nat.le_refl _) (msg := .ref sa) rfl
    (g := { method := m, pc := pc + 6, locals := ls, stack := .ref sa :: .ref T.heap.size :: .ref T.heap.size :: rest, locked := none }) rfl hsize rfl rfl (rest := rest) rfl
    (by rw [hb]; exact d6) (by rw [hb]; exact d9) hout hRframes (by simp only [List.map_cons, List.sum_cons, hcat]; omega) hlocks
  obtain ⟨f1, f2⟩ := vx_frame hsame
  rw [hhp] at f1 f2
  have hWs : s.WarmedH U.vm := State.WarmedH.trans hW0 hW
  have hcl : s.vm.findClass cls = some ce.cls := by
    have h9 := hO.cls
    rw [hvm] at h9
    exact h9
  have hall : s.sameButNew ({ U with vm := s.vm } : State) locs mc ms := by
    subst hA
    obtain ⟨e1, e2⟩ := hsame
    rw [State.setFrames_setFrames] at e1
    have h2 : (T.setVm s.vm).sameButNew ({ U with vm := s.vm } : State) [] (0 + 1) (0 + 6) := ⟨e1, e2⟩
    have h3 := X.same.trans h2
    rw [List.append_nil] at h3
    exact h3.mono hc hs
  refine ⟨U, ?_, .threw T.heap.size, hrun, hend, Or.inr ⟨T.heap.size, rfl, cls, ce, locs, hx U hWs.alike f1 (fun q hq => f2 q hq (fun z hz => nomatch hz)), hce, hO.vm, hcl, hWs, hall, hf⟩⟩
  refine st1 _ ?_
  show Steps p.tables e below (T1.setTop { method := m, pc := pc + 3, locals := ls, stack := .ref T.heap.size :: rest, locked := none }) _
  jvm_step X₁.here [X₁.here.top, hexec, d3', Value.category]
  exact X₁.ldcString hexec (own := own) (text := text) (index := is) (a := sa) hown' hstr'.1 hstr'.2
    (g := { method := m, pc := pc + 4, locals := ls, stack := .ref T.heap.size :: .ref T.heap.size :: rest, locked := none }) rfl d4' _ hsteps
/-- 'throw new E("text")', the text by a wide index -/
theorem vx_throwSW {cc : ByteArray} {pc : Nat} (hexec : p.tables.exec = Jvm.exec) (hb : c.code = cc) (hl : l.stackTraces = false) {own cls text : String} {names : List String} {ik is ic mc ms sa : Nat} {A : Nat → Prop}
    (hown : s.vm.findClass own = some m.cls) (hcls : Bundle.fit cls = true) (hnames : ∀ n ∈ names, Bundle.fit n = true)
    (hk : (Cond.classLink own ik cls).before args s = true) (hini : (Cond.initialized cls).before args s = true) (hstr : vk_R own is text sa s) (hat : ∀ w ∈ vx_atS own ic cls names, w.before args s = true)
    (hgood : ∀ w ∈ Cond.classLink own ik cls :: Cond.initialized cls :: vx_atS own ic cls names, vx_ot w = true)
    (hU : vx_Zq Bundle.tN "UNASSIGNED_STACK" Bundle.steD A s s.heap) (hN : vx_Zq Bundle.tN "SUPPRESSED_SENTINEL" Bundle.listD A s s.heap) (hS : va_S A s.heap H locs) (hsize : ls.size = c.maxLocals)
    (d0 : decode cc pc = .ok (.new ik, 3)) (d3 : decode cc (pc + 3) = .ok (.dup, 1)) (d4 : decode cc (pc + 4) = .ok (.ldc_w is, 3)) (d7 : decode cc (pc + 7) = .ok (.invokespecial ic, 3)) (d10 : decode cc (pc + 10) = .ok (.athrow, 1))
    (hout : ∀ x ∈ c.exceptionTable.toList, covers x (pc + 10) = false)
    (hRframes : names.length + 3 < R.frames) (hRlocals : (rest.map fun v => v.category).sum + (13 * (names.length + 1) + 43) ≤ R.locals) (hRcells : cells + 1 ≤ R.cells) (hRslots : slots + 6 ≤ R.slots) (hlocks : meth.locks = false)
    (hx : ∀ t : State, s.vm.Alike t.vm → H.size ≤ t.heap.size → (∀ q : Nat, q < H.size → t.heap[q]? = H[q]?) → XC cls s t)
    (hf : ∀ z ∈ locs, free z.base) (hc : cells + 1 ≤ mc) (hs : slots + 6 ≤ ms) :
    W p l e R s m args below meth c H locs cells slots (vx_MQ below Qc XC args s mc ms free) (F0 m pc ls rest) := by
  intro T hT X
  have htr : e.platform.stackTraces = false := (show e.platform.stackTraces = l.stackTraces by rw [X.admits.platform]).trans hl
  have Y := vx_rebase X (R' := { frames := R.frames, locals := R.locals, cells := 1, slots := 6 }) (Nat.le_refl _) (Nat.le_refl _) hRcells hRslots
  obtain ⟨s', hA⟩ : ∃ z, z = (T.setVm s.vm).setFrames (.invoking m args :: below) := ⟨_, rfl⟩
  rw [← hA] at Y
  have hvm : s'.vm = s.vm := by rw [hA]; rfl
  have hhp : s'.heap = H := by rw [hA]; exact hT
  have hW0 : s.WarmedH s'.vm := by rw [hvm]; exact State.WarmedH.refl s
  have hat' : ∀ w ∈ vx_atS own ic cls names, w.before args s' = true := fun w hw => vx_ot_at hW0 hvm.symm (hgood w (List.mem_cons_of_mem _ (List.mem_cons_of_mem _ hw))) (hat w hw)
  have hk' : (Cond.classLink own ik cls).before args s' = true := vx_ot_at hW0 hvm.symm (hgood _ List.mem_cons_self) hk
  have hini' : (Cond.initialized cls).before args s' = true := vx_ot_at hW0 hvm.symm (hgood _ (List.mem_cons_of_mem _ List.mem_cons_self)) hini
  have hU' : vx_Zq Bundle.tN "UNASSIGNED_STACK" Bundle.steD A s' s'.heap := by rw [hhp]; exact vx_Zq.moved hW0.alike (hU.kept hS.2.1)
  have hN' : vx_Zq Bundle.tN "SUPPRESSED_SENTINEL" Bundle.listD A s' s'.heap := by rw [hhp]; exact vx_Zq.moved hW0.alike (hN.kept hS.2.1)
  have h : ∀ w ∈ Bundle.ownAtoms own ic cls names, w.before args s' = true := vx_own hat' (vx_isRefq hU'.1) (vx_isRefq hN'.1) hU'.2.word hN'.2.word
  have hown' : s'.vm.findClass own = some m.cls := by rw [hvm]; exact hown
  have hins : (Cond.instantiable cls 6).before args s' = true := h _ (by simp [Bundle.ownAtoms])
  obtain ⟨vm₁, cX, kX, hfX, hkX, -, -, X₁, st1⟩ := Y.newCold hexec (own := own) (C := cls) (index := ik) (n := 6) hown' hk' hins hini'
    (g := F0 m pc ls rest) rfl (by rw [hb]; exact d0) (Nat.le_refl _) (Nat.le_refl _)
  generalize hT1 : (T.setVm vm₁).pushCell { cls := cX, slots := kX.instanceTypes.map defaultValue, vm := .none } = T1 at X₁ st1
  have hcat : (Value.ref T.heap.size).category = 1 := rfl
  have hcellA : T1.heap[T.heap.size]? = some (freshCell cX kX) := by rw [← hT1]; exact State.heap_pushCell_size _ _
  have d3' : decode c.code (pc + 3) = .ok (.dup, 1) := by rw [hb]; exact d3
  have d4' : decode c.code (pc + 4) = .ok (.ldc_w is, 3) := by rw [hb]; exact d4
  have hstr' : vk_R own is text sa s' := vk_R.warm hW0 hstr
  obtain ⟨U, hsteps, hrun, hend, hW, hsame, ce, hce, hO⟩ := X₁.ctorThrowS hexec htr (own := own) (cls := cls) (names := names) (ic := ic) hown' hcls hnames h (fun x hx => nomatch hx) hfX hkX hcellA (by rw [hhp, hT]; exact Nat.le_refl _) (msg := .ref sa) rfl
    (g := { method := m, pc := pc + 7, locals := ls, stack := .ref sa :: .ref T.heap.size :: .ref T.heap.size :: rest, locked := none }) rfl hsize rfl rfl (rest := rest) rfl
    (by rw [hb]; exact d7) (by rw [hb]; exact d10) hout hRframes (by simp only [List.map_cons, List.sum_cons, hcat]; omega) hlocks
  obtain ⟨f1, f2⟩ := vx_frame hsame
  rw [hhp] at f1 f2
  have hWs : s.WarmedH U.vm := State.WarmedH.trans hW0 hW
  have hcl : s.vm.findClass cls = some ce.cls := by
    have h9 := hO.cls
    rw [hvm] at h9
    exact h9
  have hall : s.sameButNew ({ U with vm := s.vm } : State) locs mc ms := by
    subst hA
    obtain ⟨e1, e2⟩ := hsame
    rw [State.setFrames_setFrames] at e1
    have h2 : (T.setVm s.vm).sameButNew ({ U with vm := s.vm } : State) [] (0 + 1) (0 + 6) := ⟨e1, e2⟩
    have h3 := X.same.trans h2
    rw [List.append_nil] at h3
    exact h3.mono hc hs
  refine ⟨U, ?_, .threw T.heap.size, hrun, hend, Or.inr ⟨T.heap.size, rfl, cls, ce, locs, hx U hWs.alike f1 (fun q hq => f2 q hq (fun z hz => nomatch hz)), hce, hO.vm, hcl, hWs, hall, hf⟩⟩
  refine st1 _ ?_
  show Steps p.tables e below (T1.setTop { method := m, pc := pc + 3, locals := ls, stack := .ref T.heap.size :: rest, locked := none }) _
  jvm_step X₁.here [X₁.here.top, hexec, d3', Value.category]
  exact X₁.ldcStringW hexec (own := own) (text := text) (index := is) (a := sa) hown' hstr'.1 hstr'.2
    (g := { method := m, pc := pc + 4, locals := ls, stack := .ref T.heap.size :: .ref T.heap.size :: rest, locked := none }) rfl d4' _ hsteps
end Ends
section Bodies
variable {l : Launch}
theorem vx_ofW {y : MethodName} {ws ws' : List Cond} {rm : Room} {Pc : Array Value → State → Prop} {Qc : Array Value → State → Outcome → State → Prop} {XC : String → State → State → Prop} {mc ms : Nat} {free : Addr → Prop} {cc : ByteArray} {maxL : Nat} {ret : Option FieldType}
    (hy : plainName y.cls = true) (hw : ws = Cond.code y cc maxL ret :: ws')
    (body : ∀ p e s m args below meth c s₁, BodyLoose p l y (headSpec ws rm) cc maxL ret e s m args below meth c s₁ → c.maxLocals = maxL → (∀ x ∈ c.exceptionTable.toList, False) → Pc args s →
      W p l e (headSpec ws rm).room s m args below meth c s.heap [] 0 0 (vx_MQ below Qc XC args s mc ms free) (entryFrame m args maxL)) : vx_Met l y ws rm Pc Qc XC mc ms free := by
  refine MetFree.of_bodyS (code := cc) (maxLocals := maxL) (ret := ret) hy ?_ ?_
  · intro args s m h hn
    obtain ⟨meth, c, h1, h2, h3, h4, h5, h6, -, -⟩ := Cond.code_spec hn (atoms_spec (ws := ws) h _ (by rw [hw]; exact List.mem_cons_self))
    exact ⟨meth, c, h1, h2, h3, h4, h5, h6⟩
  · intro p e s m args below meth c s₁ B hml hP _
    have hh0 : s₁.heap = s.heap := by rw [B.state]; rfl
    have ht : ∀ x ∈ c.exceptionTable.toList, False := by
      obtain ⟨meth9, c9, h1, h2, -, -, -, -, h7, -⟩ := Cond.code_spec B.named (atoms_spec (ws := ws) B.pre _ (by rw [hw]; exact List.mem_cons_self))
      cases Option.some.inj (h1.symm.trans B.method)
      cases Option.some.inj (h2.symm.trans (Stand.of_body B).code)
      intro x hx
      rw [Array.isEmpty_iff.mp h7] at hx
      cases hx
    obtain ⟨t, a1, o, b1, b2, b3⟩ := body p e s m args below meth c s₁ B hml ht hP s₁ hh0 (Stand.of_body B)
    exact ⟨t, o, a1, b1, b2, b3⟩
/-- the table of a body with handlers -/
theorem vx_table {p : Program} {x y : MethodName} {S : Spec} {cc bytes : ByteArray} {maxL maxL' : Nat} {ret ret' : Option FieldType} {e : Env} {s s₁ : State} {m : MethodId} {args : Array Value} {below : List Frame} {meth : Method} {c : Code} {hh : List (Nat × Nat × Nat × Nat)}
    (B : BodyLoose p l y S cc maxL ret e s m args below meth c s₁) (h : (Cond.codeWith y bytes maxL' ret' hh).before args s = true) : c.exceptionTable.toList = tableOf hh := by
  obtain ⟨m9, meth9, c9, hn9, h1, h2, -, -, h6, -⟩ := Cond.codeWith_spec h
  cases Option.some.inj (hn9.symm.trans B.named)
  cases Option.some.inj (h1.symm.trans B.method)
  cases Option.some.inj (h2.symm.trans (Stand.of_body B).code)
  rw [← h6, table_eq]
end Bodies
end VXA
/-! ===== END ===== -/
/-! ===== BEGIN a static call of a method with an exception table ===== -/
section VXS
variable {p : Program} {l : Launch} {e : Env} {R : Room} {s : State} {m : MethodId} {args : Array Value} {below : List Frame} {meth : Method} {c : Code} {T : State} {H : Heap} {locs : List Loc} {cells slots : Nat}
abbrev vx_CSW (R : Room) (s : State) (args : Array Value) (own : String) (index : Nat) (y : MethodName) (bytes : ByteArray) (maxL : Nat) (ret : Option FieldType) (hh : List (Nat × Nat × Nat × Nat)) (ws : List Cond) (rm : Room) (mc ms n : Nat) : Prop :=
  (rm.cells = mc ∧ rm.slots = ms ∧ rm.frames + 1 ≤ R.frames ∧ 8 + (maxL + 11) + rm.locals ≤ R.locals ∧ (∀ w ∈ ws, ∀ (a' : Array Value) (U : State), s.WarmedH U.vm → w.before a' U = true) ∧ Cond.codeWith y bytes maxL ret hh ∈ ws) ∧
  (Cond.codeWith y bytes maxL ret hh).before args s = true ∧ (Cond.initialized y.cls).before args s = true ∧ (y.cls ≠ "java/lang/invoke/MethodHandle" ∧ y.cls ≠ "java/lang/invoke/VarHandle") ∧
  (∀ sig, parseMethodDescriptor y.desc = some sig → n = sig.parameters.length) ∧ (Cond.methodLink own index y).before args s = true ∧ (Cond.static y).before args s = true
theorem vx_cwSW {own : String} {index maxL mc ms : Nat} {y : MethodName} {bytes : ByteArray} {ret : Option FieldType} {hh : List (Nat × Nat × Nat × Nat)} {Ts ws ws' : List Cond} {rm : Room} (n : Nat) (ht : ∀ w ∈ Ts, w.before args s = true) (hT : GoodIn Ts (va_wsS own index y ws)) (hw : ws = Cond.codeWith y bytes maxL ret hh :: ws') (hrc : rm.cells = mc) (hrs : rm.slots = ms)
    (hd : y.cls ≠ "java/lang/invoke/MethodHandle" ∧ y.cls ≠ "java/lang/invoke/VarHandle" ∧ (parseMethodDescriptor y.desc).map (fun d => d.parameters.length) = some n) (hR : rm.frames + 1 ≤ R.frames ∧ 8 + (maxL + 11) + rm.locals ≤ R.locals) :
    vx_CSW R s args own index y bytes maxL ret hh ws rm mc ms n := by
  have ok : ∀ w ∈ va_wsS own index y ws, w.before args s = true := fun w h => ht w (hT w h).1
  have hG : GoodIn Ts ws := fun w h => hT w (by unfold va_wsS; exact List.mem_append_right _ h)
  have hc : Cond.codeWith y bytes maxL ret hh ∈ ws := by rw [hw]; exact List.mem_cons_self
  refine ⟨⟨hrc, hrs, hR.1, hR.2, pay_in ht hG, hc⟩, ht _ (hG _ hc).1, ok _ (by simp [va_wsS]), ⟨hd.1, hd.2.1⟩, fun sig h => ?_, ok _ (by simp [va_wsS]), ok _ (by simp [va_wsS])⟩
  have h2 := hd.2.2
  rw [h] at h2
  exact (Option.some.inj h2).symm
theorem vx_callSW (X : Stand p l e R s m args below meth c T locs cells slots) (hexec : p.tables.exec = Jvm.exec) {own : String} {index : Nat} {y : MethodName} {bytes : ByteArray} {maxL : Nat} {ret : Option FieldType} {hh : List (Nat × Nat × Nat × Nat)}
    (hown : s.vm.findClass own = some m.cls) (hlink : (Cond.methodLink own index y).before args s = true) (hstat : (Cond.static y).before args s = true) (hinit : (Cond.initialized y.cls).before args s = true)
    (hcode : (Cond.codeWith y bytes maxL ret hh).before args s = true) (hy : y.cls ≠ "java/lang/invoke/MethodHandle" ∧ y.cls ≠ "java/lang/invoke/VarHandle")
    {W9 : Nat} {Pre : Pt → Array Value → Prop} {Post : Pt → Array Value → Option Value → Pt → Prop} (hK : Back l R p e below s args y 3 W9 Pre Post)
    {g : JFrame} (hg : g.method = m) (hsize : g.locals.size = c.maxLocals) {argsL rest : List Value} (hlen : ∀ sig, parseMethodDescriptor y.desc = some sig → argsL.length = sig.parameters.length)
    (hstack : g.stack = argsL.reverse ++ rest) (hW : 2 * g.monitorRoom + (rest.map fun v => v.category).sum ≤ W9) (hdg : decode c.code g.pc = .ok (.invokestatic index, 3))
    (hpre : ∀ vm₁, s.WarmedH vm₁ → Pre ⟨T.setVm vm₁, locs, cells, slots⟩ argsL.toArray) :
    ∃ (v : Option Value) (vm₁ : Vm) (B : Pt), s.WarmedH vm₁ ∧ Stand p l e R s m args below meth c B.U B.locs B.cells B.slots ∧ Post ⟨T.setVm vm₁, locs, cells, slots⟩ argsL.toArray v B ∧
      ∀ target, Steps p.tables e below (B.U.setTop { g with pc := g.pc + 3, stack := v.toList ++ rest }) target → Steps p.tables e below (T.setTop g) target := by
  obtain ⟨mk, methM, cM, hnamed, hmethM, -, -, -, -, -, -, hsigM⟩ := Cond.codeWith_spec hcode
  have hstatic : methM.isStatic = true := Cond.static_spec hnamed hmethM hstat
  obtain ⟨kP, hkP, -⟩ := className_of_methodNamed hnamed
  have hinitP : kP.init = .initialized := Cond.initialized_spec (findClass_of_methodNamed hnamed) hkP hinit
  obtain ⟨vm₁, X₁, hstep₁⟩ := X.invokestatic hexec hown hlink hnamed hmethM hstatic hkP hinitP hy (g := g) hg (argsL := argsL) (rest := rest) (hlen _ hsigM) hstack hdg
  obtain ⟨v, B, X', hpost, hsteps⟩ := hK m meth c ⟨T.setVm vm₁, locs, cells, slots⟩ { g with stack := rest } (.invokestatic index) mk argsL.toArray X₁ hg hsize hdg hW (X₁.named hnamed) (hpre vm₁ X₁.warmed)
  exact ⟨v, vm₁, B, X₁.warmed, X', hpost, fun target h => hstep₁ _ fun acts => by rw [doInvoke_state]; exact hsteps.trans h⟩
theorem vx_runSW {y : MethodName} {bytes cc : ByteArray} {maxL nL mc ms n index : Nat} {ret : Option FieldType} {hh : List (Nat × Nat × Nat × Nat)} {ws : List Cond} {rm : Room} {Pc : Array Value → State → Prop} {Qc : Array Value → State → Outcome → State → Prop} {free : Addr → Prop} {Ts : List Cond} {own : String} {As rest : List Value} {g : JFrame}
    (S : CallFix p m c cc nL s args Ts own) (hM : Met l y ws rm Pc Qc mc ms free) (cw : vx_CSW R s args own index y bytes maxL ret hh ws rm mc ms n) (hp : PreS s H Pc As)
    (hg : g.method = m) (hn : As.length = n) (hsize : g.locals.size = nL) (hstack : g.stack = As.reverse ++ rest) (hW : 2 * g.monitorRoom + (rest.map fun v => v.category).sum ≤ 8) (hdg : decode cc g.pc = .ok (.invokestatic index, 3)) (hf : cells + mc ≤ R.cells ∧ slots + ms ≤ R.slots) :
    va_Run p l e R s m args below meth c H locs cells slots mc ms g rest (Qc As.toArray) (free) := by
  obtain ⟨⟨hrc, hrs, hfr, hlo, hws, hcw⟩, hcode, hini, hy, hlen, hl, hstt⟩ := cw
  have hK : Back l R p e below s args y 3 8 (PreOf R mc ms Pc) (PostOf Qc mc ms free) := va_backW (hh := hh) (bytes := bytes) (maxL := maxL) (ret := ret) hM hp.1 hrc hrs hfr hlo hws hcw (fun a' U hW => word_at hW (Or.inl (by first | rfl | simp [Cond.onTables, Cond.keeps, Cond.steady])) hini)
  obtain ⟨hx, hb, hml, ho, -⟩ := S
  intro T hT X
  obtain ⟨v, vm₁, ⟨U', l2, c2, s2⟩, hW₁, X', ⟨g', mk, t, L, e1, e2, hq, h1, hL, h2, h3⟩, st⟩ := vx_callSW X hx (hh := hh) (bytes := bytes) (maxL := maxL) (ret := ret) ho hl hstt hini hcode hy hK hg (hsize.trans hml.symm) (argsL := As) (rest := rest) (fun sig h => hn.trans (hlen sig h)) hstack hW (by rw [hb]; exact hdg)
    (fun vm₁ hW₁ => ⟨hf.1, hf.2, hp.2 (T.setVm vm₁) hT hW₁⟩)
  dsimp only [Pt.U, Pt.locs, Pt.cells, Pt.slots] at X' e1 e2 h1 h2 h3 st
  subst h1; subst h2; subst h3
  exact ⟨v, (T.setVm vm₁).calling g' mk As.toArray, t, U', L, hT, X', hL, e1, e2, hq, st⟩
/-- not caught here, past rows that name other classes: it goes on to the caller -/
theorem vx_outP {p : Program} {l : Launch} {e : Env} {R : Room} {s : State} {m : MethodId} {args : Array Value} {below : List Frame} {meth : Method} {c : Code} {H : Heap} {locs : List Loc} {cells slots : Nat} {free : Addr → Prop} {ls : Array Slot} {rest : List Value} {Qc : Array Value → State → Outcome → State → Prop} {XC : String → State → State → Prop}
    {pc : Nat} {own E : String} {ce : Cell} {q : Addr} {mc ms : Nat} (hown : s.vm.findClass own = some m.cls) (hlocks : meth.locks = false)
    (hpass : ∀ z ∈ c.exceptionTable.toList, covers z pc = false ∨ (z.catchType ≠ 0 ∧ ∃ nm : String, (Cond.classLink own z.catchType nm).before args s = true ∧ va_Nc E nm s)) (hcell : H[q]? = some ce) (hv : ce.vm = .none) (hcl : s.vm.findClass E = some ce.cls)
    (hx : ∀ t : State, t.heap = H → s.vm.Alike t.vm → XC E s t) (hf : ∀ z ∈ locs, free z.base) (hc : cells ≤ mc) (hs : slots ≤ ms) :
    vx_W p l e R s m args below meth c H locs cells slots (vx_MQ below Qc XC args s mc ms free) (F0 m pc ls rest) q := by
  intro T hT X
  have hpl : e.platform.magicAccessors = ({} : Platform).magicAccessors := by rw [X.admits.platform]
  obtain ⟨vm', hW', X', st⟩ := X.outThrough hlocks q (g := F0 m pc ls rest) rfl rfl rfl (cell := ce) (by rw [hT]; exact hcell) (by rw [hv]; rfl)
    (by obtain ⟨k9, h9, -⟩ := Vm.findClass_spec hcl; exact ⟨k9, h9⟩) (fun z hz => by
      rcases hpass z hz with h | ⟨hz0, nm, hl1, hn1⟩
      · exact Or.inl h
      · obtain ⟨c6, hc6, hcl6⟩ := Cond.classLink_spec hown hl1 e.platform hpl
        obtain ⟨a8, b8, h1, h2, h3⟩ := hn1
        cases Option.some.inj (h1.symm.trans hcl)
        cases Option.some.inj (h2.symm.trans hc6)
        exact Or.inr ⟨hz0, _, hcl6, h3⟩)
  obtain ⟨g₀, hfr⟩ := X'.frames_eq
  have hcell9 : ((T.setVm vm').setFrames (.throwing q :: below)).heap[q]? = some ce := by
    show T.heap[q]? = some ce
    rw [hT]; exact hcell
  have hend : Ended ((T.setVm vm').setFrames (.throwing q :: below)) below (.threw q) := State.frames_setFrames _ (State.cur_lt_of_frames hfr)
  refine ⟨(T.setVm vm').setFrames (.throwing q :: below), ?_, .threw q, X'.here.running, hend, Or.inr ⟨q, rfl, E, ce, locs, hx _ hT (X'.ends _).1.alike, hcell9, hv, hcl, (X'.ends _).1, (X'.ends _).2.mono hc hs, hf⟩⟩
  rw [X.pushThrowing_eq]
  exact st
/-- a thing of a world lies in the heap -/
theorem vx_lt {D : va_G} {cl : List vw_C} {ws : va_W} {H1 : Heap} (h : va_P D cl ws H1) {k : Nat} {q : Nat × va_E} (hk : ws[k]? = some q) : q.1 < H1.size := (h k q hk).lt
end VXS
/-! ===== END ===== -/
/-! ===== BEGIN methods with a table of their own: called by a name, returning or throwing ===== -/
section VXH
/-! vx_backW, vx_callVX, vx_callSX, vx_callVW, vx_runVW, vx_runVX, vx_runSX, vx_ofWH follow the same proofs as their sisters above (Free/Laws.lean, Shelf42/LK1.lean); vx_outP calls Shelf42/NT130.lean (outThrough). -/
section
variable {l : Launch} {R : Room} {p : Program} {e : Env} {below : List Frame} {s : State} {sargs : Array Value} {y : MethodName} {len W9 : Nat}
theorem vx_backW {ws : List Cond} {rm : Room} {Pc : Array Value → State → Prop} {Qc : Array Value → State → Outcome → State → Prop} {XC : String → State → State → Prop} {mc ms : Nat} {free : Addr → Prop} {bytes : ByteArray} {maxL : Nat} {ret : Option FieldType} {hh : List (Nat × Nat × Nat × Nat)}
    (hM : vx_Met l y ws rm Pc Qc XC mc ms free) (hblind : FrameBlind Pc) (hrc : rm.cells = mc) (hrs : rm.slots = ms)
    (hframes : rm.frames + 1 ≤ R.frames) (hlocals : W9 + (maxL + 11) + rm.locals ≤ R.locals)
    (hws : ∀ w ∈ ws, ∀ a' U, s.WarmedH U.vm → w.before a' U = true) (hcode : Cond.codeWith y bytes maxL ret hh ∈ ws) (hinit : ∀ a' U, s.WarmedH U.vm → (Cond.initialized y.cls).before a' U = true) :
    vx_Back l R p e below s sargs y len W9 (PreOf R mc ms Pc) (PostOf Qc mc ms free) (vx_Post XC mc ms free) := by
  intro m meth c A g ig mk a X hg hsize hdg hW hn hp
  have h1 : (headSpec ws rm).pre.before a A.U = true := atoms_intro fun w hw => hws w hw _ _ X.warmed
  have h2 : (Cond.codeWith y bytes maxL ret hh).before a A.U = true := hws _ hcode _ _ X.warmed
  have h3 : (Cond.initialized y.cls).before a A.U = true := hinit _ _ X.warmed
  have h4 : A.cells + (headSpec ws rm).room.cells ≤ R.cells := by rw [show (headSpec ws rm).room.cells = mc from hrc]; exact hp.1
  have h5 : A.slots + (headSpec ws rm).room.slots ≤ R.slots := by rw [show (headSpec ws rm).room.slots = ms from hrs]; exact hp.2.1
  have hPc : Pc a (A.U.calling g mk a) := hblind _ _ _ _ hp.2.2
  obtain ⟨U, Ls, c0, s0⟩ := A
  dsimp only [Pt.U, Pt.locs, Pt.cells, Pt.slots] at h1 h2 h3 h4 h5 X hn hPc ⊢
  obtain ⟨m9, methY, cY, hn9, hmY, hcY, -, hlY, -⟩ := Cond.codeWith_spec h2
  cases Option.some.inj (hn9.symm.trans hn)
  obtain ⟨kY, hkY, -⟩ := className_of_methodNamed hn
  have hinitY : kY.init = .initialized := Cond.initialized_spec (findClass_of_methodNamed hn) hkY h3
  have h : At U g.method c below := by rw [hg]; exact X.here
  have hlocals9 : W9 + (maxL + 11) + (headSpec ws rm).room.locals ≤ R.locals := hlocals
  have happ : (headSpec ws rm).appliesLoose y e.platform (U.calling g mk a) = true :=
    Spec.appliesLoose_calling (g := g) h hdg hn hkY hinitY
      (X.room_calling (g := g) (R' := (headSpec ws rm).room) hsize hmY hcY hframes (by rw [hlY]; omega) h4 h5) h1
  obtain ⟨mid, hmid⟩ := h.above
  have hfr : (U.setTop g).frames = (.java g :: mid) ++ below := by rw [State.frames_setTop' g h.top, hmid]; rfl
  obtain ⟨o, s₂, hsteps, -, hend, hq⟩ := Steps.callFree hM p X.admits X.cas X.clock (acts := []) hfr happ hPc trivial
  have hq' : vx_Q Qc XC mc ms free a (U.calling g mk a) o s₂ := hq
  rw [State.frames_setTop' g h.top] at hend
  obtain ⟨g₀, hg0⟩ := Option.isSome_iff_exists.mp h.top
  obtain ⟨r, hr⟩ := State.topJava?_eq_some.mp hg0
  have hr' : (({ U with heap := s₂.heap, slotsUsed := s₂.slotsUsed } : State).setVm s₂.vm).frames = .java g₀ :: r := hr
  rcases hq' with ⟨hqc, L, hfe, hL⟩ | ⟨q, rfl, E, ce, L, hx, hce, hcv, hcl, hW₂, hsm, hL⟩
  · obtain ⟨⟨v, rfl⟩, hW₂, e2, q2, q3, q4, q5, q6⟩ := id hfe
    have e3 : s₂ = ({ (U.calling g mk a).setFrames s₂.frames with heap := s₂.heap, slotsUsed := s₂.slotsUsed } : State).setVm s₂.vm := by
      have : s₂ = ({ s₂ with vm := (U.calling g mk a).vm } : State).setVm s₂.vm := rfl
      rw [e2] at this
      exact this
    obtain ⟨c₂, i₂, len₂, hc₂, hd₂, hf₂⟩ := hend
    have hW' : U.WarmedH s₂.vm := hW₂
    have hcc : c₂ = c := by
      have h1 : s₂.code? g.method = U.code? g.method := by
        rw [State.code?_eq, State.code?_eq, hW'.alike.method?]
      exact Option.some.inj (hc₂.symm.trans (h1.trans h.code))
    subst hcc
    have hlen : len₂ = len := by rw [hdg] at hd₂; cases hd₂; rfl
    subst hlen
    have hs₂ : s₂ = (({ U with heap := s₂.heap, slotsUsed := s₂.slotsUsed } : State).setVm s₂.vm).setTop { g with pc := g.pc + len₂, stack := v.toList ++ g.stack } := by
      refine e3.trans ?_
      rw [hf₂, State.calling_eq h.top, State.setFrames_setFrames, State.setTop_of_frames _ hr', hr]
      rfl
    have hsame : U.sameButNew ({ U with heap := s₂.heap, slotsUsed := s₂.slotsUsed } : State) L mc ms := by
      refine ⟨?_, q2, q3, q4, q5, q6⟩
      obtain ⟨t, ht, -⟩ := State.frames_cons hr
      show ({ U with heap := s₂.heap, slotsUsed := s₂.slotsUsed } : State) = { U.setFrames U.frames with heap := s₂.heap, slotsUsed := s₂.slotsUsed }
      rw [State.setFrames_self ht]
    subst hg
    refine Or.inl ⟨v, ⟨(({ U with heap := s₂.heap, slotsUsed := s₂.slotsUsed } : State).setVm s₂.vm), Ls ++ L, c0 + mc, s0 + ms⟩,
      ⟨X.admits, X.cas, X.clock, X.frames, X.room, X.hears, X.method, X.code, (X.here.setHeapUsed s₂.heap s₂.slotsUsed).setVm hW'.alike, X.tail, State.WarmedH.trans X.warmed hW', X.limits, X.bytes, X.same.trans (hsame.setVm s.vm)⟩,
      ⟨g, mk, s₂, L, rfl, rfl, hqc, rfl, hL, rfl, rfl⟩, ?_⟩
    show Steps p.tables e below _ ((({ U with heap := s₂.heap, slotsUsed := s₂.slotsUsed } : State).setVm s₂.vm).setTop { g with pc := g.pc + len₂, stack := v.toList ++ g.stack })
    rw [← hs₂]
    exact hsteps
  · obtain ⟨e2, q2, q3, q4, q5, q6⟩ := id hsm
    have e3 : s₂ = ({ (U.calling g mk a).setFrames s₂.frames with heap := s₂.heap, slotsUsed := s₂.slotsUsed } : State).setVm s₂.vm := by
      have : s₂ = ({ s₂ with vm := (U.calling g mk a).vm } : State).setVm s₂.vm := rfl
      rw [e2] at this
      exact this
    have hf₂ : s₂.frames = .throwing q :: .java g :: U.frames.tail := hend
    have hW' : U.WarmedH s₂.vm := hW₂
    have hs₂ : s₂ = ((({ U with heap := s₂.heap, slotsUsed := s₂.slotsUsed } : State).setVm s₂.vm).setTop g).pushFrame (.throwing q) := by
      refine e3.trans ?_
      rw [hf₂, State.calling_eq h.top, State.setFrames_setFrames, State.pushFrame, State.frames_setTop _ hr', State.setTop_of_frames _ hr', State.setFrames_setFrames, hr]
      rfl
    have hsame : U.sameButNew ({ U with heap := s₂.heap, slotsUsed := s₂.slotsUsed } : State) L mc ms := by
      refine ⟨?_, q2, q3, q4, q5, q6⟩
      obtain ⟨t, ht, -⟩ := State.frames_cons hr
      show ({ U with heap := s₂.heap, slotsUsed := s₂.slotsUsed } : State) = { U.setFrames U.frames with heap := s₂.heap, slotsUsed := s₂.slotsUsed }
      rw [State.setFrames_self ht]
    subst hg
    refine Or.inr ⟨q, ⟨(({ U with heap := s₂.heap, slotsUsed := s₂.slotsUsed } : State).setVm s₂.vm), Ls ++ L, c0 + mc, s0 + ms⟩,
      ⟨X.admits, X.cas, X.clock, X.frames, X.room, X.hears, X.method, X.code, (X.here.setHeapUsed s₂.heap s₂.slotsUsed).setVm hW'.alike, X.tail, State.WarmedH.trans X.warmed hW', X.limits, X.bytes, X.same.trans (hsame.setVm s.vm)⟩,
      ⟨g, mk, s₂, L, E, ce, rfl, rfl, hx, hce, hcv, hcl, rfl, hL, rfl, rfl⟩, ?_⟩
    show Steps p.tables e below _ (((({ U with heap := s₂.heap, slotsUsed := s₂.slotsUsed } : State).setVm s₂.vm).setTop g).pushFrame (.throwing q))
    rw [← hs₂]
    exact hsteps
end
variable {p : Program} {l : Launch} {e : Env} {R : Room} {s : State} {m : MethodId} {args : Array Value} {below : List Frame} {meth : Method} {c : Code} {T : State} {H : Heap} {locs : List Loc} {cells slots : Nat}
theorem vx_callVX (X : Stand p l e R s m args below meth c T locs cells slots) (hexec : p.tables.exec = Jvm.exec) {own C : String} {index : Nat} {y : MethodName} {bytes : ByteArray} {maxL : Nat} {ret : Option FieldType} {hh : List (Nat × Nat × Nat × Nat)}
    (hown : s.vm.findClass own = some m.cls) (hlink : (Cond.methodLink own index y).before args s = true) (hinst : (Cond.instanceMethod y).before args s = true) (hsel : (Cond.selects C y y).before args s = true)
    (hcode : (Cond.codeWith y bytes maxL ret hh).before args s = true) (hy : y.cls ≠ "java/lang/invoke/MethodHandle" ∧ y.cls ≠ "java/lang/invoke/VarHandle")
    {W9 : Nat} {Pre : Pt → Array Value → Prop} {Post : Pt → Array Value → Option Value → Pt → Prop} {PostX : Pt → Array Value → Addr → Pt → Prop} (hK : vx_Back l R p e below s args y 3 W9 Pre Post PostX)
    {b : Addr} {cellB : Cell} (hcell : T.heap[b]? = some cellB) (hobj : cellB.vm.isStatics = false) (hcls : s.vm.findClass C = some cellB.cls)
    {g : JFrame} (hg : g.method = m) (hsize : g.locals.size = c.maxLocals) {argsL rest : List Value} (hlen : ∀ sig, parseMethodDescriptor y.desc = some sig → argsL.length = sig.parameters.length)
    (hstack : g.stack = argsL.reverse ++ .ref b :: rest) (hW : 2 * g.monitorRoom + (rest.map fun v => v.category).sum ≤ W9) (hdg : decode c.code g.pc = .ok (.invokevirtual index, 3))
    (hpre : ∀ vm₁, s.WarmedH vm₁ → Pre ⟨T.setVm vm₁, locs, cells, slots⟩ (Value.ref b :: argsL).toArray) :
    (∃ (v : Option Value) (vm₁ : Vm) (B : Pt), s.WarmedH vm₁ ∧ Stand p l e R s m args below meth c B.U B.locs B.cells B.slots ∧ Post ⟨T.setVm vm₁, locs, cells, slots⟩ (Value.ref b :: argsL).toArray v B ∧
      ∀ target, Steps p.tables e below (B.U.setTop { g with pc := g.pc + 3, stack := v.toList ++ rest }) target → Steps p.tables e below (T.setTop g) target) ∨
    (∃ (q : Addr) (vm₁ : Vm) (B : Pt), s.WarmedH vm₁ ∧ Stand p l e R s m args below meth c B.U B.locs B.cells B.slots ∧ PostX ⟨T.setVm vm₁, locs, cells, slots⟩ (Value.ref b :: argsL).toArray q B ∧
      Steps p.tables e below (T.setTop g) ((B.U.setTop { g with stack := rest }).pushFrame (.throwing q))) := by
  obtain ⟨mk, methM, hnamed, hmethM, hstM, habM⟩ := Cond.instanceMethod_spec hinst
  obtain ⟨m8, methM', cM, hn8, hmethM', -, -, -, -, -, -, hsigM⟩ := Cond.codeWith_spec hcode
  cases Option.some.inj (hn8.symm.trans hnamed)
  cases hmethM.symm.trans hmethM'
  obtain ⟨c2, r2, m2, q1, q2, q3, q4, kP, hkP, hkPi⟩ := Cond.selects_spec hsel
  cases hcls.symm.trans q1
  cases (State.methodFound?_of_named hnamed hy).symm.trans q2
  cases hnamed.symm.trans q3
  have hselP : selectMethod e.platform s.vm cellB.cls mk = .method mk := by rw [Launch.admits_selectMethod X.admits]; exact q4
  obtain ⟨vm₁, X₁, hstep₁⟩ := X.invokevirtual hexec hown hlink hnamed hmethM hstM hkP hkPi hy (a := b) (cell := cellB) hcell
    (fun z h => by rw [h] at hobj; cases hobj) hselP hmethM habM hkP hkPi (g := g) hg (argsL := argsL) (rest := rest) (hlen _ hsigM) hstack hdg
  rcases hK m meth c ⟨T.setVm vm₁, locs, cells, slots⟩ { g with stack := rest } (.invokevirtual index) mk (Value.ref b :: argsL).toArray X₁ hg hsize hdg hW (X₁.named hnamed) (hpre vm₁ X₁.warmed) with ⟨v, B, X', hpost, hsteps⟩ | ⟨q, B, X', hpost, hsteps⟩
  · exact Or.inl ⟨v, vm₁, B, X₁.warmed, X', hpost, fun target h => hstep₁ _ fun acts => by rw [doInvoke_state]; exact hsteps.trans h⟩
  · exact Or.inr ⟨q, vm₁, B, X₁.warmed, X', hpost, hstep₁ _ fun acts => by rw [doInvoke_state]; exact hsteps⟩
theorem vx_callSX (X : Stand p l e R s m args below meth c T locs cells slots) (hexec : p.tables.exec = Jvm.exec) {own : String} {index : Nat} {y : MethodName} {bytes : ByteArray} {maxL : Nat} {ret : Option FieldType} {hh : List (Nat × Nat × Nat × Nat)}
    (hown : s.vm.findClass own = some m.cls) (hlink : (Cond.methodLink own index y).before args s = true) (hstat : (Cond.static y).before args s = true) (hinit : (Cond.initialized y.cls).before args s = true)
    (hcode : (Cond.codeWith y bytes maxL ret hh).before args s = true) (hy : y.cls ≠ "java/lang/invoke/MethodHandle" ∧ y.cls ≠ "java/lang/invoke/VarHandle")
    {W9 : Nat} {Pre : Pt → Array Value → Prop} {Post : Pt → Array Value → Option Value → Pt → Prop} {PostX : Pt → Array Value → Addr → Pt → Prop} (hK : vx_Back l R p e below s args y 3 W9 Pre Post PostX)
    {g : JFrame} (hg : g.method = m) (hsize : g.locals.size = c.maxLocals) {argsL rest : List Value} (hlen : ∀ sig, parseMethodDescriptor y.desc = some sig → argsL.length = sig.parameters.length)
    (hstack : g.stack = argsL.reverse ++ rest) (hW : 2 * g.monitorRoom + (rest.map fun v => v.category).sum ≤ W9) (hdg : decode c.code g.pc = .ok (.invokestatic index, 3))
    (hpre : ∀ vm₁, s.WarmedH vm₁ → Pre ⟨T.setVm vm₁, locs, cells, slots⟩ argsL.toArray) :
    (∃ (v : Option Value) (vm₁ : Vm) (B : Pt), s.WarmedH vm₁ ∧ Stand p l e R s m args below meth c B.U B.locs B.cells B.slots ∧ Post ⟨T.setVm vm₁, locs, cells, slots⟩ argsL.toArray v B ∧
      ∀ target, Steps p.tables e below (B.U.setTop { g with pc := g.pc + 3, stack := v.toList ++ rest }) target → Steps p.tables e below (T.setTop g) target) ∨
    (∃ (q : Addr) (vm₁ : Vm) (B : Pt), s.WarmedH vm₁ ∧ Stand p l e R s m args below meth c B.U B.locs B.cells B.slots ∧ PostX ⟨T.setVm vm₁, locs, cells, slots⟩ argsL.toArray q B ∧
      Steps p.tables e below (T.setTop g) ((B.U.setTop { g with stack := rest }).pushFrame (.throwing q))) := by
  obtain ⟨mk, methM, cM, hnamed, hmethM, -, -, -, -, -, -, hsigM⟩ := Cond.codeWith_spec hcode
  have hstatic : methM.isStatic = true := Cond.static_spec hnamed hmethM hstat
  obtain ⟨kP, hkP, -⟩ := className_of_methodNamed hnamed
  have hinitP : kP.init = .initialized := Cond.initialized_spec (findClass_of_methodNamed hnamed) hkP hinit
  obtain ⟨vm₁, X₁, hstep₁⟩ := X.invokestatic hexec hown hlink hnamed hmethM hstatic hkP hinitP hy (g := g) hg (argsL := argsL) (rest := rest) (hlen _ hsigM) hstack hdg
  rcases hK m meth c ⟨T.setVm vm₁, locs, cells, slots⟩ { g with stack := rest } (.invokestatic index) mk argsL.toArray X₁ hg hsize hdg hW (X₁.named hnamed) (hpre vm₁ X₁.warmed) with ⟨v, B, X', hpost, hsteps⟩ | ⟨q, B, X', hpost, hsteps⟩
  · exact Or.inl ⟨v, vm₁, B, X₁.warmed, X', hpost, fun target h => hstep₁ _ fun acts => by rw [doInvoke_state]; exact hsteps.trans h⟩
  · exact Or.inr ⟨q, vm₁, B, X₁.warmed, X', hpost, hstep₁ _ fun acts => by rw [doInvoke_state]; exact hsteps⟩
theorem vx_callVW (X : Stand p l e R s m args below meth c T locs cells slots) (hexec : p.tables.exec = Jvm.exec) {own C : String} {index : Nat} {y : MethodName} {bytes : ByteArray} {maxL : Nat} {ret : Option FieldType} {hh : List (Nat × Nat × Nat × Nat)}
    (hown : s.vm.findClass own = some m.cls) (hlink : (Cond.methodLink own index y).before args s = true) (hinst : (Cond.instanceMethod y).before args s = true) (hsel : (Cond.selects C y y).before args s = true)
    (hcode : (Cond.codeWith y bytes maxL ret hh).before args s = true) (hy : y.cls ≠ "java/lang/invoke/MethodHandle" ∧ y.cls ≠ "java/lang/invoke/VarHandle")
    {W9 : Nat} {Pre : Pt → Array Value → Prop} {Post : Pt → Array Value → Option Value → Pt → Prop} (hK : Back l R p e below s args y 3 W9 Pre Post)
    {b : Addr} {cellB : Cell} (hcell : T.heap[b]? = some cellB) (hobj : cellB.vm.isStatics = false) (hcls : s.vm.findClass C = some cellB.cls)
    {g : JFrame} (hg : g.method = m) (hsize : g.locals.size = c.maxLocals) {argsL rest : List Value} (hlen : ∀ sig, parseMethodDescriptor y.desc = some sig → argsL.length = sig.parameters.length)
    (hstack : g.stack = argsL.reverse ++ .ref b :: rest) (hW : 2 * g.monitorRoom + (rest.map fun v => v.category).sum ≤ W9) (hdg : decode c.code g.pc = .ok (.invokevirtual index, 3))
    (hpre : ∀ vm₁, s.WarmedH vm₁ → Pre ⟨T.setVm vm₁, locs, cells, slots⟩ (Value.ref b :: argsL).toArray) :
    ∃ (v : Option Value) (vm₁ : Vm) (B : Pt), s.WarmedH vm₁ ∧ Stand p l e R s m args below meth c B.U B.locs B.cells B.slots ∧ Post ⟨T.setVm vm₁, locs, cells, slots⟩ (Value.ref b :: argsL).toArray v B ∧
      ∀ target, Steps p.tables e below (B.U.setTop { g with pc := g.pc + 3, stack := v.toList ++ rest }) target → Steps p.tables e below (T.setTop g) target := by
  obtain ⟨mk, methM, hnamed, hmethM, hstM, habM⟩ := Cond.instanceMethod_spec hinst
  obtain ⟨m8, methM', cM, hn8, hmethM', -, -, -, -, -, -, hsigM⟩ := Cond.codeWith_spec hcode
  cases Option.some.inj (hn8.symm.trans hnamed)
  cases hmethM.symm.trans hmethM'
  obtain ⟨c2, r2, m2, q1, q2, q3, q4, kP, hkP, hkPi⟩ := Cond.selects_spec hsel
  cases hcls.symm.trans q1
  cases (State.methodFound?_of_named hnamed hy).symm.trans q2
  cases hnamed.symm.trans q3
  have hselP : selectMethod e.platform s.vm cellB.cls mk = .method mk := by rw [Launch.admits_selectMethod X.admits]; exact q4
  obtain ⟨vm₁, X₁, hstep₁⟩ := X.invokevirtual hexec hown hlink hnamed hmethM hstM hkP hkPi hy (a := b) (cell := cellB) hcell
    (fun z h => by rw [h] at hobj; cases hobj) hselP hmethM habM hkP hkPi (g := g) hg (argsL := argsL) (rest := rest) (hlen _ hsigM) hstack hdg
  obtain ⟨v, B, X', hpost, hsteps⟩ := hK m meth c ⟨T.setVm vm₁, locs, cells, slots⟩ { g with stack := rest } (.invokevirtual index) mk (Value.ref b :: argsL).toArray X₁ hg hsize hdg hW (X₁.named hnamed) (hpre vm₁ X₁.warmed)
  exact ⟨v, vm₁, B, X₁.warmed, X', hpost, fun target h => hstep₁ _ fun acts => by rw [doInvoke_state]; exact hsteps.trans h⟩
abbrev vx_CVW (R : Room) (s : State) (args : Array Value) (own C : String) (index : Nat) (y : MethodName) (bytes : ByteArray) (maxL : Nat) (ret : Option FieldType) (hh : List (Nat × Nat × Nat × Nat)) (ws : List Cond) (rm : Room) (mc ms n : Nat) : Prop :=
  (rm.cells = mc ∧ rm.slots = ms ∧ rm.frames + 1 ≤ R.frames ∧ 8 + (maxL + 11) + rm.locals ≤ R.locals ∧ (∀ w ∈ ws, ∀ (a' : Array Value) (U : State), s.WarmedH U.vm → w.before a' U = true) ∧ Cond.codeWith y bytes maxL ret hh ∈ ws) ∧
  (Cond.codeWith y bytes maxL ret hh).before args s = true ∧ (Cond.initialized y.cls).before args s = true ∧ (y.cls ≠ "java/lang/invoke/MethodHandle" ∧ y.cls ≠ "java/lang/invoke/VarHandle") ∧
  (∀ sig, parseMethodDescriptor y.desc = some sig → n = sig.parameters.length) ∧ (Cond.methodLink own index y).before args s = true ∧ (Cond.instanceMethod y).before args s = true ∧ (Cond.selects C y y).before args s = true
theorem vx_cwVW {own C : String} {index maxL mc ms : Nat} {y : MethodName} {bytes : ByteArray} {ret : Option FieldType} {hh : List (Nat × Nat × Nat × Nat)} {Ts ws ws' : List Cond} {rm : Room} (n : Nat) (ht : ∀ w ∈ Ts, w.before args s = true) (hT : GoodIn Ts (wsV own index C y ws)) (hw : ws = Cond.codeWith y bytes maxL ret hh :: ws') (hrc : rm.cells = mc) (hrs : rm.slots = ms)
    (hd : y.cls = C ∧ y.cls ≠ "java/lang/invoke/MethodHandle" ∧ y.cls ≠ "java/lang/invoke/VarHandle" ∧ (parseMethodDescriptor y.desc).map (fun d => d.parameters.length) = some n) (hR : rm.frames + 1 ≤ R.frames ∧ 8 + (maxL + 11) + rm.locals ≤ R.locals) :
    vx_CVW R s args own C index y bytes maxL ret hh ws rm mc ms n := by
  obtain ⟨hC, hd⟩ := hd
  subst hC
  have ok : ∀ w ∈ wsV own index y.cls y ws, w.before args s = true := fun w h => ht w (hT w h).1
  have hG : GoodIn Ts ws := fun w h => hT w (by unfold wsV; exact List.mem_append_right _ h)
  have hc : Cond.codeWith y bytes maxL ret hh ∈ ws := by rw [hw]; exact List.mem_cons_self
  refine ⟨⟨hrc, hrs, hR.1, hR.2, pay_in ht hG, hc⟩, ht _ (hG _ hc).1, ok _ (by simp [wsV]), ⟨hd.1, hd.2.1⟩, fun sig h => ?_, ok _ (by simp [wsV]), ok _ (by simp [wsV]), ok _ (by simp [wsV])⟩
  have h2 := hd.2.2
  rw [h] at h2
  exact (Option.some.inj h2).symm
theorem vx_runVW {y : MethodName} {bytes cc : ByteArray} {maxL nL mc ms n index : Nat} {ret : Option FieldType} {hh : List (Nat × Nat × Nat × Nat)} {ws : List Cond} {rm : Room} {Pc : Array Value → State → Prop} {Qc : Array Value → State → Outcome → State → Prop} {free : Addr → Prop} {Ts : List Cond} {own C : String} {b : Addr} {As rest : List Value} {g : JFrame}
    (S : CallFix p m c cc nL s args Ts own) (hM : Met l y ws rm Pc Qc mc ms free) (cw : vx_CVW R s args own C index y bytes maxL ret hh ws rm mc ms n) (hp : PreV s H C b Pc As)
    (hg : g.method = m) (hn : As.length = n) (hsize : g.locals.size = nL) (hstack : g.stack = As.reverse ++ .ref b :: rest) (hW : 2 * g.monitorRoom + (rest.map fun v => v.category).sum ≤ 8) (hdg : decode cc g.pc = .ok (.invokevirtual index, 3)) (hf : cells + mc ≤ R.cells ∧ slots + ms ≤ R.slots) :
    va_Run p l e R s m args below meth c H locs cells slots mc ms g rest (Qc (Value.ref b :: As).toArray) free := by
  obtain ⟨⟨hrc, hrs, hfr, hlo, hws, hcw⟩, hcode, hini, hy, hlen, hl, hin, hse⟩ := cw
  have hK : Back l R p e below s args y 3 8 (PreOf R mc ms Pc) (PostOf Qc mc ms free) := va_backW (hh := hh) (bytes := bytes) (maxL := maxL) (ret := ret) hM hp.1 hrc hrs hfr hlo hws hcw (fun a' U hW => word_at hW (Or.inl (by first | rfl | simp [Cond.onTables, Cond.keeps, Cond.steady])) hini)
  obtain ⟨hx, hb, hml, ho, -⟩ := S
  obtain ⟨-, ⟨cellB, hcB, hoB, hclB⟩, hPc⟩ := hp
  intro T hT X
  obtain ⟨v, vm₁, ⟨U', l2, c2, s2⟩, hW₁, X', ⟨g', mk, t, L, e1, e2, hq, h1, hL, h2, h3⟩, st⟩ := vx_callVW X hx (C := C) (hh := hh) (bytes := bytes) (maxL := maxL) (ret := ret) ho hl hin hse hcode hy hK (by rw [hT]; exact hcB) hoB hclB hg (hsize.trans hml.symm) (argsL := As) (rest := rest) (fun sig h => hn.trans (hlen sig h)) hstack hW (by rw [hb]; exact hdg)
    (fun vm₁ hW₁ => ⟨hf.1, hf.2, hPc (T.setVm vm₁) hT hW₁⟩)
  dsimp only [Pt.U, Pt.locs, Pt.cells, Pt.slots] at X' e1 e2 h1 h2 h3 st
  subst h1; subst h2; subst h3
  exact ⟨v, (T.setVm vm₁).calling g' mk (Value.ref b :: As).toArray, t, U', L, hT, X', hL, e1, e2, hq, st⟩
section
variable {y : MethodName} {bytes cc : ByteArray} {maxL nL mc ms n index : Nat} {ret : Option FieldType} {ws : List Cond} {rm : Room} {Pc : Array Value → State → Prop} {Qc : Array Value → State → Outcome → State → Prop} {XC : String → State → State → Prop} {free : Addr → Prop} {Ts : List Cond} {own C : String} {b : Addr} {As rest : List Value} {g : JFrame}
theorem vx_runVX {hh : List (Nat × Nat × Nat × Nat)} (S : CallFix p m c cc nL s args Ts own) (hM : vx_Met l y ws rm Pc Qc XC mc ms free) (cw : vx_CVW R s args own C index y bytes maxL ret hh ws rm mc ms n) (hp : PreV s H C b Pc As)
    (hg : g.method = m) (hn : As.length = n) (hsize : g.locals.size = nL) (hstack : g.stack = As.reverse ++ .ref b :: rest) (hW : 2 * g.monitorRoom + (rest.map fun v => v.category).sum ≤ 8) (hdg : decode cc g.pc = .ok (.invokevirtual index, 3)) (hf : cells + mc ≤ R.cells ∧ slots + ms ≤ R.slots) :
    vx_Run p l e R s m args below meth c H locs cells slots mc ms g rest (Qc (Value.ref b :: As).toArray) XC free := by
  obtain ⟨⟨hrc, hrs, hfr, hlo, hws, hcw⟩, hcode, hini, hy, hlen, hl, hin, hse⟩ := cw
  have hK : vx_Back l R p e below s args y 3 8 (PreOf R mc ms Pc) (PostOf Qc mc ms free) (vx_Post XC mc ms free) := vx_backW (hh := hh) (bytes := bytes) (maxL := maxL) (ret := ret) hM hp.1 hrc hrs hfr hlo hws hcw (fun a' U hW => word_at hW (Or.inl (by first | rfl | simp [Cond.onTables, Cond.keeps, Cond.steady])) hini)
  obtain ⟨hx, hb, hml, ho, -⟩ := S
  obtain ⟨-, ⟨cellB, hcB, hoB, hclB⟩, hPc⟩ := hp
  intro T hT X
  rcases vx_callVX X hx (C := C) (hh := hh) (bytes := bytes) (maxL := maxL) (ret := ret) ho hl hin hse hcode hy hK (by rw [hT]; exact hcB) hoB hclB hg (hsize.trans hml.symm) (argsL := As) (rest := rest) (fun sig h => hn.trans (hlen sig h)) hstack hW (by rw [hb]; exact hdg)
    (fun vm₁ hW₁ => ⟨hf.1, hf.2, hPc (T.setVm vm₁) hT hW₁⟩) with ⟨v, vm₁, ⟨U', l2, c2, s2⟩, hW₁, X', ⟨g', mk, t, L, e1, e2, hq, h1, hL, h2, h3⟩, st⟩ | ⟨q, vm₁, ⟨U', l2, c2, s2⟩, hW₁, X', ⟨g', mk, t, L, E, ce, e1, e2, hq, hce, hcv, hcl, h1, hL, h2, h3⟩, st⟩
  · dsimp only [Pt.U, Pt.locs, Pt.cells, Pt.slots] at X' e1 e2 h1 h2 h3 st
    subst h1; subst h2; subst h3
    exact Or.inl ⟨v, (T.setVm vm₁).calling g' mk (Value.ref b :: As).toArray, t, U', L, hT, X', hL, e1, e2, hq, st⟩
  · dsimp only [Pt.U, Pt.locs, Pt.cells, Pt.slots] at X' e1 e2 h1 h2 h3 st hcl
    subst h1; subst h2; subst h3
    exact Or.inr ⟨q, (T.setVm vm₁).calling g' mk (Value.ref b :: As).toArray, t, U', L, E, ce, hT, X', hL, e1, e2, hq, hce, hcv, vx_cls hW₁ hcl, st⟩
theorem vx_runSX {hh : List (Nat × Nat × Nat × Nat)} (S : CallFix p m c cc nL s args Ts own) (hM : vx_Met l y ws rm Pc Qc XC mc ms free) (cw : vx_CSW R s args own index y bytes maxL ret hh ws rm mc ms n) (hp : PreS s H Pc As)
    (hg : g.method = m) (hn : As.length = n) (hsize : g.locals.size = nL) (hstack : g.stack = As.reverse ++ rest) (hW : 2 * g.monitorRoom + (rest.map fun v => v.category).sum ≤ 8) (hdg : decode cc g.pc = .ok (.invokestatic index, 3)) (hf : cells + mc ≤ R.cells ∧ slots + ms ≤ R.slots) :
    vx_Run p l e R s m args below meth c H locs cells slots mc ms g rest (Qc As.toArray) XC free := by
  obtain ⟨⟨hrc, hrs, hfr, hlo, hws, hcw⟩, hcode, hini, hy, hlen, hl, hstt⟩ := cw
  have hK : vx_Back l R p e below s args y 3 8 (PreOf R mc ms Pc) (PostOf Qc mc ms free) (vx_Post XC mc ms free) := vx_backW (hh := hh) (bytes := bytes) (maxL := maxL) (ret := ret) hM hp.1 hrc hrs hfr hlo hws hcw (fun a' U hW => word_at hW (Or.inl (by first | rfl | simp [Cond.onTables, Cond.keeps, Cond.steady])) hini)
  obtain ⟨hx, hb, hml, ho, -⟩ := S
  intro T hT X
  rcases vx_callSX X hx (hh := hh) (bytes := bytes) (maxL := maxL) (ret := ret) ho hl hstt hini hcode hy hK hg (hsize.trans hml.symm) (argsL := As) (rest := rest) (fun sig h => hn.trans (hlen sig h)) hstack hW (by rw [hb]; exact hdg)
    (fun vm₁ hW₁ => ⟨hf.1, hf.2, hp.2 (T.setVm vm₁) hT hW₁⟩) with ⟨v, vm₁, ⟨U', l2, c2, s2⟩, hW₁, X', ⟨g', mk, t, L, e1, e2, hq, h1, hL, h2, h3⟩, st⟩ | ⟨q, vm₁, ⟨U', l2, c2, s2⟩, hW₁, X', ⟨g', mk, t, L, E, ce, e1, e2, hq, hce, hcv, hcl, h1, hL, h2, h3⟩, st⟩
  · dsimp only [Pt.U, Pt.locs, Pt.cells, Pt.slots] at X' e1 e2 h1 h2 h3 st
    subst h1; subst h2; subst h3
    exact Or.inl ⟨v, (T.setVm vm₁).calling g' mk As.toArray, t, U', L, hT, X', hL, e1, e2, hq, st⟩
  · dsimp only [Pt.U, Pt.locs, Pt.cells, Pt.slots] at X' e1 e2 h1 h2 h3 st hcl
    subst h1; subst h2; subst h3
    exact Or.inr ⟨q, (T.setVm vm₁).calling g' mk As.toArray, t, U', L, E, ce, hT, X', hL, e1, e2, hq, hce, hcv, vx_cls hW₁ hcl, st⟩
end
end VXH
theorem vx_ofWH {l : Launch} {y : MethodName} {ws ws' : List Cond} {rm : Room} {Pc : Array Value → State → Prop} {Qc : Array Value → State → Outcome → State → Prop} {XC : String → State → State → Prop} {mc ms : Nat} {free : Addr → Prop} {cc : ByteArray} {maxL : Nat} {ret : Option FieldType} {hh : List (Nat × Nat × Nat × Nat)}
    (hy : plainName y.cls = true) (hw : ws = Cond.codeWith y cc maxL ret hh :: ws')
    (body : ∀ p e s m args below meth c s₁, BodyLoose p l y (headSpec ws rm) cc maxL ret e s m args below meth c s₁ → c.maxLocals = maxL → Pc args s →
      W p l e (headSpec ws rm).room s m args below meth c s.heap [] 0 0 (vx_MQ below Qc XC args s mc ms free) (entryFrame m args maxL)) : vx_Met l y ws rm Pc Qc XC mc ms free := by
  refine MetFree.of_bodyS (code := cc) (maxLocals := maxL) (ret := ret) hy ?_ ?_
  · intro args s m h hn
    obtain ⟨m9, meth, c, hn9, h1, h2, h3, h4, -, h5, h6, -⟩ := Cond.codeWith_spec (atoms_spec (ws := ws) h _ (by rw [hw]; exact List.mem_cons_self))
    cases hn.symm.trans hn9
    exact ⟨meth, c, h1, h2, h3, h4, h5, h6⟩
  · intro p e s m args below meth c s₁ B hml hP _
    have hh0 : s₁.heap = s.heap := by rw [B.state]; rfl
    obtain ⟨t, a1, o, b1, b2, b3⟩ := body p e s m args below meth c s₁ B hml hP s₁ hh0 (Stand.of_body B)
    exact ⟨t, o, a1, b1, b2, b3⟩
/-! ===== END ===== -/
end
section
def RX0 : String := "ArmTolls$Gear"
def TX0 : u_T := fun k => match k with
  | 0 => ("ArmTolls$Gear", "wears", "[I", true)
  | 1 => ("ArmTolls$Gear", "place", "I", false)
  | 2 => ("ArmTolls$Gear", "believed", "I", false)
  | 3 => ("ArmTolls$Gear", "load", "I", false)
  | 4 => ("ArmTolls$Gear", "way", "I", false)
  | 5 => ("ArmTolls$Gear", "slack", "I", false)
  | 6 => ("ArmTolls$Gear", "greased", "I", false)
  | 7 => ("ArmTolls$Gear", "steps", "I", false)
  | 8 => ("ArmTolls$Gear", "slips", "I", false)
  | 9 => ("ArmTolls$Gear", "tolls", "I", false)
  | 10 => ("ArmTolls$Gear", "turns", "I", false)
  | _ => ("ArmTolls$Gear", "homings", "I", false)
def tyX0 : Nat → FieldType := fun k => match k with
  | 0 => .array .int
  | 1 => .int
  | 2 => .int
  | 3 => .int
  | 4 => .int
  | 5 => .int
  | 6 => .int
  | 7 => .int
  | 8 => .int
  | 9 => .int
  | 10 => .int
  | _ => .int
theorem nmX0 : ∀ a, a < 12 → ∀ b, b < 12 → a ≠ b → (TX0 a).2.1 ≠ (TX0 b).2.1 := by decide +kernel
theorem tyX0_ok : ∀ k, k < 12 → parseFieldDescriptor (TX0 k).2.2.1 = some (tyX0 k) := by decide +kernel
abbrev cX0_init : ByteArray := prog_2_method_1_code
def yX0_init : MethodName := ⟨RX0, "<init>", "()V"⟩
abbrev cX0_nextPlace : ByteArray := prog_2_method_2_code
def yX0_nextPlace : MethodName := ⟨RX0, "nextPlace", "(II)I"⟩
abbrev cX0_toothBy : ByteArray := prog_2_method_3_code
def yX0_toothBy : MethodName := ⟨RX0, "toothBy", "(II)I"⟩
abbrev cX0_distance : ByteArray := prog_2_method_4_code
def yX0_distance : MethodName := ⟨RX0, "distance", "(II)I"⟩
abbrev cX0_wearOf : ByteArray := prog_2_method_5_code
def yX0_wearOf : MethodName := ⟨RX0, "wearOf", "(I)I"⟩
abbrev cX0_setWear : ByteArray := prog_2_method_6_code
def yX0_setWear : MethodName := ⟨RX0, "setWear", "(II)V"⟩
abbrev cX0_tollWith : ByteArray := prog_2_method_7_code
def yX0_tollWith : MethodName := ⟨RX0, "tollWith", "(IILArmTolls$Rules;)I"⟩
abbrev cX0_tollOfStep : ByteArray := prog_2_method_8_code
def yX0_tollOfStep : MethodName := ⟨RX0, "tollOfStep", "(ILArmTolls$Rules;)I"⟩
abbrev cX0_isTurn : ByteArray := prog_2_method_9_code
def yX0_isTurn : MethodName := ⟨RX0, "isTurn", "(I)Z"⟩
abbrev cX0_makeStep : ByteArray := prog_2_method_10_code
def yX0_makeStep : MethodName := ⟨RX0, "makeStep", "(IILArmTolls$Rules;)I"⟩
abbrev cX0_makeHomed : ByteArray := prog_2_method_11_code
def yX0_makeHomed : MethodName := ⟨RX0, "makeHomed", "(ILArmTolls$Rules;)I"⟩
abbrev cX0_costOfWay : ByteArray := prog_2_method_12_code
def yX0_costOfWay : MethodName := ⟨RX0, "costOfWay", "(IIILArmTolls$Rules;)I"⟩
abbrev cX0_property : ByteArray := prog_2_method_14_code
def yX0_property : MethodName := ⟨RX0, "property", "(I)I"⟩
abbrev cX0_copyFrom : ByteArray := prog_2_method_15_code
def yX0_copyFrom : MethodName := ⟨RX0, "copyFrom", "(LArmTolls$Gear;)V"⟩
def RX1 : String := "ArmTolls$History"
def TX1 : u_T := fun k => match k with
  | 0 => ("ArmTolls$History", "rows", "[LArmTolls$State;", true)
  | 1 => ("ArmTolls$History", "newest", "I", false)
  | _ => ("ArmTolls$History", "kept", "I", false)
def tyX1 : Nat → FieldType := fun k => match k with
  | 0 => .array (.object "ArmTolls$State")
  | 1 => .int
  | _ => .int
theorem nmX1 : ∀ a, a < 3 → ∀ b, b < 3 → a ≠ b → (TX1 a).2.1 ≠ (TX1 b).2.1 := by decide +kernel
theorem tyX1_ok : ∀ k, k < 3 → parseFieldDescriptor (TX1 k).2.2.1 = some (tyX1 k) := by decide +kernel
abbrev cX1_init : ByteArray := prog_3_method_1_code
def yX1_init : MethodName := ⟨RX1, "<init>", "()V"⟩
abbrev cX1_newestRow : ByteArray := prog_3_method_2_code
def yX1_newestRow : MethodName := ⟨RX1, "newestRow", "()LArmTolls$State;"⟩
abbrev cX1_save : ByteArray := prog_3_method_3_code
def yX1_save : MethodName := ⟨RX1, "save", "(LArmTolls$State;)V"⟩
def RX2 : String := "ArmTolls$Reader"
def TX2 : u_T := fun k => match k with
  | 0 => ("ArmTolls$Reader", "phase", "I", false)
  | 1 => ("ArmTolls$Reader", "axis", "I", false)
  | 2 => ("ArmTolls$Reader", "kind", "I", false)
  | _ => ("ArmTolls$Reader", "number", "I", false)
def tyX2 : Nat → FieldType := fun k => match k with
  | 0 => .int
  | 1 => .int
  | 2 => .int
  | _ => .int
theorem nmX2 : ∀ a, a < 4 → ∀ b, b < 4 → a ≠ b → (TX2 a).2.1 ≠ (TX2 b).2.1 := by decide +kernel
theorem tyX2_ok : ∀ k, k < 4 → parseFieldDescriptor (TX2 k).2.2.1 = some (tyX2 k) := by decide +kernel
abbrev cX2_init : ByteArray := prog_4_method_1_code
def yX2_init : MethodName := ⟨RX2, "<init>", "()V"⟩
def RX3 : String := "ArmTolls$Rules"
def TX3 : u_T := fun k => match k with
  | 0 => ("ArmTolls$Rules", "wearByStep", "I", false)
  | 1 => ("ArmTolls$Rules", "wearPerToll", "I", false)
  | 2 => ("ArmTolls$Rules", "wearThatSlips", "I", false)
  | 3 => ("ArmTolls$Rules", "mendingCost", "I", false)
  | 4 => ("ArmTolls$Rules", "greasedSteps", "I", false)
  | _ => ("ArmTolls$Rules", "greasingCost", "I", false)
def tyX3 : Nat → FieldType := fun k => match k with
  | 0 => .int
  | 1 => .int
  | 2 => .int
  | 3 => .int
  | 4 => .int
  | _ => .int
theorem nmX3 : ∀ a, a < 6 → ∀ b, b < 6 → a ≠ b → (TX3 a).2.1 ≠ (TX3 b).2.1 := by decide +kernel
theorem tyX3_ok : ∀ k, k < 6 → parseFieldDescriptor (TX3 k).2.2.1 = some (tyX3 k) := by decide +kernel
abbrev cX3_init : ByteArray := prog_5_method_1_code
def yX3_init : MethodName := ⟨RX3, "<init>", "()V"⟩
abbrev cX3_valueOf : ByteArray := prog_5_method_2_code
def yX3_valueOf : MethodName := ⟨RX3, "valueOf", "(I)I"⟩
abbrev cX3_put : ByteArray := prog_5_method_3_code
def yX3_put : MethodName := ⟨RX3, "put", "(II)V"⟩
abbrev cX3_copyFrom : ByteArray := prog_5_method_4_code
def yX3_copyFrom : MethodName := ⟨RX3, "copyFrom", "(LArmTolls$Rules;)V"⟩
def RX4 : String := "ArmTolls$State"
def TX4 : u_T := fun k => match k with
  | 0 => ("ArmTolls$State", "rules", "LArmTolls$Rules;", true)
  | 1 => ("ArmTolls$State", "gears", "[LArmTolls$Gear;", true)
  | 2 => ("ArmTolls$State", "purse", "I", false)
  | _ => ("ArmTolls$State", "careCosts", "I", false)
def tyX4 : Nat → FieldType := fun k => match k with
  | 0 => .object "ArmTolls$Rules"
  | 1 => .array (.object "ArmTolls$Gear")
  | 2 => .int
  | _ => .int
theorem nmX4 : ∀ a, a < 4 → ∀ b, b < 4 → a ≠ b → (TX4 a).2.1 ≠ (TX4 b).2.1 := by decide +kernel
theorem tyX4_ok : ∀ k, k < 4 → parseFieldDescriptor (TX4 k).2.2.1 = some (tyX4 k) := by decide +kernel
abbrev cX4_init : ByteArray := prog_6_method_1_code
def yX4_init : MethodName := ⟨RX4, "<init>", "()V"⟩
abbrev cX4_gearAt : ByteArray := prog_6_method_2_code
def yX4_gearAt : MethodName := ⟨RX4, "gearAt", "(I)LArmTolls$Gear;"⟩
abbrev cX4_payCare : ByteArray := prog_6_method_3_code
def yX4_payCare : MethodName := ⟨RX4, "payCare", "(I)V"⟩
abbrev cX4_sumOf : ByteArray := prog_6_method_4_code
def yX4_sumOf : MethodName := ⟨RX4, "sumOf", "(I)I"⟩
abbrev cX4_wearOfAll : ByteArray := prog_6_method_5_code
def yX4_wearOfAll : MethodName := ⟨RX4, "wearOfAll", "()I"⟩
abbrev cX4_teethWornTo : ByteArray := prog_6_method_6_code
def yX4_teethWornTo : MethodName := ⟨RX4, "teethWornTo", "(I)I"⟩
abbrev cX4_axesWhereBelieved : ByteArray := prog_6_method_7_code
def yX4_axesWhereBelieved : MethodName := ⟨RX4, "axesWhereBelieved", "()I"⟩
abbrev cX4_copyFrom : ByteArray := prog_6_method_8_code
def yX4_copyFrom : MethodName := ⟨RX4, "copyFrom", "(LArmTolls$State;)V"⟩
def RX5 : String := "ArmTolls"
def TX5 : u_T := fun k => match k with
  | 0 => ("ArmTolls", "now", "LArmTolls$State;", true)
  | 1 => ("ArmTolls", "history", "LArmTolls$History;", true)
  | 2 => ("ArmTolls", "trial", "LArmTolls$Gear;", true)
  | 3 => ("ArmTolls", "reader", "LArmTolls$Reader;", true)
  | 4 => ("ArmTolls", "buffer", "[I", true)
  | _ => ("ArmTolls", "length", "I", false)
def tyX5 : Nat → FieldType := fun k => match k with
  | 0 => .object "ArmTolls$State"
  | 1 => .object "ArmTolls$History"
  | 2 => .object "ArmTolls$Gear"
  | 3 => .object "ArmTolls$Reader"
  | 4 => .array .int
  | _ => .int
theorem nmX5 : ∀ a, a < 6 → ∀ b, b < 6 → a ≠ b → (TX5 a).2.1 ≠ (TX5 b).2.1 := by decide +kernel
theorem tyX5_ok : ∀ k, k < 6 → parseFieldDescriptor (TX5 k).2.2.1 = some (tyX5 k) := by decide +kernel
abbrev cX5_init : ByteArray := prog_1_method_1_code
def yX5_init : MethodName := ⟨RX5, "<init>", "()V"⟩
abbrev cX5_earn : ByteArray := prog_1_method_2_code
def yX5_earn : MethodName := ⟨RX5, "earn", "(I)I"⟩
abbrev cX5_load : ByteArray := prog_1_method_3_code
def yX5_load : MethodName := ⟨RX5, "load", "(II)I"⟩
abbrev cX5_set : ByteArray := prog_1_method_4_code
def yX5_set : MethodName := ⟨RX5, "set", "(II)I"⟩
abbrev cX5_step : ByteArray := prog_1_method_5_code
def yX5_step : MethodName := ⟨RX5, "step", "(II)I"⟩
abbrev cX5_go : ByteArray := prog_1_method_6_code
def yX5_go : MethodName := ⟨RX5, "go", "(II)I"⟩
abbrev cX5_home : ByteArray := prog_1_method_7_code
def yX5_home : MethodName := ⟨RX5, "home", "(I)I"⟩
abbrev cX5_grease : ByteArray := prog_1_method_8_code
def yX5_grease : MethodName := ⟨RX5, "grease", "(I)I"⟩
abbrev cX5_mend : ByteArray := prog_1_method_9_code
def yX5_mend : MethodName := ⟨RX5, "mend", "(II)I"⟩
abbrev cX5_axis : ByteArray := prog_1_method_15_code
def yX5_axis : MethodName := ⟨RX5, "axis", "(II)I"⟩
abbrev cX5_wear : ByteArray := prog_1_method_16_code
def yX5_wear : MethodName := ⟨RX5, "wear", "(II)I"⟩
abbrev cX5_count : ByteArray := prog_1_method_17_code
def yX5_count : MethodName := ⟨RX5, "count", "(I)I"⟩
abbrev cX5_cost : ByteArray := prog_1_method_21_code
def yX5_cost : MethodName := ⟨RX5, "cost", "(IIZ)I"⟩
abbrev cX5_ifHomed : ByteArray := prog_1_method_22_code
def yX5_ifHomed : MethodName := ⟨RX5, "ifHomed", "(II)I"⟩
abbrev cX5_gearOf : ByteArray := prog_1_method_28_code
def yX5_gearOf : MethodName := ⟨RX5, "gearOf", "(I)LArmTolls$Gear;"⟩
abbrev cX5_checkSetting : ByteArray := prog_1_method_29_code
def yX5_checkSetting : MethodName := ⟨RX5, "checkSetting", "(I)V"⟩
abbrev cX5_checkTooth : ByteArray := prog_1_method_30_code
def yX5_checkTooth : MethodName := ⟨RX5, "checkTooth", "(I)V"⟩
abbrev cX5_checkPlace : ByteArray := prog_1_method_31_code
def yX5_checkPlace : MethodName := ⟨RX5, "checkPlace", "(I)V"⟩
abbrev cX5_isValueOf : ByteArray := prog_1_method_32_code
def yX5_isValueOf : MethodName := ⟨RX5, "isValueOf", "(II)Z"⟩
abbrev cX5_wayOf : ByteArray := prog_1_method_33_code
def yX5_wayOf : MethodName := ⟨RX5, "wayOf", "(Z)I"⟩
abbrev cX5_canStep : ByteArray := prog_1_method_34_code
def yX5_canStep : MethodName := ⟨RX5, "canStep", "(LArmTolls$Gear;I)Z"⟩
abbrev cX5_canGo : ByteArray := prog_1_method_35_code
def yX5_canGo : MethodName := ⟨RX5, "canGo", "(LArmTolls$Gear;I)Z"⟩
abbrev cX5_canGrease : ByteArray := prog_1_method_36_code
def yX5_canGrease : MethodName := ⟨RX5, "canGrease", "()Z"⟩
abbrev cX5_makeSteps : ByteArray := prog_1_method_37_code
def yX5_makeSteps : MethodName := ⟨RX5, "makeSteps", "(LArmTolls$Gear;II)I"⟩
abbrev cX5_goTo : ByteArray := prog_1_method_38_code
def yX5_goTo : MethodName := ⟨RX5, "goTo", "(LArmTolls$Gear;I)I"⟩
abbrev cX5_makeHomed : ByteArray := prog_1_method_39_code
def yX5_makeHomed : MethodName := ⟨RX5, "makeHomed", "(LArmTolls$Gear;)Z"⟩
abbrev cX5_makeGreased : ByteArray := prog_1_method_40_code
def yX5_makeGreased : MethodName := ⟨RX5, "makeGreased", "(LArmTolls$Gear;)V"⟩
abbrev cX5_cheaperWay : ByteArray := prog_1_method_41_code
def yX5_cheaperWay : MethodName := ⟨RX5, "cheaperWay", "(LArmTolls$Gear;I)I"⟩
abbrev cX5_countOf : ByteArray := prog_1_method_47_code
def yX5_countOf : MethodName := ⟨RX5, "countOf", "(I)I"⟩
abbrev cX5_homingFact : ByteArray := prog_1_method_49_code
def yX5_homingFact : MethodName := ⟨RX5, "homingFact", "(LArmTolls$Gear;I)I"⟩
def RX6 : String := "ArmTollsModel"
def TX6 : u_T := fun k => match k with
  | _ => ("", "", "", false)
def tyX6 : Nat → FieldType := fun k => match k with
  | _ => .int
theorem nmX6 : ∀ a, a < 0 → ∀ b, b < 0 → a ≠ b → (TX6 a).2.1 ≠ (TX6 b).2.1 := by decide +kernel
theorem tyX6_ok : ∀ k, k < 0 → parseFieldDescriptor (TX6 k).2.2.1 = some (tyX6 k) := by decide +kernel
def RJ9 : String := "java/lang/Math"
def TJ9 : u_T := fun k => match k with
  | _ => ("", "", "", false)
def tyJ9 : Nat → FieldType := fun k => match k with
  | _ => .int
theorem nmJ9 : ∀ a, a < 0 → ∀ b, b < 0 → a ≠ b → (TJ9 a).2.1 ≠ (TJ9 b).2.1 := by decide +kernel
theorem tyJ9_ok : ∀ k, k < 0 → parseFieldDescriptor (TJ9 k).2.2.1 = some (tyJ9 k) := by decide +kernel
abbrev cJ9_floorMod_7cf53 : ByteArray := prog_13_method_50_code
def yJ9_floorMod_7cf53 : MethodName := ⟨RJ9, "floorMod", "(II)I"⟩
abbrev cJ9_max_7cf53 : ByteArray := prog_13_method_65_code
def yJ9_max_7cf53 : MethodName := ⟨RJ9, "max", "(II)I"⟩
abbrev cJ9_min_7cf53 : ByteArray := prog_13_method_69_code
def yJ9_min_7cf53 : MethodName := ⟨RJ9, "min", "(II)I"⟩
def RJ0 : String := "java/lang/String"
def TJ0 : u_T := fun k => match k with
  | _ => ("", "", "", false)
def tyJ0 : Nat → FieldType := fun k => match k with
  | _ => .int
theorem nmJ0 : ∀ a, a < 0 → ∀ b, b < 0 → a ≠ b → (TJ0 a).2.1 ≠ (TJ0 b).2.1 := by decide +kernel
theorem tyJ0_ok : ∀ k, k < 0 → parseFieldDescriptor (TJ0 k).2.2.1 = some (tyJ0 k) := by decide +kernel
def RJ10 : String := "java/lang/System"
def TJ10 : u_T := fun k => match k with
  | _ => ("", "", "", false)
def tyJ10 : Nat → FieldType := fun k => match k with
  | _ => .int
theorem nmJ10 : ∀ a, a < 0 → ∀ b, b < 0 → a ≠ b → (TJ10 a).2.1 ≠ (TJ10 b).2.1 := by decide +kernel
theorem tyJ10_ok : ∀ k, k < 0 → parseFieldDescriptor (TJ10 k).2.2.1 = some (tyJ10 k) := by decide +kernel
def RL : String := "ArmTollsLaw"
abbrev cL_cell : ByteArray := method_2_code
def yL_cell : MethodName := ⟨RL, "cell", "([II)I"⟩
abbrev cL_at : ByteArray := method_3_code
def yL_at : MethodName := ⟨RL, "at", "(II)I"⟩
abbrev cL_tooth : ByteArray := method_4_code
def yL_tooth : MethodName := ⟨RL, "tooth", "(II)I"⟩
abbrev cL_go : ByteArray := method_5_code
def yL_go : MethodName := ⟨RL, "go", "(II)I"⟩
abbrev cL_wear : ByteArray := method_6_code
def yL_wear : MethodName := ⟨RL, "wear", "([I[III)I"⟩
abbrev cL_setWear : ByteArray := method_7_code
def yL_setWear : MethodName := ⟨RL, "setWear", "([I[IIII)V"⟩
abbrev cL_toll : ByteArray := method_8_code
def yL_toll : MethodName := ⟨RL, "toll", "([IIIZ)I"⟩
abbrev cL_step : ByteArray := method_9_code
def yL_step : MethodName := ⟨RL, "step", "([I[I[I[I[I[I[I[I[I[III)Z"⟩
abbrev cL_cost : ByteArray := method_10_code
def yL_cost : MethodName := ⟨RL, "cost", "([I[I[I[I[I[IIIII)I"⟩
abbrev cL_moves : ByteArray := method_11_code
def yL_moves : MethodName := ⟨RL, "moves", "(LArmTolls;II[I[I[I[I[I[I[I[I[I[I)Z"⟩
abbrev cL_cares : ByteArray := method_12_code
def yL_cares : MethodName := ⟨RL, "cares", "(LArmTolls;II[I[I[I[I[I)Z"⟩
abbrev cL_agree : ByteArray := method_13_code
def yL_agree : MethodName := ⟨RL, "agree", "(LArmTolls;[I[I[I[I[I[I[I[I[I[I)Z"⟩
abbrev cL_law : ByteArray := code
def yL_law : MethodName := ⟨RL, "law", "([I)Z"⟩
abbrev vwCl : List vw_C := [(RX0, TX0, 12), (RX1, TX1, 3), (RX2, TX2, 4), (RX3, TX3, 6), (RX4, TX4, 4), (RX5, TX5, 6)]
end
section
/-! one list of words for all methods: the good ones of the tables -/
def AW : List Cond := lw_tbl.filter goodWord
theorem aw {w : Cond} (i : Nat) (h : lw_tbl[i]? = some w) (g : goodWord w = true) : w ∈ AW := List.mem_filter.mpr ⟨List.mem_of_getElem? h, g⟩
theorem aw0 {w : Cond} (i : Nat) (h : (k2_sels lw_privs)[i]? = some w) (g : goodWord w = true) : w ∈ AW := List.mem_filter.mpr ⟨List.mem_append_left _ (List.mem_of_getElem? h), g⟩
theorem awT {w : Cond} (h : w ∈ tables_1) (g : goodWord w = true) : w ∈ AW := List.mem_filter.mpr ⟨List.mem_append_right _ h, g⟩
theorem aw1 {w : Cond} (i : Nat) (h : tables_1_1[i]? = some w) (g : goodWord w = true) : w ∈ AW := awT (List.mem_append_left _ (List.mem_of_getElem? h)) g
theorem aw2 {w : Cond} (i : Nat) (h : tables_1_2[i]? = some w) (g : goodWord w = true) : w ∈ AW := awT (List.mem_append_right _ (List.mem_append_left _ (List.mem_of_getElem? h))) g
theorem aw3 {w : Cond} (i : Nat) (h : tables_1_3[i]? = some w) (g : goodWord w = true) : w ∈ AW := awT (List.mem_append_right _ (List.mem_append_right _ (List.mem_of_getElem? h))) g
theorem aw_good {w : Cond} (h : w ∈ AW) : (w.onTables && w.keeps) = true ∨ ∃ ty, w = .arrayClass ty := good_of_word (List.mem_filter.mp h).2
theorem aw_all {ws : List Cond} (h : ws.all (fun w => decide (w ∈ lw_tbl) && goodWord w) = true) : ∀ w ∈ ws, w ∈ AW := by
  intro w hw
  have h1 := List.all_eq_true.mp h w hw
  simp only [Bool.and_eq_true, decide_eq_true_eq] at h1
  exact List.mem_filter.mpr ⟨h1.1, h1.2⟩
theorem q_0 : Cond.initialized RL ∈ AW := aw1 0 (by decide +kernel) (by decide +kernel)
theorem q_1 : Cond.initialized RX5 ∈ AW := aw1 1 (by decide +kernel) (by decide +kernel)
theorem q_2 : Cond.initialized RX4 ∈ AW := aw1 2 (by decide +kernel) (by decide +kernel)
theorem q_3 : Cond.initialized RX3 ∈ AW := aw1 3 (by decide +kernel) (by decide +kernel)
theorem q_4 : Cond.initialized RX0 ∈ AW := aw1 4 (by decide +kernel) (by decide +kernel)
theorem q_5 : Cond.initialized RX1 ∈ AW := aw1 5 (by decide +kernel) (by decide +kernel)
theorem q_6 : Cond.initialized RX2 ∈ AW := aw1 6 (by decide +kernel) (by decide +kernel)
theorem q_7 : Cond.initialized "java/lang/Throwable" ∈ AW := aw1 7 (by decide +kernel) (by decide +kernel)
theorem q_8 : Cond.initialized "java/lang/Exception" ∈ AW := aw1 8 (by decide +kernel) (by decide +kernel)
theorem q_9 : Cond.initialized "java/lang/RuntimeException" ∈ AW := aw1 9 (by decide +kernel) (by decide +kernel)
theorem q_10 : Cond.initialized "java/lang/IllegalArgumentException" ∈ AW := aw1 10 (by decide +kernel) (by decide +kernel)
theorem q_11 : Cond.initialized "java/lang/IllegalStateException" ∈ AW := aw1 11 (by decide +kernel) (by decide +kernel)
theorem q_12 : Cond.initialized RJ9 ∈ AW := aw1 12 (by decide +kernel) (by decide +kernel)
theorem q_13 : Cond.initialized RJ10 ∈ AW := aw1 13 (by decide +kernel) (by decide +kernel)
theorem q_14 : Cond.initialized "java/lang/IndexOutOfBoundsException" ∈ AW := aw1 14 (by decide +kernel) (by decide +kernel)
theorem q_15 : Cond.classLink RL 37 RX5 ∈ AW := aw1 15 (by decide +kernel) (by decide +kernel)
theorem q_16 : Cond.instantiable RX5 6 ∈ AW := aw1 16 (by decide +kernel) (by decide +kernel)
theorem q_17 : Cond.methodLink RL 78 yX5_init ∈ AW := aw1 17 (by decide +kernel) (by decide +kernel)
theorem q_18 : Cond.instanceMethod yX5_init ∈ AW := aw1 18 (by decide +kernel) (by decide +kernel)
theorem q_19 : Cond.code yX5_init cX5_init 1 none ∈ AW := aw1 19 (by decide +kernel) (by decide +kernel)
theorem q_20 : Cond.methodLink RX5 1 ⟨"java/lang/Object", "<init>", "()V"⟩ ∈ AW := aw1 20 (by decide +kernel) (by decide +kernel)
theorem q_21 : Cond.instanceMethod ⟨"java/lang/Object", "<init>", "()V"⟩ ∈ AW := aw1 21 (by decide +kernel) (by decide +kernel)
theorem q_22 : Cond.code ⟨"java/lang/Object", "<init>", "()V"⟩ object_method_1_code 1 none ∈ AW := aw1 22 (by decide +kernel) (by decide +kernel)
theorem q_23 : Cond.classLink RX5 7 RX4 ∈ AW := aw1 23 (by decide +kernel) (by decide +kernel)
theorem q_24 : Cond.instantiable RX4 4 ∈ AW := aw1 24 (by decide +kernel) (by decide +kernel)
theorem q_25 : Cond.methodLink RX5 9 yX4_init ∈ AW := aw1 25 (by decide +kernel) (by decide +kernel)
theorem q_26 : Cond.instanceMethod yX4_init ∈ AW := aw1 26 (by decide +kernel) (by decide +kernel)
theorem q_27 : Cond.code yX4_init cX4_init 2 none ∈ AW := aw1 27 (by decide +kernel) (by decide +kernel)
theorem q_28 : Cond.methodLink RX4 3 ⟨"java/lang/Object", "<init>", "()V"⟩ ∈ AW := aw1 28 (by decide +kernel) (by decide +kernel)
theorem q_29 : Cond.classLink RX4 9 RX3 ∈ AW := aw1 29 (by decide +kernel) (by decide +kernel)
theorem q_30 : Cond.instantiable RX3 6 ∈ AW := aw1 30 (by decide +kernel) (by decide +kernel)
theorem q_32 : Cond.instanceMethod yX3_init ∈ AW := aw1 32 (by decide +kernel) (by decide +kernel)
theorem q_33 : Cond.code yX3_init cX3_init 1 none ∈ AW := aw1 33 (by decide +kernel) (by decide +kernel)
theorem q_34 : Cond.methodLink RX3 1 ⟨"java/lang/Object", "<init>", "()V"⟩ ∈ AW := aw1 34 (by decide +kernel) (by decide +kernel)
theorem q_35 : Cond.fieldLink RX3 7 "ArmTolls$Rules" "wearByStep" "I" ∈ AW := aw1 35 (by decide +kernel) (by decide +kernel)
theorem q_36 : Cond.fieldLink RX0 84 "ArmTolls$Rules" "wearByStep" "I" ∈ AW := aw1 36 (by decide +kernel) (by decide +kernel)
theorem q_37 : Cond.fieldLink RX3 13 "ArmTolls$Rules" "wearPerToll" "I" ∈ AW := aw1 37 (by decide +kernel) (by decide +kernel)
theorem q_38 : Cond.fieldLink RX0 58 "ArmTolls$Rules" "wearPerToll" "I" ∈ AW := aw1 38 (by decide +kernel) (by decide +kernel)
theorem q_39 : Cond.fieldLink RX3 16 "ArmTolls$Rules" "wearThatSlips" "I" ∈ AW := aw1 39 (by decide +kernel) (by decide +kernel)
theorem q_40 : Cond.fieldLink RX0 81 "ArmTolls$Rules" "wearThatSlips" "I" ∈ AW := aw1 40 (by decide +kernel) (by decide +kernel)
theorem q_41 : Cond.fieldLink RX5 316 "ArmTolls$Rules" "wearThatSlips" "I" ∈ AW := aw1 41 (by decide +kernel) (by decide +kernel)
theorem q_42 : Cond.fieldLink RX3 19 "ArmTolls$Rules" "mendingCost" "I" ∈ AW := aw1 42 (by decide +kernel) (by decide +kernel)
theorem q_43 : Cond.fieldLink RX5 147 "ArmTolls$Rules" "mendingCost" "I" ∈ AW := aw1 43 (by decide +kernel) (by decide +kernel)
theorem q_44 : Cond.fieldLink RX3 22 "ArmTolls$Rules" "greasedSteps" "I" ∈ AW := aw1 44 (by decide +kernel) (by decide +kernel)
theorem q_45 : Cond.fieldLink RX5 282 "ArmTolls$Rules" "greasedSteps" "I" ∈ AW := aw1 45 (by decide +kernel) (by decide +kernel)
theorem q_46 : Cond.fieldLink RX3 25 "ArmTolls$Rules" "greasingCost" "I" ∈ AW := aw1 46 (by decide +kernel) (by decide +kernel)
theorem q_47 : Cond.fieldLink RX5 270 "ArmTolls$Rules" "greasingCost" "I" ∈ AW := aw1 47 (by decide +kernel) (by decide +kernel)
theorem q_61 : Cond.classLink RX4 18 RX0 ∈ AW := aw1 61 (by decide +kernel) (by decide +kernel)
theorem q_63 : Cond.instantiable RX0 12 ∈ AW := aw1 63 (by decide +kernel) (by decide +kernel)
theorem q_65 : Cond.instanceMethod yX0_init ∈ AW := aw1 65 (by decide +kernel) (by decide +kernel)
theorem q_66 : Cond.code yX0_init cX0_init 1 none ∈ AW := aw1 66 (by decide +kernel) (by decide +kernel)
theorem q_67 : Cond.methodLink RX0 3 ⟨"java/lang/Object", "<init>", "()V"⟩ ∈ AW := aw1 67 (by decide +kernel) (by decide +kernel)
theorem q_68 : Cond.fieldLink RX0 9 "ArmTolls$Gear" "wears" "[I" ∈ AW := aw1 68 (by decide +kernel) (by decide +kernel)
theorem q_69 : Cond.fieldLink RX0 15 "ArmTolls$Gear" "place" "I" ∈ AW := aw1 69 (by decide +kernel) (by decide +kernel)
theorem q_70 : Cond.fieldLink RX4 43 "ArmTolls$Gear" "place" "I" ∈ AW := aw1 70 (by decide +kernel) (by decide +kernel)
theorem q_71 : Cond.fieldLink RX0 19 "ArmTolls$Gear" "believed" "I" ∈ AW := aw1 71 (by decide +kernel) (by decide +kernel)
theorem q_72 : Cond.fieldLink RX4 46 "ArmTolls$Gear" "believed" "I" ∈ AW := aw1 72 (by decide +kernel) (by decide +kernel)
theorem q_73 : Cond.fieldLink RX5 264 "ArmTolls$Gear" "believed" "I" ∈ AW := aw1 73 (by decide +kernel) (by decide +kernel)
theorem q_74 : Cond.fieldLink RX0 22 "ArmTolls$Gear" "load" "I" ∈ AW := aw1 74 (by decide +kernel) (by decide +kernel)
theorem q_75 : Cond.fieldLink RX5 71 "ArmTolls$Gear" "load" "I" ∈ AW := aw1 75 (by decide +kernel) (by decide +kernel)
theorem q_76 : Cond.fieldLink RX0 25 "ArmTolls$Gear" "way" "I" ∈ AW := aw1 76 (by decide +kernel) (by decide +kernel)
theorem q_77 : Cond.fieldLink RX0 28 "ArmTolls$Gear" "slack" "I" ∈ AW := aw1 77 (by decide +kernel) (by decide +kernel)
theorem q_78 : Cond.fieldLink RX0 31 "ArmTolls$Gear" "greased" "I" ∈ AW := aw1 78 (by decide +kernel) (by decide +kernel)
theorem q_79 : Cond.fieldLink RX5 285 "ArmTolls$Gear" "greased" "I" ∈ AW := aw1 79 (by decide +kernel) (by decide +kernel)
theorem q_80 : Cond.fieldLink RX0 34 "ArmTolls$Gear" "steps" "I" ∈ AW := aw1 80 (by decide +kernel) (by decide +kernel)
theorem q_81 : Cond.fieldLink RX5 124 "ArmTolls$Gear" "steps" "I" ∈ AW := aw1 81 (by decide +kernel) (by decide +kernel)
theorem q_82 : Cond.fieldLink RX0 37 "ArmTolls$Gear" "slips" "I" ∈ AW := aw1 82 (by decide +kernel) (by decide +kernel)
theorem q_83 : Cond.fieldLink RX0 40 "ArmTolls$Gear" "tolls" "I" ∈ AW := aw1 83 (by decide +kernel) (by decide +kernel)
theorem q_84 : Cond.fieldLink RX0 43 "ArmTolls$Gear" "turns" "I" ∈ AW := aw1 84 (by decide +kernel) (by decide +kernel)
theorem q_85 : Cond.fieldLink RX0 46 "ArmTolls$Gear" "homings" "I" ∈ AW := aw1 85 (by decide +kernel) (by decide +kernel)
theorem q_86 : Cond.fieldLink RX5 277 "ArmTolls$Gear" "homings" "I" ∈ AW := aw1 86 (by decide +kernel) (by decide +kernel)
theorem q_112 : Cond.arrayClass .int ∈ AW := aw1 112 (by decide +kernel) (by decide +kernel)
theorem q_113 : Cond.fieldLink RX4 12 "ArmTolls$State" "rules" "LArmTolls$Rules;" ∈ AW := aw1 113 (by decide +kernel) (by decide +kernel)
theorem q_114 : Cond.fieldLink RX5 84 "ArmTolls$State" "rules" "LArmTolls$Rules;" ∈ AW := aw1 114 (by decide +kernel) (by decide +kernel)
theorem q_115 : Cond.fieldLink RX4 20 "ArmTolls$State" "gears" "[LArmTolls$Gear;" ∈ AW := aw1 115 (by decide +kernel) (by decide +kernel)
theorem q_116 : Cond.fieldLink RX4 24 "ArmTolls$State" "purse" "I" ∈ AW := aw1 116 (by decide +kernel) (by decide +kernel)
theorem q_117 : Cond.fieldLink RX5 52 "ArmTolls$State" "purse" "I" ∈ AW := aw1 117 (by decide +kernel) (by decide +kernel)
theorem q_118 : Cond.fieldLink RX4 28 "ArmTolls$State" "careCosts" "I" ∈ AW := aw1 118 (by decide +kernel) (by decide +kernel)
theorem q_119 : Cond.fieldLink RX5 310 "ArmTolls$State" "careCosts" "I" ∈ AW := aw1 119 (by decide +kernel) (by decide +kernel)
theorem q_129 : Cond.classLink RX5 16 RX1 ∈ AW := aw1 129 (by decide +kernel) (by decide +kernel)
theorem q_130 : Cond.instantiable RX1 3 ∈ AW := aw1 130 (by decide +kernel) (by decide +kernel)
theorem q_131 : Cond.methodLink RX5 18 yX1_init ∈ AW := aw1 131 (by decide +kernel) (by decide +kernel)
theorem q_132 : Cond.instanceMethod yX1_init ∈ AW := aw1 132 (by decide +kernel) (by decide +kernel)
theorem q_133 : Cond.code yX1_init cX1_init 2 none ∈ AW := aw1 133 (by decide +kernel) (by decide +kernel)
theorem q_134 : Cond.methodLink RX1 3 ⟨"java/lang/Object", "<init>", "()V"⟩ ∈ AW := aw1 134 (by decide +kernel) (by decide +kernel)
theorem q_135 : Cond.classLink RX1 9 RX4 ∈ AW := aw1 135 (by decide +kernel) (by decide +kernel)
theorem q_137 : Cond.methodLink RX1 24 yX4_init ∈ AW := aw1 137 (by decide +kernel) (by decide +kernel)
theorem q_138 : Cond.fieldLink RX1 11 "ArmTolls$History" "rows" "[LArmTolls$State;" ∈ AW := aw1 138 (by decide +kernel) (by decide +kernel)
theorem q_139 : Cond.fieldLink RX1 17 "ArmTolls$History" "newest" "I" ∈ AW := aw1 139 (by decide +kernel) (by decide +kernel)
theorem q_140 : Cond.fieldLink RX1 21 "ArmTolls$History" "kept" "I" ∈ AW := aw1 140 (by decide +kernel) (by decide +kernel)
theorem q_141 : Cond.fieldLink RX5 174 "ArmTolls$History" "kept" "I" ∈ AW := aw1 141 (by decide +kernel) (by decide +kernel)
theorem q_149 : Cond.classLink RX5 23 RX0 ∈ AW := aw1 149 (by decide +kernel) (by decide +kernel)
theorem q_151 : Cond.classLink RX5 30 RX2 ∈ AW := aw1 151 (by decide +kernel) (by decide +kernel)
theorem q_152 : Cond.instantiable RX2 4 ∈ AW := aw1 152 (by decide +kernel) (by decide +kernel)
theorem q_154 : Cond.instanceMethod yX2_init ∈ AW := aw1 154 (by decide +kernel) (by decide +kernel)
theorem q_155 : Cond.code yX2_init cX2_init 1 none ∈ AW := aw1 155 (by decide +kernel) (by decide +kernel)
theorem q_156 : Cond.methodLink RX2 3 ⟨"java/lang/Object", "<init>", "()V"⟩ ∈ AW := aw1 156 (by decide +kernel) (by decide +kernel)
theorem q_157 : Cond.fieldLink RX2 11 "ArmTolls$Reader" "phase" "I" ∈ AW := aw1 157 (by decide +kernel) (by decide +kernel)
theorem q_158 : Cond.fieldLink RX2 15 "ArmTolls$Reader" "axis" "I" ∈ AW := aw1 158 (by decide +kernel) (by decide +kernel)
theorem q_159 : Cond.fieldLink RX2 18 "ArmTolls$Reader" "kind" "I" ∈ AW := aw1 159 (by decide +kernel) (by decide +kernel)
theorem q_160 : Cond.fieldLink RX2 21 "ArmTolls$Reader" "number" "I" ∈ AW := aw1 160 (by decide +kernel) (by decide +kernel)
theorem q_170 : Cond.fieldLink RX5 10 "ArmTolls" "now" "LArmTolls$State;" ∈ AW := aw1 170 (by decide +kernel) (by decide +kernel)
theorem q_171 : Cond.fieldLink RX5 19 "ArmTolls" "history" "LArmTolls$History;" ∈ AW := aw1 171 (by decide +kernel) (by decide +kernel)
theorem q_172 : Cond.fieldLink RX5 26 "ArmTolls" "trial" "LArmTolls$Gear;" ∈ AW := aw1 172 (by decide +kernel) (by decide +kernel)
theorem q_173 : Cond.fieldLink RX5 33 "ArmTolls" "reader" "LArmTolls$Reader;" ∈ AW := aw1 173 (by decide +kernel) (by decide +kernel)
theorem q_174 : Cond.fieldLink RX5 37 "ArmTolls" "buffer" "[I" ∈ AW := aw1 174 (by decide +kernel) (by decide +kernel)
theorem q_175 : Cond.fieldLink RX5 41 "ArmTolls" "length" "I" ∈ AW := aw1 175 (by decide +kernel) (by decide +kernel)
theorem q_189 : Cond.methodLink RL 79 yL_cell ∈ AW := aw1 189 (by decide +kernel) (by decide +kernel)
theorem q_190 : Cond.static yL_cell ∈ AW := aw1 190 (by decide +kernel) (by decide +kernel)
theorem q_191 : Cond.code yL_cell cL_cell 2 (some .int) ∈ AW := aw1 191 (by decide +kernel) (by decide +kernel)
theorem q_192 : Cond.constant RL 7 (521288629) ∈ AW := aw1 192 (by decide +kernel) (by decide +kernel)
theorem q_193 : Cond.methodLink RL 29 yL_at ∈ AW := aw1 193 (by decide +kernel) (by decide +kernel)
theorem q_194 : Cond.static yL_at ∈ AW := aw1 194 (by decide +kernel) (by decide +kernel)
theorem q_195 : Cond.code yL_at cL_at 2 (some .int) ∈ AW := aw1 195 (by decide +kernel) (by decide +kernel)
theorem q_196 : Cond.methodLink RL 87 yL_moves ∈ AW := aw1 196 (by decide +kernel) (by decide +kernel)
theorem q_197 : Cond.static yL_moves ∈ AW := aw1 197 (by decide +kernel) (by decide +kernel)
theorem q_198 : Cond.code yL_moves cL_moves 21 (some .boolean) ∈ AW := aw1 198 (by decide +kernel) (by decide +kernel)
theorem q_199 : Cond.methodLink RL 8 yL_tooth ∈ AW := aw1 199 (by decide +kernel) (by decide +kernel)
theorem q_200 : Cond.static yL_tooth ∈ AW := aw1 200 (by decide +kernel) (by decide +kernel)
theorem q_201 : Cond.code yL_tooth cL_tooth 2 (some .int) ∈ AW := aw1 201 (by decide +kernel) (by decide +kernel)
theorem q_202 : Cond.methodLink RL 14 yL_wear ∈ AW := aw1 202 (by decide +kernel) (by decide +kernel)
theorem q_203 : Cond.static yL_wear ∈ AW := aw1 203 (by decide +kernel) (by decide +kernel)
theorem q_204 : Cond.code yL_wear cL_wear 4 (some .int) ∈ AW := aw1 204 (by decide +kernel) (by decide +kernel)
theorem q_205 : Cond.methodLink RL 18 yL_toll ∈ AW := aw1 205 (by decide +kernel) (by decide +kernel)
theorem q_206 : Cond.static yL_toll ∈ AW := aw1 206 (by decide +kernel) (by decide +kernel)
theorem q_207 : Cond.code yL_toll cL_toll 5 (some .int) ∈ AW := aw1 207 (by decide +kernel) (by decide +kernel)
theorem q_208 : Cond.methodLink RL 32 yL_step ∈ AW := aw1 208 (by decide +kernel) (by decide +kernel)
theorem q_209 : Cond.static yL_step ∈ AW := aw1 209 (by decide +kernel) (by decide +kernel)
theorem q_210 : Cond.code yL_step cL_step 16 (some .boolean) ∈ AW := aw1 210 (by decide +kernel) (by decide +kernel)
theorem q_211 : Cond.methodLink RL 22 yL_go ∈ AW := aw1 211 (by decide +kernel) (by decide +kernel)
theorem q_212 : Cond.static yL_go ∈ AW := aw1 212 (by decide +kernel) (by decide +kernel)
theorem q_213 : Cond.code yL_go cL_go 2 (some .int) ∈ AW := aw1 213 (by decide +kernel) (by decide +kernel)
theorem q_214 : Cond.methodLink RL 25 yL_setWear ∈ AW := aw1 214 (by decide +kernel) (by decide +kernel)
theorem q_215 : Cond.static yL_setWear ∈ AW := aw1 215 (by decide +kernel) (by decide +kernel)
theorem q_216 : Cond.code yL_setWear cL_setWear 5 none ∈ AW := aw1 216 (by decide +kernel) (by decide +kernel)
theorem q_217 : Cond.methodLink RL 36 yX5_step ∈ AW := aw1 217 (by decide +kernel) (by decide +kernel)
theorem q_218 : Cond.instanceMethod yX5_step ∈ AW := aw1 218 (by decide +kernel) (by decide +kernel)
theorem q_219 : Cond.selects RX5 yX5_step yX5_step ∈ AW := aw1 219 (by decide +kernel) (by decide +kernel)
theorem q_220 : Cond.code yX5_step cX5_step 5 (some .int) ∈ AW := aw1 220 (by decide +kernel) (by decide +kernel)
theorem q_221 : Cond.methodLink RX5 65 yX5_gearOf ∈ AW := aw1 221 (by decide +kernel) (by decide +kernel)
theorem q_223 : Cond.instanceMethod yX5_gearOf ∈ AW := aw1 223 (by decide +kernel) (by decide +kernel)
theorem q_224 : Cond.code yX5_gearOf cX5_gearOf 3 (some (.object "ArmTolls$Gear")) ∈ AW := aw1 224 (by decide +kernel) (by decide +kernel)
theorem q_225 : Cond.methodLink RX5 226 yX4_gearAt ∈ AW := aw1 225 (by decide +kernel) (by decide +kernel)
theorem q_226 : Cond.instanceMethod yX4_gearAt ∈ AW := aw1 226 (by decide +kernel) (by decide +kernel)
theorem q_227 : Cond.selects RX4 yX4_gearAt yX4_gearAt ∈ AW := aw1 227 (by decide +kernel) (by decide +kernel)
theorem q_228 : Cond.code yX4_gearAt cX4_gearAt 2 (some (.object "ArmTolls$Gear")) ∈ AW := aw1 228 (by decide +kernel) (by decide +kernel)
theorem q_229 : Cond.classLink RX5 247 "java/lang/IndexOutOfBoundsException" ∈ AW := aw1 229 (by decide +kernel) (by decide +kernel)
theorem q_230 : Cond.instantiable "java/lang/IndexOutOfBoundsException" 6 ∈ AW := aw1 230 (by decide +kernel) (by decide +kernel)
theorem q_238 : Cond.selects "java/lang/IndexOutOfBoundsException" ⟨"java/lang/Throwable", "fillInStackTrace", "(I)Ljava/lang/Throwable;"⟩ ⟨"java/lang/Throwable", "fillInStackTrace", "(I)Ljava/lang/Throwable;"⟩ ∈ AW := aw1 238 (by decide +kernel) (by decide +kernel)
theorem q_239 : Cond.selects "java/lang/IndexOutOfBoundsException" ⟨"java/lang/Throwable", "fillInStackTrace", "()Ljava/lang/Throwable;"⟩ ⟨"java/lang/Throwable", "fillInStackTrace", "()Ljava/lang/Throwable;"⟩ ∈ AW := aw1 239 (by decide +kernel) (by decide +kernel)
theorem q_250 : Cond.fieldLink "java/lang/Throwable" 198 "java/lang/Throwable" "backtrace" "Ljava/lang/Object;" ∈ AW := aw2 10 (by decide +kernel) (by decide +kernel)
theorem q_254 : Cond.methodLink "java/lang/Throwable" 1 ⟨"java/lang/Object", "<init>", "()V"⟩ ∈ AW := aw2 14 (by decide +kernel) (by decide +kernel)
theorem q_255 : Cond.fieldLink "java/lang/Throwable" 13 "java/lang/Throwable" "UNASSIGNED_STACK" "[Ljava/lang/StackTraceElement;" ∈ AW := aw2 15 (by decide +kernel) (by decide +kernel)
theorem q_257 : Cond.fieldLink "java/lang/Throwable" 20 "java/lang/Throwable" "SUPPRESSED_SENTINEL" "Ljava/util/List;" ∈ AW := aw2 17 (by decide +kernel) (by decide +kernel)
theorem q_259 : Cond.methodLink "java/lang/Throwable" 27 ⟨"java/lang/Throwable", "fillInStackTrace", "()Ljava/lang/Throwable;"⟩ ∈ AW := aw2 19 (by decide +kernel) (by decide +kernel)
theorem q_262 : Cond.selects "java/lang/IllegalArgumentException" ⟨"java/lang/Throwable", "fillInStackTrace", "()Ljava/lang/Throwable;"⟩ ⟨"java/lang/Throwable", "fillInStackTrace", "()Ljava/lang/Throwable;"⟩ ∈ AW := aw2 22 (by decide +kernel) (by decide +kernel)
theorem q_263 : Cond.selects "java/lang/IllegalStateException" ⟨"java/lang/Throwable", "fillInStackTrace", "()Ljava/lang/Throwable;"⟩ ⟨"java/lang/Throwable", "fillInStackTrace", "()Ljava/lang/Throwable;"⟩ ∈ AW := aw2 23 (by decide +kernel) (by decide +kernel)
theorem q_265 : Cond.methodLink "java/lang/Throwable" 202 ⟨"java/lang/Throwable", "fillInStackTrace", "(I)Ljava/lang/Throwable;"⟩ ∈ AW := aw2 25 (by decide +kernel) (by decide +kernel)
theorem q_268 : Cond.instantiable "java/lang/Throwable" 6 ∈ AW := aw2 28 (by decide +kernel) (by decide +kernel)
theorem q_271 : Cond.methodLink RX5 251 ⟨"java/lang/IndexOutOfBoundsException", "<init>", "(Ljava/lang/String;)V"⟩ ∈ AW := aw2 31 (by decide +kernel) (by decide +kernel)
theorem q_274 : Cond.methodLink "java/lang/IndexOutOfBoundsException" 7 ⟨"java/lang/RuntimeException", "<init>", "(Ljava/lang/String;)V"⟩ ∈ AW := aw2 34 (by decide +kernel) (by decide +kernel)
theorem q_277 : Cond.methodLink "java/lang/RuntimeException" 7 ⟨"java/lang/Exception", "<init>", "(Ljava/lang/String;)V"⟩ ∈ AW := aw2 37 (by decide +kernel) (by decide +kernel)
theorem q_280 : Cond.methodLink "java/lang/Exception" 7 ⟨"java/lang/Throwable", "<init>", "(Ljava/lang/String;)V"⟩ ∈ AW := aw2 40 (by decide +kernel) (by decide +kernel)
theorem q_284 : Cond.fieldLink "java/lang/Throwable" 31 "java/lang/Throwable" "detailMessage" "Ljava/lang/String;" ∈ AW := aw2 44 (by decide +kernel) (by decide +kernel)
theorem q_285 : Cond.fieldLink "java/lang/Throwable" 7 "java/lang/Throwable" "cause" "Ljava/lang/Throwable;" ∈ AW := aw2 45 (by decide +kernel) (by decide +kernel)
theorem q_286 : Cond.fieldLink "java/lang/Throwable" 17 "java/lang/Throwable" "stackTrace" "[Ljava/lang/StackTraceElement;" ∈ AW := aw2 46 (by decide +kernel) (by decide +kernel)
theorem q_287 : Cond.fieldLink "java/lang/Throwable" 24 "java/lang/Throwable" "suppressedExceptions" "Ljava/util/List;" ∈ AW := aw2 47 (by decide +kernel) (by decide +kernel)
theorem q_296 : Cond.arrayClass .byte ∈ AW := aw2 56 (by decide +kernel) (by decide +kernel)
theorem q_297 : Cond.classLink RX5 45 "java/lang/IllegalArgumentException" ∈ AW := aw2 57 (by decide +kernel) (by decide +kernel)
theorem q_298 : Cond.instantiable "java/lang/IllegalArgumentException" 6 ∈ AW := aw2 58 (by decide +kernel) (by decide +kernel)
theorem q_300 : Cond.selects "java/lang/IllegalArgumentException" ⟨"java/lang/Throwable", "fillInStackTrace", "(I)Ljava/lang/Throwable;"⟩ ⟨"java/lang/Throwable", "fillInStackTrace", "(I)Ljava/lang/Throwable;"⟩ ∈ AW := aw2 60 (by decide +kernel) (by decide +kernel)
theorem q_307 : Cond.methodLink RX5 49 ⟨"java/lang/IllegalArgumentException", "<init>", "(Ljava/lang/String;)V"⟩ ∈ AW := aw2 67 (by decide +kernel) (by decide +kernel)
theorem q_310 : Cond.methodLink "java/lang/IllegalArgumentException" 7 ⟨"java/lang/RuntimeException", "<init>", "(Ljava/lang/String;)V"⟩ ∈ AW := aw2 70 (by decide +kernel) (by decide +kernel)
theorem q_313 : Cond.methodLink RX5 100 yX5_wayOf ∈ AW := aw2 73 (by decide +kernel) (by decide +kernel)
theorem q_314 : Cond.static yX5_wayOf ∈ AW := aw2 74 (by decide +kernel) (by decide +kernel)
theorem q_315 : Cond.code yX5_wayOf cX5_wayOf 1 (some .int) ∈ AW := aw2 75 (by decide +kernel) (by decide +kernel)
theorem q_316 : Cond.methodLink RX5 104 yX5_canStep ∈ AW := aw2 76 (by decide +kernel) (by decide +kernel)
theorem q_318 : Cond.instanceMethod yX5_canStep ∈ AW := aw2 78 (by decide +kernel) (by decide +kernel)
theorem q_319 : Cond.code yX5_canStep cX5_canStep 3 (some .boolean) ∈ AW := aw2 79 (by decide +kernel) (by decide +kernel)
theorem q_320 : Cond.methodLink RX5 192 yX0_tollOfStep ∈ AW := aw2 80 (by decide +kernel) (by decide +kernel)
theorem q_321 : Cond.instanceMethod yX0_tollOfStep ∈ AW := aw2 81 (by decide +kernel) (by decide +kernel)
theorem q_322 : Cond.selects RX0 yX0_tollOfStep yX0_tollOfStep ∈ AW := aw2 82 (by decide +kernel) (by decide +kernel)
theorem q_323 : Cond.code yX0_tollOfStep cX0_tollOfStep 3 (some .int) ∈ AW := aw2 83 (by decide +kernel) (by decide +kernel)
theorem q_324 : Cond.methodLink RX0 63 yX0_toothBy ∈ AW := aw2 84 (by decide +kernel) (by decide +kernel)
theorem q_325 : Cond.static yX0_toothBy ∈ AW := aw2 85 (by decide +kernel) (by decide +kernel)
theorem q_326 : Cond.code yX0_toothBy cX0_toothBy 2 (some .int) ∈ AW := aw2 86 (by decide +kernel) (by decide +kernel)
theorem q_327 : Cond.methodLink RX0 66 yX0_wearOf ∈ AW := aw2 87 (by decide +kernel) (by decide +kernel)
theorem q_328 : Cond.instanceMethod yX0_wearOf ∈ AW := aw2 88 (by decide +kernel) (by decide +kernel)
theorem q_329 : Cond.selects RX0 yX0_wearOf yX0_wearOf ∈ AW := aw2 89 (by decide +kernel) (by decide +kernel)
theorem q_330 : Cond.code yX0_wearOf cX0_wearOf 2 (some .int) ∈ AW := aw2 90 (by decide +kernel) (by decide +kernel)
theorem q_331 : Cond.methodLink RX0 70 yX0_tollWith ∈ AW := aw2 91 (by decide +kernel) (by decide +kernel)
theorem q_332 : Cond.instanceMethod yX0_tollWith ∈ AW := aw2 92 (by decide +kernel) (by decide +kernel)
theorem q_333 : Cond.selects RX0 yX0_tollWith yX0_tollWith ∈ AW := aw2 93 (by decide +kernel) (by decide +kernel)
theorem q_334 : Cond.code yX0_tollWith cX0_tollWith 5 (some .int) ∈ AW := aw2 94 (by decide +kernel) (by decide +kernel)
theorem q_335 : Cond.classLink RX5 56 "java/lang/IllegalStateException" ∈ AW := aw2 95 (by decide +kernel) (by decide +kernel)
theorem q_336 : Cond.instantiable "java/lang/IllegalStateException" 6 ∈ AW := aw2 96 (by decide +kernel) (by decide +kernel)
theorem q_338 : Cond.selects "java/lang/IllegalStateException" ⟨"java/lang/Throwable", "fillInStackTrace", "(I)Ljava/lang/Throwable;"⟩ ⟨"java/lang/Throwable", "fillInStackTrace", "(I)Ljava/lang/Throwable;"⟩ ∈ AW := aw2 98 (by decide +kernel) (by decide +kernel)
theorem q_345 : Cond.methodLink RX5 60 ⟨"java/lang/IllegalStateException", "<init>", "(Ljava/lang/String;)V"⟩ ∈ AW := aw2 105 (by decide +kernel) (by decide +kernel)
theorem q_348 : Cond.methodLink "java/lang/IllegalStateException" 7 ⟨"java/lang/RuntimeException", "<init>", "(Ljava/lang/String;)V"⟩ ∈ AW := aw2 108 (by decide +kernel) (by decide +kernel)
theorem q_351 : Cond.methodLink RX5 61 yX1_save ∈ AW := aw2 111 (by decide +kernel) (by decide +kernel)
theorem q_352 : Cond.instanceMethod yX1_save ∈ AW := aw2 112 (by decide +kernel) (by decide +kernel)
theorem q_353 : Cond.selects RX1 yX1_save yX1_save ∈ AW := aw2 113 (by decide +kernel) (by decide +kernel)
theorem q_354 : Cond.code yX1_save cX1_save 3 none ∈ AW := aw2 114 (by decide +kernel) (by decide +kernel)
theorem q_355 : Cond.methodLink RX1 25 yJ9_min_7cf53 ∈ AW := aw2 115 (by decide +kernel) (by decide +kernel)
theorem q_356 : Cond.static yJ9_min_7cf53 ∈ AW := aw2 116 (by decide +kernel) (by decide +kernel)
theorem q_357 : Cond.code yJ9_min_7cf53 cJ9_min_7cf53 2 (some .int) ∈ AW := aw2 117 (by decide +kernel) (by decide +kernel)
theorem q_358 : Cond.methodLink RX1 31 yX1_newestRow ∈ AW := aw2 118 (by decide +kernel) (by decide +kernel)
theorem q_359 : Cond.instanceMethod yX1_newestRow ∈ AW := aw2 119 (by decide +kernel) (by decide +kernel)
theorem q_360 : Cond.selects RX1 yX1_newestRow yX1_newestRow ∈ AW := aw2 120 (by decide +kernel) (by decide +kernel)
theorem q_361 : Cond.code yX1_newestRow cX1_newestRow 1 (some (.object "ArmTolls$State")) ∈ AW := aw2 121 (by decide +kernel) (by decide +kernel)
theorem q_362 : Cond.methodLink RX1 35 yX4_copyFrom ∈ AW := aw2 122 (by decide +kernel) (by decide +kernel)
theorem q_363 : Cond.instanceMethod yX4_copyFrom ∈ AW := aw2 123 (by decide +kernel) (by decide +kernel)
theorem q_364 : Cond.selects RX4 yX4_copyFrom yX4_copyFrom ∈ AW := aw2 124 (by decide +kernel) (by decide +kernel)
theorem q_365 : Cond.code yX4_copyFrom cX4_copyFrom 5 none ∈ AW := aw2 125 (by decide +kernel) (by decide +kernel)
theorem q_366 : Cond.methodLink RX4 49 yX3_copyFrom ∈ AW := aw2 126 (by decide +kernel) (by decide +kernel)
theorem q_367 : Cond.instanceMethod yX3_copyFrom ∈ AW := aw2 127 (by decide +kernel) (by decide +kernel)
theorem q_368 : Cond.selects RX3 yX3_copyFrom yX3_copyFrom ∈ AW := aw2 128 (by decide +kernel) (by decide +kernel)
theorem q_369 : Cond.code yX3_copyFrom cX3_copyFrom 2 none ∈ AW := aw2 129 (by decide +kernel) (by decide +kernel)
theorem q_370 : Cond.methodLink RX4 32 yX4_gearAt ∈ AW := aw2 130 (by decide +kernel) (by decide +kernel)
theorem q_371 : Cond.methodLink RX4 53 yX0_copyFrom ∈ AW := aw2 131 (by decide +kernel) (by decide +kernel)
theorem q_372 : Cond.instanceMethod yX0_copyFrom ∈ AW := aw2 132 (by decide +kernel) (by decide +kernel)
theorem q_373 : Cond.selects RX0 yX0_copyFrom yX0_copyFrom ∈ AW := aw2 133 (by decide +kernel) (by decide +kernel)
theorem q_374 : Cond.code yX0_copyFrom cX0_copyFrom 2 none ∈ AW := aw2 134 (by decide +kernel) (by decide +kernel)
theorem q_375 : Cond.methodLink RX0 55 yJ9_min_7cf53 ∈ AW := aw2 135 (by decide +kernel) (by decide +kernel)
theorem q_376 : Cond.methodLink RX0 100 ⟨"java/lang/System", "arraycopy", "(Ljava/lang/Object;ILjava/lang/Object;II)V"⟩ ∈ AW := aw2 136 (by decide +kernel) (by decide +kernel)
theorem q_377 : Cond.static ⟨"java/lang/System", "arraycopy", "(Ljava/lang/Object;ILjava/lang/Object;II)V"⟩ ∈ AW := aw2 137 (by decide +kernel) (by decide +kernel)
theorem q_378 : Cond.native ⟨"java/lang/System", "arraycopy", "(Ljava/lang/Object;ILjava/lang/Object;II)V"⟩ ∈ AW := aw2 138 (by decide +kernel) (by decide +kernel)
theorem q_379 : Cond.methodLink RX5 110 yX5_makeSteps ∈ AW := aw2 139 (by decide +kernel) (by decide +kernel)
theorem q_381 : Cond.instanceMethod yX5_makeSteps ∈ AW := aw2 141 (by decide +kernel) (by decide +kernel)
theorem q_382 : Cond.code yX5_makeSteps cX5_makeSteps 6 (some .int) ∈ AW := aw2 142 (by decide +kernel) (by decide +kernel)
theorem q_383 : Cond.methodLink RX5 273 yX0_makeStep ∈ AW := aw2 143 (by decide +kernel) (by decide +kernel)
theorem q_384 : Cond.instanceMethod yX0_makeStep ∈ AW := aw2 144 (by decide +kernel) (by decide +kernel)
theorem q_385 : Cond.selects RX0 yX0_makeStep yX0_makeStep ∈ AW := aw2 145 (by decide +kernel) (by decide +kernel)
theorem q_386 : Cond.code yX0_makeStep cX0_makeStep 8 (some .int) ∈ AW := aw2 146 (by decide +kernel) (by decide +kernel)
theorem q_387 : Cond.methodLink RX0 74 yX0_isTurn ∈ AW := aw2 147 (by decide +kernel) (by decide +kernel)
theorem q_388 : Cond.instanceMethod yX0_isTurn ∈ AW := aw2 148 (by decide +kernel) (by decide +kernel)
theorem q_389 : Cond.selects RX0 yX0_isTurn yX0_isTurn ∈ AW := aw2 149 (by decide +kernel) (by decide +kernel)
theorem q_390 : Cond.code yX0_isTurn cX0_isTurn 2 (some .boolean) ∈ AW := aw2 150 (by decide +kernel) (by decide +kernel)
theorem q_391 : Cond.methodLink RX0 78 yX0_nextPlace ∈ AW := aw2 151 (by decide +kernel) (by decide +kernel)
theorem q_392 : Cond.static yX0_nextPlace ∈ AW := aw2 152 (by decide +kernel) (by decide +kernel)
theorem q_393 : Cond.code yX0_nextPlace cX0_nextPlace 3 (some .int) ∈ AW := aw2 153 (by decide +kernel) (by decide +kernel)
theorem q_394 : Cond.methodLink RX0 87 yX0_setWear ∈ AW := aw2 154 (by decide +kernel) (by decide +kernel)
theorem q_395 : Cond.instanceMethod yX0_setWear ∈ AW := aw2 155 (by decide +kernel) (by decide +kernel)
theorem q_396 : Cond.selects RX0 yX0_setWear yX0_setWear ∈ AW := aw2 156 (by decide +kernel) (by decide +kernel)
theorem q_397 : Cond.code yX0_setWear cX0_setWear 3 none ∈ AW := aw2 157 (by decide +kernel) (by decide +kernel)
theorem q_398 : Cond.methodLink RX0 91 yJ9_max_7cf53 ∈ AW := aw2 158 (by decide +kernel) (by decide +kernel)
theorem q_399 : Cond.static yJ9_max_7cf53 ∈ AW := aw2 159 (by decide +kernel) (by decide +kernel)
theorem q_400 : Cond.code yJ9_max_7cf53 cJ9_max_7cf53 2 (some .int) ∈ AW := aw2 160 (by decide +kernel) (by decide +kernel)
theorem q_401 : Cond.methodLink RL 40 yL_cost ∈ AW := aw2 161 (by decide +kernel) (by decide +kernel)
theorem q_402 : Cond.static yL_cost ∈ AW := aw2 162 (by decide +kernel) (by decide +kernel)
theorem q_403 : Cond.code yL_cost cL_cost 14 (some .int) ∈ AW := aw2 163 (by decide +kernel) (by decide +kernel)
theorem q_404 : Cond.methodLink RL 44 yX5_cost ∈ AW := aw2 164 (by decide +kernel) (by decide +kernel)
theorem q_405 : Cond.instanceMethod yX5_cost ∈ AW := aw2 165 (by decide +kernel) (by decide +kernel)
theorem q_406 : Cond.selects RX5 yX5_cost yX5_cost ∈ AW := aw2 166 (by decide +kernel) (by decide +kernel)
theorem q_407 : Cond.code yX5_cost cX5_cost 5 (some .int) ∈ AW := aw2 167 (by decide +kernel) (by decide +kernel)
theorem q_408 : Cond.methodLink RX5 114 yX5_checkPlace ∈ AW := aw2 168 (by decide +kernel) (by decide +kernel)
theorem q_409 : Cond.static yX5_checkPlace ∈ AW := aw2 169 (by decide +kernel) (by decide +kernel)
theorem q_410 : Cond.code yX5_checkPlace cX5_checkPlace 1 none ∈ AW := aw2 170 (by decide +kernel) (by decide +kernel)
theorem q_412 : Cond.methodLink RX5 199 yX0_costOfWay ∈ AW := aw2 172 (by decide +kernel) (by decide +kernel)
theorem q_413 : Cond.instanceMethod yX0_costOfWay ∈ AW := aw2 173 (by decide +kernel) (by decide +kernel)
theorem q_414 : Cond.selects RX0 yX0_costOfWay yX0_costOfWay ∈ AW := aw2 174 (by decide +kernel) (by decide +kernel)
theorem q_415 : Cond.code yX0_costOfWay cX0_costOfWay 10 (some .int) ∈ AW := aw2 175 (by decide +kernel) (by decide +kernel)
theorem q_416 : Cond.methodLink RL 47 yX5_go ∈ AW := aw2 176 (by decide +kernel) (by decide +kernel)
theorem q_417 : Cond.instanceMethod yX5_go ∈ AW := aw2 177 (by decide +kernel) (by decide +kernel)
theorem q_418 : Cond.selects RX5 yX5_go yX5_go ∈ AW := aw2 178 (by decide +kernel) (by decide +kernel)
theorem q_419 : Cond.code yX5_go cX5_go 4 (some .int) ∈ AW := aw2 179 (by decide +kernel) (by decide +kernel)
theorem q_420 : Cond.methodLink RX5 117 yX5_canGo ∈ AW := aw2 180 (by decide +kernel) (by decide +kernel)
theorem q_422 : Cond.instanceMethod yX5_canGo ∈ AW := aw2 182 (by decide +kernel) (by decide +kernel)
theorem q_423 : Cond.code yX5_canGo cX5_canGo 3 (some .boolean) ∈ AW := aw2 183 (by decide +kernel) (by decide +kernel)
theorem q_424 : Cond.methodLink RX5 267 yX5_cheaperWay ∈ AW := aw2 184 (by decide +kernel) (by decide +kernel)
theorem q_426 : Cond.instanceMethod yX5_cheaperWay ∈ AW := aw2 186 (by decide +kernel) (by decide +kernel)
theorem q_427 : Cond.code yX5_cheaperWay cX5_cheaperWay 5 (some .int) ∈ AW := aw2 187 (by decide +kernel) (by decide +kernel)
theorem q_428 : Cond.methodLink RX5 120 yX5_goTo ∈ AW := aw2 188 (by decide +kernel) (by decide +kernel)
theorem q_430 : Cond.instanceMethod yX5_goTo ∈ AW := aw2 190 (by decide +kernel) (by decide +kernel)
theorem q_431 : Cond.code yX5_goTo cX5_goTo 7 (some .int) ∈ AW := aw2 191 (by decide +kernel) (by decide +kernel)
theorem q_432 : Cond.methodLink RL 48 yX5_ifHomed ∈ AW := aw2 192 (by decide +kernel) (by decide +kernel)
theorem q_433 : Cond.instanceMethod yX5_ifHomed ∈ AW := aw2 193 (by decide +kernel) (by decide +kernel)
theorem q_434 : Cond.selects RX5 yX5_ifHomed yX5_ifHomed ∈ AW := aw2 194 (by decide +kernel) (by decide +kernel)
theorem q_435 : Cond.code yX5_ifHomed cX5_ifHomed 4 (some .int) ∈ AW := aw2 195 (by decide +kernel) (by decide +kernel)
theorem q_437 : Cond.methodLink RX5 205 yX5_homingFact ∈ AW := aw2 197 (by decide +kernel) (by decide +kernel)
theorem q_439 : Cond.instanceMethod yX5_homingFact ∈ AW := aw2 199 (by decide +kernel) (by decide +kernel)
theorem q_440 : Cond.code yX5_homingFact cX5_homingFact 4 (some .int) ∈ AW := aw2 200 (by decide +kernel) (by decide +kernel)
theorem q_441 : Cond.methodLink RX5 335 yX0_copyFrom ∈ AW := aw2 201 (by decide +kernel) (by decide +kernel)
theorem q_442 : Cond.methodLink RX5 280 yX0_makeHomed ∈ AW := aw2 202 (by decide +kernel) (by decide +kernel)
theorem q_443 : Cond.instanceMethod yX0_makeHomed ∈ AW := aw2 203 (by decide +kernel) (by decide +kernel)
theorem q_444 : Cond.selects RX0 yX0_makeHomed yX0_makeHomed ∈ AW := aw2 204 (by decide +kernel) (by decide +kernel)
theorem q_445 : Cond.code yX0_makeHomed cX0_makeHomed 6 (some .int) ∈ AW := aw2 205 (by decide +kernel) (by decide +kernel)
theorem q_446 : Cond.methodLink RX0 94 yX0_makeStep ∈ AW := aw2 206 (by decide +kernel) (by decide +kernel)
theorem q_447 : Cond.methodLink RL 51 yX5_home ∈ AW := aw2 207 (by decide +kernel) (by decide +kernel)
theorem q_448 : Cond.instanceMethod yX5_home ∈ AW := aw2 208 (by decide +kernel) (by decide +kernel)
theorem q_449 : Cond.selects RX5 yX5_home yX5_home ∈ AW := aw2 209 (by decide +kernel) (by decide +kernel)
theorem q_450 : Cond.code yX5_home cX5_home 5 (some .int) ∈ AW := aw2 210 (by decide +kernel) (by decide +kernel)
theorem q_451 : Cond.methodLink RX5 127 yX5_makeHomed ∈ AW := aw2 211 (by decide +kernel) (by decide +kernel)
theorem q_453 : Cond.instanceMethod yX5_makeHomed ∈ AW := aw2 213 (by decide +kernel) (by decide +kernel)
theorem q_454 : Cond.code yX5_makeHomed cX5_makeHomed 3 (some .boolean) ∈ AW := aw2 214 (by decide +kernel) (by decide +kernel)
theorem q_455 : Cond.methodLink RL 83 yL_cares ∈ AW := aw2 215 (by decide +kernel) (by decide +kernel)
theorem q_456 : Cond.static yL_cares ∈ AW := aw2 216 (by decide +kernel) (by decide +kernel)
theorem q_457 : Cond.code yL_cares cL_cares 12 (some .boolean) ∈ AW := aw2 217 (by decide +kernel) (by decide +kernel)
theorem q_458 : Cond.methodLink RL 55 yX5_earn ∈ AW := aw2 218 (by decide +kernel) (by decide +kernel)
theorem q_459 : Cond.instanceMethod yX5_earn ∈ AW := aw2 219 (by decide +kernel) (by decide +kernel)
theorem q_460 : Cond.selects RX5 yX5_earn yX5_earn ∈ AW := aw2 220 (by decide +kernel) (by decide +kernel)
theorem q_461 : Cond.code yX5_earn cX5_earn 2 (some .int) ∈ AW := aw2 221 (by decide +kernel) (by decide +kernel)
theorem q_463 : Cond.constant RX5 55 (100000) ∈ AW := aw2 223 (by decide +kernel) (by decide +kernel)
theorem q_465 : Cond.methodLink RL 58 yX5_load ∈ AW := aw2 225 (by decide +kernel) (by decide +kernel)
theorem q_466 : Cond.instanceMethod yX5_load ∈ AW := aw2 226 (by decide +kernel) (by decide +kernel)
theorem q_467 : Cond.selects RX5 yX5_load yX5_load ∈ AW := aw2 227 (by decide +kernel) (by decide +kernel)
theorem q_468 : Cond.code yX5_load cX5_load 5 (some .int) ∈ AW := aw2 228 (by decide +kernel) (by decide +kernel)
theorem q_470 : Cond.methodLink RL 61 yX5_grease ∈ AW := aw2 230 (by decide +kernel) (by decide +kernel)
theorem q_471 : Cond.instanceMethod yX5_grease ∈ AW := aw2 231 (by decide +kernel) (by decide +kernel)
theorem q_472 : Cond.selects RX5 yX5_grease yX5_grease ∈ AW := aw2 232 (by decide +kernel) (by decide +kernel)
theorem q_473 : Cond.code yX5_grease cX5_grease 3 (some .int) ∈ AW := aw2 233 (by decide +kernel) (by decide +kernel)
theorem q_474 : Cond.methodLink RX5 131 yX5_canGrease ∈ AW := aw2 234 (by decide +kernel) (by decide +kernel)
theorem q_476 : Cond.instanceMethod yX5_canGrease ∈ AW := aw2 236 (by decide +kernel) (by decide +kernel)
theorem q_477 : Cond.code yX5_canGrease cX5_canGrease 1 (some .boolean) ∈ AW := aw2 237 (by decide +kernel) (by decide +kernel)
theorem q_479 : Cond.methodLink RX5 137 yX5_makeGreased ∈ AW := aw2 239 (by decide +kernel) (by decide +kernel)
theorem q_481 : Cond.instanceMethod yX5_makeGreased ∈ AW := aw3 1 (by decide +kernel) (by decide +kernel)
theorem q_482 : Cond.code yX5_makeGreased cX5_makeGreased 2 none ∈ AW := aw3 2 (by decide +kernel) (by decide +kernel)
theorem q_483 : Cond.methodLink RX5 152 yX4_payCare ∈ AW := aw3 3 (by decide +kernel) (by decide +kernel)
theorem q_484 : Cond.instanceMethod yX4_payCare ∈ AW := aw3 4 (by decide +kernel) (by decide +kernel)
theorem q_485 : Cond.selects RX4 yX4_payCare yX4_payCare ∈ AW := aw3 5 (by decide +kernel) (by decide +kernel)
theorem q_486 : Cond.code yX4_payCare cX4_payCare 2 none ∈ AW := aw3 6 (by decide +kernel) (by decide +kernel)
theorem q_487 : Cond.methodLink RL 64 yX5_mend ∈ AW := aw3 7 (by decide +kernel) (by decide +kernel)
theorem q_488 : Cond.instanceMethod yX5_mend ∈ AW := aw3 8 (by decide +kernel) (by decide +kernel)
theorem q_489 : Cond.selects RX5 yX5_mend yX5_mend ∈ AW := aw3 9 (by decide +kernel) (by decide +kernel)
theorem q_490 : Cond.code yX5_mend cX5_mend 5 (some .int) ∈ AW := aw3 10 (by decide +kernel) (by decide +kernel)
theorem q_491 : Cond.methodLink RX5 141 yX5_checkTooth ∈ AW := aw3 11 (by decide +kernel) (by decide +kernel)
theorem q_492 : Cond.static yX5_checkTooth ∈ AW := aw3 12 (by decide +kernel) (by decide +kernel)
theorem q_493 : Cond.code yX5_checkTooth cX5_checkTooth 1 none ∈ AW := aw3 13 (by decide +kernel) (by decide +kernel)
theorem q_495 : Cond.methodLink RX5 144 yX0_wearOf ∈ AW := aw3 15 (by decide +kernel) (by decide +kernel)
theorem q_497 : Cond.methodLink RX5 155 yX0_setWear ∈ AW := aw3 17 (by decide +kernel) (by decide +kernel)
theorem q_498 : Cond.methodLink RL 67 yX5_set ∈ AW := aw3 18 (by decide +kernel) (by decide +kernel)
theorem q_499 : Cond.instanceMethod yX5_set ∈ AW := aw3 19 (by decide +kernel) (by decide +kernel)
theorem q_500 : Cond.selects RX5 yX5_set yX5_set ∈ AW := aw3 20 (by decide +kernel) (by decide +kernel)
theorem q_501 : Cond.code yX5_set cX5_set 4 (some .int) ∈ AW := aw3 21 (by decide +kernel) (by decide +kernel)
theorem q_502 : Cond.methodLink RX5 74 yX5_checkSetting ∈ AW := aw3 22 (by decide +kernel) (by decide +kernel)
theorem q_503 : Cond.static yX5_checkSetting ∈ AW := aw3 23 (by decide +kernel) (by decide +kernel)
theorem q_504 : Cond.code yX5_checkSetting cX5_checkSetting 1 none ∈ AW := aw3 24 (by decide +kernel) (by decide +kernel)
theorem q_506 : Cond.methodLink RX5 78 yX5_isValueOf ∈ AW := aw3 26 (by decide +kernel) (by decide +kernel)
theorem q_507 : Cond.static yX5_isValueOf ∈ AW := aw3 27 (by decide +kernel) (by decide +kernel)
theorem q_508 : Cond.code yX5_isValueOf cX5_isValueOf 2 (some .boolean) ∈ AW := aw3 28 (by decide +kernel) (by decide +kernel)
theorem q_509 : Cond.fieldLink RX5 258 "ArmTolls" "LEAST_OF_SETTING" "[I" ∈ AW := aw3 29 (by decide +kernel) (by decide +kernel)
theorem q_511 : Cond.fieldLink RX5 261 "ArmTolls" "MOST_OF_SETTING" "[I" ∈ AW := aw3 31 (by decide +kernel) (by decide +kernel)
theorem q_514 : Cond.methodLink RX5 88 yX3_valueOf ∈ AW := aw3 34 (by decide +kernel) (by decide +kernel)
theorem q_515 : Cond.instanceMethod yX3_valueOf ∈ AW := aw3 35 (by decide +kernel) (by decide +kernel)
theorem q_516 : Cond.selects RX3 yX3_valueOf yX3_valueOf ∈ AW := aw3 36 (by decide +kernel) (by decide +kernel)
theorem q_517 : Cond.code yX3_valueOf cX3_valueOf 2 (some .int) ∈ AW := aw3 37 (by decide +kernel) (by decide +kernel)
theorem q_518 : Cond.methodLink RX5 94 yX3_put ∈ AW := aw3 38 (by decide +kernel) (by decide +kernel)
theorem q_519 : Cond.instanceMethod yX3_put ∈ AW := aw3 39 (by decide +kernel) (by decide +kernel)
theorem q_520 : Cond.selects RX3 yX3_put yX3_put ∈ AW := aw3 40 (by decide +kernel) (by decide +kernel)
theorem q_521 : Cond.code yX3_put cX3_put 3 none ∈ AW := aw3 41 (by decide +kernel) (by decide +kernel)
theorem q_522 : Cond.methodLink RL 91 yL_agree ∈ AW := aw3 42 (by decide +kernel) (by decide +kernel)
theorem q_523 : Cond.static yL_agree ∈ AW := aw3 43 (by decide +kernel) (by decide +kernel)
theorem q_524 : Cond.code yL_agree cL_agree 21 (some .boolean) ∈ AW := aw3 44 (by decide +kernel) (by decide +kernel)
theorem q_525 : Cond.methodLink RL 70 yX5_axis ∈ AW := aw3 45 (by decide +kernel) (by decide +kernel)
theorem q_526 : Cond.instanceMethod yX5_axis ∈ AW := aw3 46 (by decide +kernel) (by decide +kernel)
theorem q_527 : Cond.selects RX5 yX5_axis yX5_axis ∈ AW := aw3 47 (by decide +kernel) (by decide +kernel)
theorem q_528 : Cond.code yX5_axis cX5_axis 4 (some .int) ∈ AW := aw3 48 (by decide +kernel) (by decide +kernel)
theorem q_530 : Cond.methodLink RX5 184 yX0_property ∈ AW := aw3 50 (by decide +kernel) (by decide +kernel)
theorem q_531 : Cond.instanceMethod yX0_property ∈ AW := aw3 51 (by decide +kernel) (by decide +kernel)
theorem q_532 : Cond.selects RX0 yX0_property yX0_property ∈ AW := aw3 52 (by decide +kernel) (by decide +kernel)
theorem q_533 : Cond.code yX0_property cX0_property 2 (some .int) ∈ AW := aw3 53 (by decide +kernel) (by decide +kernel)
theorem q_534 : Cond.methodLink RX0 97 yX0_distance ∈ AW := aw3 54 (by decide +kernel) (by decide +kernel)
theorem q_535 : Cond.static yX0_distance ∈ AW := aw3 55 (by decide +kernel) (by decide +kernel)
theorem q_536 : Cond.code yX0_distance cX0_distance 3 (some .int) ∈ AW := aw3 56 (by decide +kernel) (by decide +kernel)
theorem q_537 : Cond.methodLink RX0 49 yJ9_floorMod_7cf53 ∈ AW := aw3 57 (by decide +kernel) (by decide +kernel)
theorem q_538 : Cond.static yJ9_floorMod_7cf53 ∈ AW := aw3 58 (by decide +kernel) (by decide +kernel)
theorem q_539 : Cond.code yJ9_floorMod_7cf53 cJ9_floorMod_7cf53 3 (some .int) ∈ AW := aw3 59 (by decide +kernel) (by decide +kernel)
theorem q_540 : Cond.methodLink RL 73 yX5_wear ∈ AW := aw3 60 (by decide +kernel) (by decide +kernel)
theorem q_541 : Cond.instanceMethod yX5_wear ∈ AW := aw3 61 (by decide +kernel) (by decide +kernel)
theorem q_542 : Cond.selects RX5 yX5_wear yX5_wear ∈ AW := aw3 62 (by decide +kernel) (by decide +kernel)
theorem q_543 : Cond.code yX5_wear cX5_wear 4 (some .int) ∈ AW := aw3 63 (by decide +kernel) (by decide +kernel)
theorem q_544 : Cond.methodLink RL 75 yX5_count ∈ AW := aw3 64 (by decide +kernel) (by decide +kernel)
theorem q_545 : Cond.instanceMethod yX5_count ∈ AW := aw3 65 (by decide +kernel) (by decide +kernel)
theorem q_546 : Cond.selects RX5 yX5_count yX5_count ∈ AW := aw3 66 (by decide +kernel) (by decide +kernel)
theorem q_547 : Cond.code yX5_count cX5_count 2 (some .int) ∈ AW := aw3 67 (by decide +kernel) (by decide +kernel)
theorem q_549 : Cond.methodLink RX5 189 yX5_countOf ∈ AW := aw3 69 (by decide +kernel) (by decide +kernel)
theorem q_551 : Cond.instanceMethod yX5_countOf ∈ AW := aw3 71 (by decide +kernel) (by decide +kernel)
theorem q_552 : Cond.code yX5_countOf cX5_countOf 2 (some .int) ∈ AW := aw3 72 (by decide +kernel) (by decide +kernel)
theorem q_553 : Cond.methodLink RX5 217 yX4_sumOf ∈ AW := aw3 73 (by decide +kernel) (by decide +kernel)
theorem q_554 : Cond.instanceMethod yX4_sumOf ∈ AW := aw3 74 (by decide +kernel) (by decide +kernel)
theorem q_555 : Cond.selects RX4 yX4_sumOf yX4_sumOf ∈ AW := aw3 75 (by decide +kernel) (by decide +kernel)
theorem q_556 : Cond.code yX4_sumOf cX4_sumOf 5 (some .int) ∈ AW := aw3 76 (by decide +kernel) (by decide +kernel)
theorem q_557 : Cond.methodLink RX4 36 yX0_property ∈ AW := aw3 77 (by decide +kernel) (by decide +kernel)
theorem q_558 : Cond.methodLink RX5 313 yX4_wearOfAll ∈ AW := aw3 78 (by decide +kernel) (by decide +kernel)
theorem q_559 : Cond.instanceMethod yX4_wearOfAll ∈ AW := aw3 79 (by decide +kernel) (by decide +kernel)
theorem q_560 : Cond.selects RX4 yX4_wearOfAll yX4_wearOfAll ∈ AW := aw3 80 (by decide +kernel) (by decide +kernel)
theorem q_561 : Cond.code yX4_wearOfAll cX4_wearOfAll 5 (some .int) ∈ AW := aw3 81 (by decide +kernel) (by decide +kernel)
theorem q_562 : Cond.methodLink RX4 40 yX0_wearOf ∈ AW := aw3 82 (by decide +kernel) (by decide +kernel)
theorem q_563 : Cond.methodLink RX5 319 yX4_teethWornTo ∈ AW := aw3 83 (by decide +kernel) (by decide +kernel)
theorem q_564 : Cond.instanceMethod yX4_teethWornTo ∈ AW := aw3 84 (by decide +kernel) (by decide +kernel)
theorem q_565 : Cond.selects RX4 yX4_teethWornTo yX4_teethWornTo ∈ AW := aw3 85 (by decide +kernel) (by decide +kernel)
theorem q_566 : Cond.code yX4_teethWornTo cX4_teethWornTo 6 (some .int) ∈ AW := aw3 86 (by decide +kernel) (by decide +kernel)
theorem q_567 : Cond.methodLink RX5 322 yX4_axesWhereBelieved ∈ AW := aw3 87 (by decide +kernel) (by decide +kernel)
theorem q_568 : Cond.instanceMethod yX4_axesWhereBelieved ∈ AW := aw3 88 (by decide +kernel) (by decide +kernel)
theorem q_569 : Cond.selects RX4 yX4_axesWhereBelieved yX4_axesWhereBelieved ∈ AW := aw3 89 (by decide +kernel) (by decide +kernel)
theorem q_570 : Cond.code yX4_axesWhereBelieved cX4_axesWhereBelieved 4 (some .int) ∈ AW := aw3 90 (by decide +kernel) (by decide +kernel)
theorem qp_0 : Cond.selects RX5 yX5_gearOf yX5_gearOf ∈ AW := aw0 0 (by decide +kernel) (by decide +kernel)
theorem qp_2 : Cond.selects RX5 yX5_canStep yX5_canStep ∈ AW := aw0 2 (by decide +kernel) (by decide +kernel)
theorem qp_3 : Cond.selects RX5 yX5_makeSteps yX5_makeSteps ∈ AW := aw0 3 (by decide +kernel) (by decide +kernel)
theorem qp_4 : Cond.selects RX5 yX5_canGo yX5_canGo ∈ AW := aw0 4 (by decide +kernel) (by decide +kernel)
theorem qp_5 : Cond.selects RX5 yX5_cheaperWay yX5_cheaperWay ∈ AW := aw0 5 (by decide +kernel) (by decide +kernel)
theorem qp_6 : Cond.selects RX5 yX5_goTo yX5_goTo ∈ AW := aw0 6 (by decide +kernel) (by decide +kernel)
theorem qp_7 : Cond.selects RX5 yX5_homingFact yX5_homingFact ∈ AW := aw0 7 (by decide +kernel) (by decide +kernel)
theorem qp_8 : Cond.selects RX5 yX5_makeHomed yX5_makeHomed ∈ AW := aw0 8 (by decide +kernel) (by decide +kernel)
theorem qp_9 : Cond.selects RX5 yX5_canGrease yX5_canGrease ∈ AW := aw0 9 (by decide +kernel) (by decide +kernel)
theorem qp_10 : Cond.selects RX5 yX5_makeGreased yX5_makeGreased ∈ AW := aw0 10 (by decide +kernel) (by decide +kernel)
theorem qp_11 : Cond.selects RX5 yX5_countOf yX5_countOf ∈ AW := aw0 11 (by decide +kernel) (by decide +kernel)
theorem inX0 : ∀ w ∈ u_ws RX0 TX0 12, w ∈ AW := aw_all (by decide +kernel)
theorem inX1 : ∀ w ∈ u_ws RX1 TX1 3, w ∈ AW := aw_all (by decide +kernel)
theorem inX2 : ∀ w ∈ u_ws RX2 TX2 4, w ∈ AW := aw_all (by decide +kernel)
theorem inX3 : ∀ w ∈ u_ws RX3 TX3 6, w ∈ AW := aw_all (by decide +kernel)
theorem inX4 : ∀ w ∈ u_ws RX4 TX4 4, w ∈ AW := aw_all (by decide +kernel)
theorem inX5 : ∀ w ∈ u_ws RX5 TX5 6, w ∈ AW := aw_all (by decide +kernel)
end
section
theorem dX0_init_0 : decode cX0_init 0 = .ok (.aload_n 0, 1) := by decide +kernel
theorem dX0_init_1 : decode cX0_init 1 = .ok (.invokespecial 3, 3) := by decide +kernel
theorem dX0_init_4 : decode cX0_init 4 = .ok (.aload_n 0, 1) := by decide +kernel
theorem dX0_init_5 : decode cX0_init 5 = .ok (.bipush 24, 2) := by decide +kernel
theorem dX0_init_7 : decode cX0_init 7 = .ok (.newarray .int, 2) := by decide +kernel
theorem dX0_init_9 : decode cX0_init 9 = .ok (.putfield 9, 3) := by decide +kernel
theorem dX0_init_12 : decode cX0_init 12 = .ok (.aload_n 0, 1) := by decide +kernel
theorem dX0_init_13 : decode cX0_init 13 = .ok (.iconst 0, 1) := by decide +kernel
theorem dX0_init_14 : decode cX0_init 14 = .ok (.putfield 15, 3) := by decide +kernel
theorem dX0_init_17 : decode cX0_init 17 = .ok (.aload_n 0, 1) := by decide +kernel
theorem dX0_init_18 : decode cX0_init 18 = .ok (.iconst 0, 1) := by decide +kernel
theorem dX0_init_19 : decode cX0_init 19 = .ok (.putfield 19, 3) := by decide +kernel
theorem dX0_init_22 : decode cX0_init 22 = .ok (.aload_n 0, 1) := by decide +kernel
theorem dX0_init_23 : decode cX0_init 23 = .ok (.iconst 0, 1) := by decide +kernel
theorem dX0_init_24 : decode cX0_init 24 = .ok (.putfield 22, 3) := by decide +kernel
theorem dX0_init_27 : decode cX0_init 27 = .ok (.aload_n 0, 1) := by decide +kernel
theorem dX0_init_28 : decode cX0_init 28 = .ok (.iconst 0, 1) := by decide +kernel
theorem dX0_init_29 : decode cX0_init 29 = .ok (.putfield 25, 3) := by decide +kernel
theorem dX0_init_32 : decode cX0_init 32 = .ok (.aload_n 0, 1) := by decide +kernel
theorem dX0_init_33 : decode cX0_init 33 = .ok (.iconst 0, 1) := by decide +kernel
theorem dX0_init_34 : decode cX0_init 34 = .ok (.putfield 28, 3) := by decide +kernel
theorem dX0_init_37 : decode cX0_init 37 = .ok (.aload_n 0, 1) := by decide +kernel
theorem dX0_init_38 : decode cX0_init 38 = .ok (.iconst 0, 1) := by decide +kernel
theorem dX0_init_39 : decode cX0_init 39 = .ok (.putfield 31, 3) := by decide +kernel
theorem dX0_init_42 : decode cX0_init 42 = .ok (.aload_n 0, 1) := by decide +kernel
theorem dX0_init_43 : decode cX0_init 43 = .ok (.iconst 0, 1) := by decide +kernel
theorem dX0_init_44 : decode cX0_init 44 = .ok (.putfield 34, 3) := by decide +kernel
theorem dX0_init_47 : decode cX0_init 47 = .ok (.aload_n 0, 1) := by decide +kernel
theorem dX0_init_48 : decode cX0_init 48 = .ok (.iconst 0, 1) := by decide +kernel
theorem dX0_init_49 : decode cX0_init 49 = .ok (.putfield 37, 3) := by decide +kernel
theorem dX0_init_52 : decode cX0_init 52 = .ok (.aload_n 0, 1) := by decide +kernel
theorem dX0_init_53 : decode cX0_init 53 = .ok (.iconst 0, 1) := by decide +kernel
theorem dX0_init_54 : decode cX0_init 54 = .ok (.putfield 40, 3) := by decide +kernel
theorem dX0_init_57 : decode cX0_init 57 = .ok (.aload_n 0, 1) := by decide +kernel
theorem dX0_init_58 : decode cX0_init 58 = .ok (.iconst 0, 1) := by decide +kernel
theorem dX0_init_59 : decode cX0_init 59 = .ok (.putfield 43, 3) := by decide +kernel
theorem dX0_init_62 : decode cX0_init 62 = .ok (.aload_n 0, 1) := by decide +kernel
theorem dX0_init_63 : decode cX0_init 63 = .ok (.iconst 0, 1) := by decide +kernel
theorem dX0_init_64 : decode cX0_init 64 = .ok (.putfield 46, 3) := by decide +kernel
theorem dX0_init_67 : decode cX0_init 67 = .ok (.return_, 1) := by decide +kernel
theorem dX0_nextPlace_0 : decode cX0_nextPlace 0 = .ok (.iload_n 0, 1) := by decide +kernel
theorem dX0_nextPlace_1 : decode cX0_nextPlace 1 = .ok (.iload_n 1, 1) := by decide +kernel
theorem dX0_nextPlace_2 : decode cX0_nextPlace 2 = .ok (.iadd, 1) := by decide +kernel
theorem dX0_nextPlace_3 : decode cX0_nextPlace 3 = .ok (.istore_n 2, 1) := by decide +kernel
theorem dX0_nextPlace_4 : decode cX0_nextPlace 4 = .ok (.iload_n 2, 1) := by decide +kernel
theorem dX0_nextPlace_5 : decode cX0_nextPlace 5 = .ok (.ifCond .ge 6, 3) := by decide +kernel
theorem dX0_nextPlace_8 : decode cX0_nextPlace 8 = .ok (.bipush 23, 2) := by decide +kernel
theorem dX0_nextPlace_10 : decode cX0_nextPlace 10 = .ok (.ireturn, 1) := by decide +kernel
theorem dX0_nextPlace_11 : decode cX0_nextPlace 11 = .ok (.iload_n 2, 1) := by decide +kernel
theorem dX0_nextPlace_12 : decode cX0_nextPlace 12 = .ok (.bipush 24, 2) := by decide +kernel
theorem dX0_nextPlace_14 : decode cX0_nextPlace 14 = .ok (.if_icmp .ge 7, 3) := by decide +kernel
theorem dX0_nextPlace_17 : decode cX0_nextPlace 17 = .ok (.iload_n 2, 1) := by decide +kernel
theorem dX0_nextPlace_18 : decode cX0_nextPlace 18 = .ok (.goto 4, 3) := by decide +kernel
theorem dX0_nextPlace_21 : decode cX0_nextPlace 21 = .ok (.iconst 0, 1) := by decide +kernel
theorem dX0_nextPlace_22 : decode cX0_nextPlace 22 = .ok (.ireturn, 1) := by decide +kernel
theorem dX0_toothBy_0 : decode cX0_toothBy 0 = .ok (.iload_n 1, 1) := by decide +kernel
theorem dX0_toothBy_1 : decode cX0_toothBy 1 = .ok (.iconst 1, 1) := by decide +kernel
theorem dX0_toothBy_2 : decode cX0_toothBy 2 = .ok (.if_icmp .ne 5, 3) := by decide +kernel
theorem dX0_toothBy_5 : decode cX0_toothBy 5 = .ok (.iload_n 0, 1) := by decide +kernel
theorem dX0_toothBy_6 : decode cX0_toothBy 6 = .ok (.ireturn, 1) := by decide +kernel
theorem dX0_toothBy_7 : decode cX0_toothBy 7 = .ok (.iload_n 0, 1) := by decide +kernel
theorem dX0_toothBy_8 : decode cX0_toothBy 8 = .ok (.ifCond .le 9, 3) := by decide +kernel
theorem dX0_toothBy_11 : decode cX0_toothBy 11 = .ok (.iload_n 0, 1) := by decide +kernel
theorem dX0_toothBy_12 : decode cX0_toothBy 12 = .ok (.iconst 1, 1) := by decide +kernel
theorem dX0_toothBy_13 : decode cX0_toothBy 13 = .ok (.isub, 1) := by decide +kernel
theorem dX0_toothBy_14 : decode cX0_toothBy 14 = .ok (.goto 5, 3) := by decide +kernel
theorem dX0_toothBy_17 : decode cX0_toothBy 17 = .ok (.bipush 23, 2) := by decide +kernel
theorem dX0_toothBy_19 : decode cX0_toothBy 19 = .ok (.ireturn, 1) := by decide +kernel
theorem dX0_distance_0 : decode cX0_distance 0 = .ok (.iload_n 1, 1) := by decide +kernel
theorem dX0_distance_1 : decode cX0_distance 1 = .ok (.iload_n 0, 1) := by decide +kernel
theorem dX0_distance_2 : decode cX0_distance 2 = .ok (.isub, 1) := by decide +kernel
theorem dX0_distance_3 : decode cX0_distance 3 = .ok (.bipush 24, 2) := by decide +kernel
theorem dX0_distance_5 : decode cX0_distance 5 = .ok (.invokestatic 49, 3) := by decide +kernel
theorem dX0_distance_8 : decode cX0_distance 8 = .ok (.istore_n 2, 1) := by decide +kernel
theorem dX0_distance_9 : decode cX0_distance 9 = .ok (.iload_n 2, 1) := by decide +kernel
theorem dX0_distance_10 : decode cX0_distance 10 = .ok (.bipush 24, 2) := by decide +kernel
theorem dX0_distance_12 : decode cX0_distance 12 = .ok (.iload_n 2, 1) := by decide +kernel
theorem dX0_distance_13 : decode cX0_distance 13 = .ok (.isub, 1) := by decide +kernel
theorem dX0_distance_14 : decode cX0_distance 14 = .ok (.invokestatic 55, 3) := by decide +kernel
theorem dX0_distance_17 : decode cX0_distance 17 = .ok (.ireturn, 1) := by decide +kernel
theorem dX0_wearOf_0 : decode cX0_wearOf 0 = .ok (.iload_n 1, 1) := by decide +kernel
theorem dX0_wearOf_1 : decode cX0_wearOf 1 = .ok (.ifCond .lt 21, 3) := by decide +kernel
theorem dX0_wearOf_4 : decode cX0_wearOf 4 = .ok (.iload_n 1, 1) := by decide +kernel
theorem dX0_wearOf_5 : decode cX0_wearOf 5 = .ok (.aload_n 0, 1) := by decide +kernel
theorem dX0_wearOf_6 : decode cX0_wearOf 6 = .ok (.getfield 9, 3) := by decide +kernel
theorem dX0_wearOf_9 : decode cX0_wearOf 9 = .ok (.arraylength, 1) := by decide +kernel
theorem dX0_wearOf_10 : decode cX0_wearOf 10 = .ok (.if_icmp .ge 12, 3) := by decide +kernel
theorem dX0_wearOf_13 : decode cX0_wearOf 13 = .ok (.aload_n 0, 1) := by decide +kernel
theorem dX0_wearOf_14 : decode cX0_wearOf 14 = .ok (.getfield 9, 3) := by decide +kernel
theorem dX0_wearOf_17 : decode cX0_wearOf 17 = .ok (.iload_n 1, 1) := by decide +kernel
theorem dX0_wearOf_18 : decode cX0_wearOf 18 = .ok (.iaload, 1) := by decide +kernel
theorem dX0_wearOf_19 : decode cX0_wearOf 19 = .ok (.goto 4, 3) := by decide +kernel
theorem dX0_wearOf_22 : decode cX0_wearOf 22 = .ok (.iconst 0, 1) := by decide +kernel
theorem dX0_wearOf_23 : decode cX0_wearOf 23 = .ok (.ireturn, 1) := by decide +kernel
theorem dX0_setWear_0 : decode cX0_setWear 0 = .ok (.iload_n 1, 1) := by decide +kernel
theorem dX0_setWear_1 : decode cX0_setWear 1 = .ok (.ifCond .lt 19, 3) := by decide +kernel
theorem dX0_setWear_4 : decode cX0_setWear 4 = .ok (.iload_n 1, 1) := by decide +kernel
theorem dX0_setWear_5 : decode cX0_setWear 5 = .ok (.aload_n 0, 1) := by decide +kernel
theorem dX0_setWear_6 : decode cX0_setWear 6 = .ok (.getfield 9, 3) := by decide +kernel
theorem dX0_setWear_9 : decode cX0_setWear 9 = .ok (.arraylength, 1) := by decide +kernel
theorem dX0_setWear_10 : decode cX0_setWear 10 = .ok (.if_icmp .ge 10, 3) := by decide +kernel
theorem dX0_setWear_13 : decode cX0_setWear 13 = .ok (.aload_n 0, 1) := by decide +kernel
theorem dX0_setWear_14 : decode cX0_setWear 14 = .ok (.getfield 9, 3) := by decide +kernel
theorem dX0_setWear_17 : decode cX0_setWear 17 = .ok (.iload_n 1, 1) := by decide +kernel
theorem dX0_setWear_18 : decode cX0_setWear 18 = .ok (.iload_n 2, 1) := by decide +kernel
theorem dX0_setWear_19 : decode cX0_setWear 19 = .ok (.iastore, 1) := by decide +kernel
theorem dX0_setWear_20 : decode cX0_setWear 20 = .ok (.return_, 1) := by decide +kernel
theorem dX0_tollWith_0 : decode cX0_tollWith 0 = .ok (.iconst 1, 1) := by decide +kernel
theorem dX0_tollWith_1 : decode cX0_tollWith 1 = .ok (.aload_n 0, 1) := by decide +kernel
theorem dX0_tollWith_2 : decode cX0_tollWith 2 = .ok (.getfield 22, 3) := by decide +kernel
theorem dX0_tollWith_5 : decode cX0_tollWith 5 = .ok (.iadd, 1) := by decide +kernel
theorem dX0_tollWith_6 : decode cX0_tollWith 6 = .ok (.istore 4, 2) := by decide +kernel
theorem dX0_tollWith_8 : decode cX0_tollWith 8 = .ok (.aload_n 3, 1) := by decide +kernel
theorem dX0_tollWith_9 : decode cX0_tollWith 9 = .ok (.getfield 58, 3) := by decide +kernel
theorem dX0_tollWith_12 : decode cX0_tollWith 12 = .ok (.ifCond .le 14, 3) := by decide +kernel
theorem dX0_tollWith_15 : decode cX0_tollWith 15 = .ok (.iload 4, 2) := by decide +kernel
theorem dX0_tollWith_17 : decode cX0_tollWith 17 = .ok (.iload_n 1, 1) := by decide +kernel
theorem dX0_tollWith_18 : decode cX0_tollWith 18 = .ok (.aload_n 3, 1) := by decide +kernel
theorem dX0_tollWith_19 : decode cX0_tollWith 19 = .ok (.getfield 58, 3) := by decide +kernel
theorem dX0_tollWith_22 : decode cX0_tollWith 22 = .ok (.idiv, 1) := by decide +kernel
theorem dX0_tollWith_23 : decode cX0_tollWith 23 = .ok (.iadd, 1) := by decide +kernel
theorem dX0_tollWith_24 : decode cX0_tollWith 24 = .ok (.istore 4, 2) := by decide +kernel
theorem dX0_tollWith_26 : decode cX0_tollWith 26 = .ok (.iload_n 2, 1) := by decide +kernel
theorem dX0_tollWith_27 : decode cX0_tollWith 27 = .ok (.ifCond .le 12, 3) := by decide +kernel
theorem dX0_tollWith_30 : decode cX0_tollWith 30 = .ok (.iload 4, 2) := by decide +kernel
theorem dX0_tollWith_32 : decode cX0_tollWith 32 = .ok (.iconst 1, 1) := by decide +kernel
theorem dX0_tollWith_33 : decode cX0_tollWith 33 = .ok (.iadd, 1) := by decide +kernel
theorem dX0_tollWith_34 : decode cX0_tollWith 34 = .ok (.iconst 2, 1) := by decide +kernel
theorem dX0_tollWith_35 : decode cX0_tollWith 35 = .ok (.idiv, 1) := by decide +kernel
theorem dX0_tollWith_36 : decode cX0_tollWith 36 = .ok (.goto 5, 3) := by decide +kernel
theorem dX0_tollWith_39 : decode cX0_tollWith 39 = .ok (.iload 4, 2) := by decide +kernel
theorem dX0_tollWith_41 : decode cX0_tollWith 41 = .ok (.ireturn, 1) := by decide +kernel
theorem dX0_tollOfStep_0 : decode cX0_tollOfStep 0 = .ok (.aload_n 0, 1) := by decide +kernel
theorem dX0_tollOfStep_1 : decode cX0_tollOfStep 1 = .ok (.aload_n 0, 1) := by decide +kernel
theorem dX0_tollOfStep_2 : decode cX0_tollOfStep 2 = .ok (.aload_n 0, 1) := by decide +kernel
theorem dX0_tollOfStep_3 : decode cX0_tollOfStep 3 = .ok (.getfield 15, 3) := by decide +kernel
theorem dX0_tollOfStep_6 : decode cX0_tollOfStep 6 = .ok (.iload_n 1, 1) := by decide +kernel
theorem dX0_tollOfStep_7 : decode cX0_tollOfStep 7 = .ok (.invokestatic 63, 3) := by decide +kernel
theorem dX0_tollOfStep_10 : decode cX0_tollOfStep 10 = .ok (.invokevirtual 66, 3) := by decide +kernel
theorem dX0_tollOfStep_13 : decode cX0_tollOfStep 13 = .ok (.aload_n 0, 1) := by decide +kernel
theorem dX0_tollOfStep_14 : decode cX0_tollOfStep 14 = .ok (.getfield 31, 3) := by decide +kernel
theorem dX0_tollOfStep_17 : decode cX0_tollOfStep 17 = .ok (.aload_n 2, 1) := by decide +kernel
theorem dX0_tollOfStep_18 : decode cX0_tollOfStep 18 = .ok (.invokevirtual 70, 3) := by decide +kernel
theorem dX0_tollOfStep_21 : decode cX0_tollOfStep 21 = .ok (.ireturn, 1) := by decide +kernel
theorem dX0_isTurn_0 : decode cX0_isTurn 0 = .ok (.aload_n 0, 1) := by decide +kernel
theorem dX0_isTurn_1 : decode cX0_isTurn 1 = .ok (.getfield 25, 3) := by decide +kernel
theorem dX0_isTurn_4 : decode cX0_isTurn 4 = .ok (.iload_n 1, 1) := by decide +kernel
theorem dX0_isTurn_5 : decode cX0_isTurn 5 = .ok (.ineg, 1) := by decide +kernel
theorem dX0_isTurn_6 : decode cX0_isTurn 6 = .ok (.if_icmp .ne 7, 3) := by decide +kernel
theorem dX0_isTurn_9 : decode cX0_isTurn 9 = .ok (.iconst 1, 1) := by decide +kernel
theorem dX0_isTurn_10 : decode cX0_isTurn 10 = .ok (.goto 4, 3) := by decide +kernel
theorem dX0_isTurn_13 : decode cX0_isTurn 13 = .ok (.iconst 0, 1) := by decide +kernel
theorem dX0_isTurn_14 : decode cX0_isTurn 14 = .ok (.ireturn, 1) := by decide +kernel
theorem dX0_makeStep_0 : decode cX0_makeStep 0 = .ok (.aload_n 0, 1) := by decide +kernel
theorem dX0_makeStep_1 : decode cX0_makeStep 1 = .ok (.getfield 15, 3) := by decide +kernel
theorem dX0_makeStep_4 : decode cX0_makeStep 4 = .ok (.iload_n 1, 1) := by decide +kernel
theorem dX0_makeStep_5 : decode cX0_makeStep 5 = .ok (.invokestatic 63, 3) := by decide +kernel
theorem dX0_makeStep_8 : decode cX0_makeStep 8 = .ok (.istore 4, 2) := by decide +kernel
theorem dX0_makeStep_10 : decode cX0_makeStep 10 = .ok (.aload_n 0, 1) := by decide +kernel
theorem dX0_makeStep_11 : decode cX0_makeStep 11 = .ok (.iload 4, 2) := by decide +kernel
theorem dX0_makeStep_13 : decode cX0_makeStep 13 = .ok (.invokevirtual 66, 3) := by decide +kernel
theorem dX0_makeStep_16 : decode cX0_makeStep 16 = .ok (.istore 5, 2) := by decide +kernel
theorem dX0_makeStep_18 : decode cX0_makeStep 18 = .ok (.aload_n 0, 1) := by decide +kernel
theorem dX0_makeStep_19 : decode cX0_makeStep 19 = .ok (.iload 5, 2) := by decide +kernel
theorem dX0_makeStep_21 : decode cX0_makeStep 21 = .ok (.aload_n 0, 1) := by decide +kernel
theorem dX0_makeStep_22 : decode cX0_makeStep 22 = .ok (.getfield 31, 3) := by decide +kernel
theorem dX0_makeStep_25 : decode cX0_makeStep 25 = .ok (.aload_n 3, 1) := by decide +kernel
theorem dX0_makeStep_26 : decode cX0_makeStep 26 = .ok (.invokevirtual 70, 3) := by decide +kernel
theorem dX0_makeStep_29 : decode cX0_makeStep 29 = .ok (.istore 6, 2) := by decide +kernel
theorem dX0_makeStep_31 : decode cX0_makeStep 31 = .ok (.iload 6, 2) := by decide +kernel
theorem dX0_makeStep_33 : decode cX0_makeStep 33 = .ok (.iload_n 2, 1) := by decide +kernel
theorem dX0_makeStep_34 : decode cX0_makeStep 34 = .ok (.if_icmp .le 5, 3) := by decide +kernel
theorem dX0_makeStep_37 : decode cX0_makeStep 37 = .ok (.iconst 0, 1) := by decide +kernel
theorem dX0_makeStep_38 : decode cX0_makeStep 38 = .ok (.ireturn, 1) := by decide +kernel
theorem dX0_makeStep_39 : decode cX0_makeStep 39 = .ok (.aload_n 0, 1) := by decide +kernel
theorem dX0_makeStep_40 : decode cX0_makeStep 40 = .ok (.iload_n 1, 1) := by decide +kernel
theorem dX0_makeStep_41 : decode cX0_makeStep 41 = .ok (.invokevirtual 74, 3) := by decide +kernel
theorem dX0_makeStep_44 : decode cX0_makeStep 44 = .ok (.istore 7, 2) := by decide +kernel
theorem dX0_makeStep_46 : decode cX0_makeStep 46 = .ok (.iload 7, 2) := by decide +kernel
theorem dX0_makeStep_48 : decode cX0_makeStep 48 = .ok (.ifCond .eq 28, 3) := by decide +kernel
theorem dX0_makeStep_51 : decode cX0_makeStep 51 = .ok (.aload_n 0, 1) := by decide +kernel
theorem dX0_makeStep_52 : decode cX0_makeStep 52 = .ok (.dup, 1) := by decide +kernel
theorem dX0_makeStep_53 : decode cX0_makeStep 53 = .ok (.getfield 43, 3) := by decide +kernel
theorem dX0_makeStep_56 : decode cX0_makeStep 56 = .ok (.iconst 1, 1) := by decide +kernel
theorem dX0_makeStep_57 : decode cX0_makeStep 57 = .ok (.iadd, 1) := by decide +kernel
theorem dX0_makeStep_58 : decode cX0_makeStep 58 = .ok (.putfield 43, 3) := by decide +kernel
theorem dX0_makeStep_61 : decode cX0_makeStep 61 = .ok (.aload_n 0, 1) := by decide +kernel
theorem dX0_makeStep_62 : decode cX0_makeStep 62 = .ok (.aload_n 0, 1) := by decide +kernel
theorem dX0_makeStep_63 : decode cX0_makeStep 63 = .ok (.getfield 28, 3) := by decide +kernel
theorem dX0_makeStep_66 : decode cX0_makeStep 66 = .ok (.iconst 1, 1) := by decide +kernel
theorem dX0_makeStep_67 : decode cX0_makeStep 67 = .ok (.iadd, 1) := by decide +kernel
theorem dX0_makeStep_68 : decode cX0_makeStep 68 = .ok (.bipush 12, 2) := by decide +kernel
theorem dX0_makeStep_70 : decode cX0_makeStep 70 = .ok (.invokestatic 55, 3) := by decide +kernel
theorem dX0_makeStep_73 : decode cX0_makeStep 73 = .ok (.putfield 28, 3) := by decide +kernel
theorem dX0_makeStep_76 : decode cX0_makeStep 76 = .ok (.aload_n 0, 1) := by decide +kernel
theorem dX0_makeStep_77 : decode cX0_makeStep 77 = .ok (.aload_n 0, 1) := by decide +kernel
theorem dX0_makeStep_78 : decode cX0_makeStep 78 = .ok (.getfield 19, 3) := by decide +kernel
theorem dX0_makeStep_81 : decode cX0_makeStep 81 = .ok (.iload_n 1, 1) := by decide +kernel
theorem dX0_makeStep_82 : decode cX0_makeStep 82 = .ok (.invokestatic 78, 3) := by decide +kernel
theorem dX0_makeStep_85 : decode cX0_makeStep 85 = .ok (.putfield 19, 3) := by decide +kernel
theorem dX0_makeStep_88 : decode cX0_makeStep 88 = .ok (.iload 7, 2) := by decide +kernel
theorem dX0_makeStep_90 : decode cX0_makeStep 90 = .ok (.ifCond .eq 25, 3) := by decide +kernel
theorem dX0_makeStep_93 : decode cX0_makeStep 93 = .ok (.iload 5, 2) := by decide +kernel
theorem dX0_makeStep_95 : decode cX0_makeStep 95 = .ok (.aload_n 3, 1) := by decide +kernel
theorem dX0_makeStep_96 : decode cX0_makeStep 96 = .ok (.getfield 81, 3) := by decide +kernel
theorem dX0_makeStep_99 : decode cX0_makeStep 99 = .ok (.if_icmp .lt 16, 3) := by decide +kernel
theorem dX0_makeStep_102 : decode cX0_makeStep 102 = .ok (.aload_n 0, 1) := by decide +kernel
theorem dX0_makeStep_103 : decode cX0_makeStep 103 = .ok (.dup, 1) := by decide +kernel
theorem dX0_makeStep_104 : decode cX0_makeStep 104 = .ok (.getfield 37, 3) := by decide +kernel
theorem dX0_makeStep_107 : decode cX0_makeStep 107 = .ok (.iconst 1, 1) := by decide +kernel
theorem dX0_makeStep_108 : decode cX0_makeStep 108 = .ok (.iadd, 1) := by decide +kernel
theorem dX0_makeStep_109 : decode cX0_makeStep 109 = .ok (.putfield 37, 3) := by decide +kernel
theorem dX0_makeStep_112 : decode cX0_makeStep 112 = .ok (.goto 15, 3) := by decide +kernel
theorem dX0_makeStep_115 : decode cX0_makeStep 115 = .ok (.aload_n 0, 1) := by decide +kernel
theorem dX0_makeStep_116 : decode cX0_makeStep 116 = .ok (.aload_n 0, 1) := by decide +kernel
theorem dX0_makeStep_117 : decode cX0_makeStep 117 = .ok (.getfield 15, 3) := by decide +kernel
theorem dX0_makeStep_120 : decode cX0_makeStep 120 = .ok (.iload_n 1, 1) := by decide +kernel
theorem dX0_makeStep_121 : decode cX0_makeStep 121 = .ok (.invokestatic 78, 3) := by decide +kernel
theorem dX0_makeStep_124 : decode cX0_makeStep 124 = .ok (.putfield 15, 3) := by decide +kernel
theorem dX0_makeStep_127 : decode cX0_makeStep 127 = .ok (.aload_n 0, 1) := by decide +kernel
theorem dX0_makeStep_128 : decode cX0_makeStep 128 = .ok (.iload 4, 2) := by decide +kernel
theorem dX0_makeStep_130 : decode cX0_makeStep 130 = .ok (.iload 5, 2) := by decide +kernel
theorem dX0_makeStep_132 : decode cX0_makeStep 132 = .ok (.aload_n 3, 1) := by decide +kernel
theorem dX0_makeStep_133 : decode cX0_makeStep 133 = .ok (.getfield 84, 3) := by decide +kernel
theorem dX0_makeStep_136 : decode cX0_makeStep 136 = .ok (.iadd, 1) := by decide +kernel
theorem dX0_makeStep_137 : decode cX0_makeStep 137 = .ok (.bipush 99, 2) := by decide +kernel
theorem dX0_makeStep_139 : decode cX0_makeStep 139 = .ok (.invokestatic 55, 3) := by decide +kernel
theorem dX0_makeStep_142 : decode cX0_makeStep 142 = .ok (.invokevirtual 87, 3) := by decide +kernel
theorem dX0_makeStep_145 : decode cX0_makeStep 145 = .ok (.aload_n 0, 1) := by decide +kernel
theorem dX0_makeStep_146 : decode cX0_makeStep 146 = .ok (.iload_n 1, 1) := by decide +kernel
theorem dX0_makeStep_147 : decode cX0_makeStep 147 = .ok (.putfield 25, 3) := by decide +kernel
theorem dX0_makeStep_150 : decode cX0_makeStep 150 = .ok (.aload_n 0, 1) := by decide +kernel
theorem dX0_makeStep_151 : decode cX0_makeStep 151 = .ok (.aload_n 0, 1) := by decide +kernel
theorem dX0_makeStep_152 : decode cX0_makeStep 152 = .ok (.getfield 31, 3) := by decide +kernel
theorem dX0_makeStep_155 : decode cX0_makeStep 155 = .ok (.iconst 1, 1) := by decide +kernel
theorem dX0_makeStep_156 : decode cX0_makeStep 156 = .ok (.isub, 1) := by decide +kernel
theorem dX0_makeStep_157 : decode cX0_makeStep 157 = .ok (.iconst 0, 1) := by decide +kernel
theorem dX0_makeStep_158 : decode cX0_makeStep 158 = .ok (.invokestatic 91, 3) := by decide +kernel
theorem dX0_makeStep_161 : decode cX0_makeStep 161 = .ok (.putfield 31, 3) := by decide +kernel
theorem dX0_makeStep_164 : decode cX0_makeStep 164 = .ok (.aload_n 0, 1) := by decide +kernel
theorem dX0_makeStep_165 : decode cX0_makeStep 165 = .ok (.dup, 1) := by decide +kernel
theorem dX0_makeStep_166 : decode cX0_makeStep 166 = .ok (.getfield 34, 3) := by decide +kernel
theorem dX0_makeStep_169 : decode cX0_makeStep 169 = .ok (.iconst 1, 1) := by decide +kernel
theorem dX0_makeStep_170 : decode cX0_makeStep 170 = .ok (.iadd, 1) := by decide +kernel
theorem dX0_makeStep_171 : decode cX0_makeStep 171 = .ok (.putfield 34, 3) := by decide +kernel
theorem dX0_makeStep_174 : decode cX0_makeStep 174 = .ok (.aload_n 0, 1) := by decide +kernel
theorem dX0_makeStep_175 : decode cX0_makeStep 175 = .ok (.dup, 1) := by decide +kernel
theorem dX0_makeStep_176 : decode cX0_makeStep 176 = .ok (.getfield 40, 3) := by decide +kernel
theorem dX0_makeStep_179 : decode cX0_makeStep 179 = .ok (.iload 6, 2) := by decide +kernel
theorem dX0_makeStep_181 : decode cX0_makeStep 181 = .ok (.iadd, 1) := by decide +kernel
theorem dX0_makeStep_182 : decode cX0_makeStep 182 = .ok (.putfield 40, 3) := by decide +kernel
theorem dX0_makeStep_185 : decode cX0_makeStep 185 = .ok (.iload 6, 2) := by decide +kernel
theorem dX0_makeStep_187 : decode cX0_makeStep 187 = .ok (.ireturn, 1) := by decide +kernel
theorem dX0_makeHomed_0 : decode cX0_makeHomed 0 = .ok (.iconst 0, 1) := by decide +kernel
theorem dX0_makeHomed_1 : decode cX0_makeHomed 1 = .ok (.istore_n 3, 1) := by decide +kernel
theorem dX0_makeHomed_2 : decode cX0_makeHomed 2 = .ok (.iconst 0, 1) := by decide +kernel
theorem dX0_makeHomed_3 : decode cX0_makeHomed 3 = .ok (.istore 4, 2) := by decide +kernel
theorem dX0_makeHomed_5 : decode cX0_makeHomed 5 = .ok (.iload 4, 2) := by decide +kernel
theorem dX0_makeHomed_7 : decode cX0_makeHomed 7 = .ok (.bipush 40, 2) := by decide +kernel
theorem dX0_makeHomed_9 : decode cX0_makeHomed 9 = .ok (.if_icmp .ge 40, 3) := by decide +kernel
theorem dX0_makeHomed_12 : decode cX0_makeHomed 12 = .ok (.aload_n 0, 1) := by decide +kernel
theorem dX0_makeHomed_13 : decode cX0_makeHomed 13 = .ok (.getfield 15, 3) := by decide +kernel
theorem dX0_makeHomed_16 : decode cX0_makeHomed 16 = .ok (.ifCond .eq 33, 3) := by decide +kernel
theorem dX0_makeHomed_19 : decode cX0_makeHomed 19 = .ok (.aload_n 0, 1) := by decide +kernel
theorem dX0_makeHomed_20 : decode cX0_makeHomed 20 = .ok (.iconst (-1), 1) := by decide +kernel
theorem dX0_makeHomed_21 : decode cX0_makeHomed 21 = .ok (.iload_n 1, 1) := by decide +kernel
theorem dX0_makeHomed_22 : decode cX0_makeHomed 22 = .ok (.iload_n 3, 1) := by decide +kernel
theorem dX0_makeHomed_23 : decode cX0_makeHomed 23 = .ok (.isub, 1) := by decide +kernel
theorem dX0_makeHomed_24 : decode cX0_makeHomed 24 = .ok (.aload_n 2, 1) := by decide +kernel
theorem dX0_makeHomed_25 : decode cX0_makeHomed 25 = .ok (.invokevirtual 94, 3) := by decide +kernel
theorem dX0_makeHomed_28 : decode cX0_makeHomed 28 = .ok (.istore 5, 2) := by decide +kernel
theorem dX0_makeHomed_30 : decode cX0_makeHomed 30 = .ok (.iload 5, 2) := by decide +kernel
theorem dX0_makeHomed_32 : decode cX0_makeHomed 32 = .ok (.ifCond .ne 6, 3) := by decide +kernel
theorem dX0_makeHomed_35 : decode cX0_makeHomed 35 = .ok (.goto 14, 3) := by decide +kernel
theorem dX0_makeHomed_38 : decode cX0_makeHomed 38 = .ok (.iload_n 3, 1) := by decide +kernel
theorem dX0_makeHomed_39 : decode cX0_makeHomed 39 = .ok (.iload 5, 2) := by decide +kernel
theorem dX0_makeHomed_41 : decode cX0_makeHomed 41 = .ok (.iadd, 1) := by decide +kernel
theorem dX0_makeHomed_42 : decode cX0_makeHomed 42 = .ok (.istore_n 3, 1) := by decide +kernel
theorem dX0_makeHomed_43 : decode cX0_makeHomed 43 = .ok (.iinc 4 1, 3) := by decide +kernel
theorem dX0_makeHomed_46 : decode cX0_makeHomed 46 = .ok (.goto (-41), 3) := by decide +kernel
theorem dX0_makeHomed_49 : decode cX0_makeHomed 49 = .ok (.aload_n 0, 1) := by decide +kernel
theorem dX0_makeHomed_50 : decode cX0_makeHomed 50 = .ok (.getfield 15, 3) := by decide +kernel
theorem dX0_makeHomed_53 : decode cX0_makeHomed 53 = .ok (.ifCond .ne 28, 3) := by decide +kernel
theorem dX0_makeHomed_56 : decode cX0_makeHomed 56 = .ok (.aload_n 0, 1) := by decide +kernel
theorem dX0_makeHomed_57 : decode cX0_makeHomed 57 = .ok (.iconst 0, 1) := by decide +kernel
theorem dX0_makeHomed_58 : decode cX0_makeHomed 58 = .ok (.putfield 19, 3) := by decide +kernel
theorem dX0_makeHomed_61 : decode cX0_makeHomed 61 = .ok (.aload_n 0, 1) := by decide +kernel
theorem dX0_makeHomed_62 : decode cX0_makeHomed 62 = .ok (.iconst 0, 1) := by decide +kernel
theorem dX0_makeHomed_63 : decode cX0_makeHomed 63 = .ok (.putfield 28, 3) := by decide +kernel
theorem dX0_makeHomed_66 : decode cX0_makeHomed 66 = .ok (.aload_n 0, 1) := by decide +kernel
theorem dX0_makeHomed_67 : decode cX0_makeHomed 67 = .ok (.iconst 0, 1) := by decide +kernel
theorem dX0_makeHomed_68 : decode cX0_makeHomed 68 = .ok (.putfield 25, 3) := by decide +kernel
theorem dX0_makeHomed_71 : decode cX0_makeHomed 71 = .ok (.aload_n 0, 1) := by decide +kernel
theorem dX0_makeHomed_72 : decode cX0_makeHomed 72 = .ok (.dup, 1) := by decide +kernel
theorem dX0_makeHomed_73 : decode cX0_makeHomed 73 = .ok (.getfield 46, 3) := by decide +kernel
theorem dX0_makeHomed_76 : decode cX0_makeHomed 76 = .ok (.iconst 1, 1) := by decide +kernel
theorem dX0_makeHomed_77 : decode cX0_makeHomed 77 = .ok (.iadd, 1) := by decide +kernel
theorem dX0_makeHomed_78 : decode cX0_makeHomed 78 = .ok (.putfield 46, 3) := by decide +kernel
theorem dX0_makeHomed_81 : decode cX0_makeHomed 81 = .ok (.iload_n 3, 1) := by decide +kernel
theorem dX0_makeHomed_82 : decode cX0_makeHomed 82 = .ok (.ireturn, 1) := by decide +kernel
theorem dX0_costOfWay_0 : decode cX0_costOfWay 0 = .ok (.aload_n 0, 1) := by decide +kernel
theorem dX0_costOfWay_1 : decode cX0_costOfWay 1 = .ok (.getfield 19, 3) := by decide +kernel
theorem dX0_costOfWay_4 : decode cX0_costOfWay 4 = .ok (.istore 5, 2) := by decide +kernel
theorem dX0_costOfWay_6 : decode cX0_costOfWay 6 = .ok (.iconst 0, 1) := by decide +kernel
theorem dX0_costOfWay_7 : decode cX0_costOfWay 7 = .ok (.istore 6, 2) := by decide +kernel
theorem dX0_costOfWay_9 : decode cX0_costOfWay 9 = .ok (.iconst 0, 1) := by decide +kernel
theorem dX0_costOfWay_10 : decode cX0_costOfWay 10 = .ok (.istore 7, 2) := by decide +kernel
theorem dX0_costOfWay_12 : decode cX0_costOfWay 12 = .ok (.iload 7, 2) := by decide +kernel
theorem dX0_costOfWay_14 : decode cX0_costOfWay 14 = .ok (.bipush 24, 2) := by decide +kernel
theorem dX0_costOfWay_16 : decode cX0_costOfWay 16 = .ok (.if_icmp .ge 69, 3) := by decide +kernel
theorem dX0_costOfWay_19 : decode cX0_costOfWay 19 = .ok (.iload 5, 2) := by decide +kernel
theorem dX0_costOfWay_21 : decode cX0_costOfWay 21 = .ok (.iload_n 1, 1) := by decide +kernel
theorem dX0_costOfWay_22 : decode cX0_costOfWay 22 = .ok (.if_icmp .eq 63, 3) := by decide +kernel
theorem dX0_costOfWay_25 : decode cX0_costOfWay 25 = .ok (.iload 5, 2) := by decide +kernel
theorem dX0_costOfWay_27 : decode cX0_costOfWay 27 = .ok (.iload_n 2, 1) := by decide +kernel
theorem dX0_costOfWay_28 : decode cX0_costOfWay 28 = .ok (.invokestatic 63, 3) := by decide +kernel
theorem dX0_costOfWay_31 : decode cX0_costOfWay 31 = .ok (.istore 8, 2) := by decide +kernel
theorem dX0_costOfWay_33 : decode cX0_costOfWay 33 = .ok (.iload 8, 2) := by decide +kernel
theorem dX0_costOfWay_35 : decode cX0_costOfWay 35 = .ok (.iload_n 3, 1) := by decide +kernel
theorem dX0_costOfWay_36 : decode cX0_costOfWay 36 = .ok (.if_icmp .ne 7, 3) := by decide +kernel
theorem dX0_costOfWay_39 : decode cX0_costOfWay 39 = .ok (.iconst 0, 1) := by decide +kernel
theorem dX0_costOfWay_40 : decode cX0_costOfWay 40 = .ok (.goto 9, 3) := by decide +kernel
theorem dX0_costOfWay_43 : decode cX0_costOfWay 43 = .ok (.aload_n 0, 1) := by decide +kernel
theorem dX0_costOfWay_44 : decode cX0_costOfWay 44 = .ok (.iload 8, 2) := by decide +kernel
theorem dX0_costOfWay_46 : decode cX0_costOfWay 46 = .ok (.invokevirtual 66, 3) := by decide +kernel
theorem dX0_costOfWay_49 : decode cX0_costOfWay 49 = .ok (.istore 9, 2) := by decide +kernel
theorem dX0_costOfWay_51 : decode cX0_costOfWay 51 = .ok (.iload 6, 2) := by decide +kernel
theorem dX0_costOfWay_53 : decode cX0_costOfWay 53 = .ok (.aload_n 0, 1) := by decide +kernel
theorem dX0_costOfWay_54 : decode cX0_costOfWay 54 = .ok (.iload 9, 2) := by decide +kernel
theorem dX0_costOfWay_56 : decode cX0_costOfWay 56 = .ok (.aload_n 0, 1) := by decide +kernel
theorem dX0_costOfWay_57 : decode cX0_costOfWay 57 = .ok (.getfield 31, 3) := by decide +kernel
theorem dX0_costOfWay_60 : decode cX0_costOfWay 60 = .ok (.iload 7, 2) := by decide +kernel
theorem dX0_costOfWay_62 : decode cX0_costOfWay 62 = .ok (.isub, 1) := by decide +kernel
theorem dX0_costOfWay_63 : decode cX0_costOfWay 63 = .ok (.aload 4, 2) := by decide +kernel
theorem dX0_costOfWay_65 : decode cX0_costOfWay 65 = .ok (.invokevirtual 70, 3) := by decide +kernel
theorem dX0_costOfWay_68 : decode cX0_costOfWay 68 = .ok (.iadd, 1) := by decide +kernel
theorem dX0_costOfWay_69 : decode cX0_costOfWay 69 = .ok (.istore 6, 2) := by decide +kernel
theorem dX0_costOfWay_71 : decode cX0_costOfWay 71 = .ok (.iload 5, 2) := by decide +kernel
theorem dX0_costOfWay_73 : decode cX0_costOfWay 73 = .ok (.iload_n 2, 1) := by decide +kernel
theorem dX0_costOfWay_74 : decode cX0_costOfWay 74 = .ok (.invokestatic 78, 3) := by decide +kernel
theorem dX0_costOfWay_77 : decode cX0_costOfWay 77 = .ok (.istore 5, 2) := by decide +kernel
theorem dX0_costOfWay_79 : decode cX0_costOfWay 79 = .ok (.iinc 7 1, 3) := by decide +kernel
theorem dX0_costOfWay_82 : decode cX0_costOfWay 82 = .ok (.goto (-70), 3) := by decide +kernel
theorem dX0_costOfWay_85 : decode cX0_costOfWay 85 = .ok (.iload 6, 2) := by decide +kernel
theorem dX0_costOfWay_87 : decode cX0_costOfWay 87 = .ok (.ireturn, 1) := by decide +kernel
theorem dX0_property_0 : decode cX0_property 0 = .ok (.iload_n 1, 1) := by decide +kernel
theorem dX0_property_1 : decode cX0_property 1 = .ok (.tableswitch 121 0 10 #[59, 64, 69, 74, 79, 84, 89, 94, 99, 104, 116], 59) := by decide +kernel
theorem dX0_property_60 : decode cX0_property 60 = .ok (.aload_n 0, 1) := by decide +kernel
theorem dX0_property_61 : decode cX0_property 61 = .ok (.getfield 15, 3) := by decide +kernel
theorem dX0_property_64 : decode cX0_property 64 = .ok (.ireturn, 1) := by decide +kernel
theorem dX0_property_65 : decode cX0_property 65 = .ok (.aload_n 0, 1) := by decide +kernel
theorem dX0_property_66 : decode cX0_property 66 = .ok (.getfield 19, 3) := by decide +kernel
theorem dX0_property_69 : decode cX0_property 69 = .ok (.ireturn, 1) := by decide +kernel
theorem dX0_property_70 : decode cX0_property 70 = .ok (.aload_n 0, 1) := by decide +kernel
theorem dX0_property_71 : decode cX0_property 71 = .ok (.getfield 22, 3) := by decide +kernel
theorem dX0_property_74 : decode cX0_property 74 = .ok (.ireturn, 1) := by decide +kernel
theorem dX0_property_75 : decode cX0_property 75 = .ok (.aload_n 0, 1) := by decide +kernel
theorem dX0_property_76 : decode cX0_property 76 = .ok (.getfield 25, 3) := by decide +kernel
theorem dX0_property_79 : decode cX0_property 79 = .ok (.ireturn, 1) := by decide +kernel
theorem dX0_property_80 : decode cX0_property 80 = .ok (.aload_n 0, 1) := by decide +kernel
theorem dX0_property_81 : decode cX0_property 81 = .ok (.getfield 28, 3) := by decide +kernel
theorem dX0_property_84 : decode cX0_property 84 = .ok (.ireturn, 1) := by decide +kernel
theorem dX0_property_85 : decode cX0_property 85 = .ok (.aload_n 0, 1) := by decide +kernel
theorem dX0_property_86 : decode cX0_property 86 = .ok (.getfield 31, 3) := by decide +kernel
theorem dX0_property_89 : decode cX0_property 89 = .ok (.ireturn, 1) := by decide +kernel
theorem dX0_property_90 : decode cX0_property 90 = .ok (.aload_n 0, 1) := by decide +kernel
theorem dX0_property_91 : decode cX0_property 91 = .ok (.getfield 34, 3) := by decide +kernel
theorem dX0_property_94 : decode cX0_property 94 = .ok (.ireturn, 1) := by decide +kernel
theorem dX0_property_95 : decode cX0_property 95 = .ok (.aload_n 0, 1) := by decide +kernel
theorem dX0_property_96 : decode cX0_property 96 = .ok (.getfield 37, 3) := by decide +kernel
theorem dX0_property_99 : decode cX0_property 99 = .ok (.ireturn, 1) := by decide +kernel
theorem dX0_property_100 : decode cX0_property 100 = .ok (.aload_n 0, 1) := by decide +kernel
theorem dX0_property_101 : decode cX0_property 101 = .ok (.getfield 40, 3) := by decide +kernel
theorem dX0_property_104 : decode cX0_property 104 = .ok (.ireturn, 1) := by decide +kernel
theorem dX0_property_105 : decode cX0_property 105 = .ok (.aload_n 0, 1) := by decide +kernel
theorem dX0_property_106 : decode cX0_property 106 = .ok (.getfield 15, 3) := by decide +kernel
theorem dX0_property_109 : decode cX0_property 109 = .ok (.aload_n 0, 1) := by decide +kernel
theorem dX0_property_110 : decode cX0_property 110 = .ok (.getfield 19, 3) := by decide +kernel
theorem dX0_property_113 : decode cX0_property 113 = .ok (.invokestatic 97, 3) := by decide +kernel
theorem dX0_property_116 : decode cX0_property 116 = .ok (.ireturn, 1) := by decide +kernel
theorem dX0_property_117 : decode cX0_property 117 = .ok (.aload_n 0, 1) := by decide +kernel
theorem dX0_property_118 : decode cX0_property 118 = .ok (.getfield 43, 3) := by decide +kernel
theorem dX0_property_121 : decode cX0_property 121 = .ok (.ireturn, 1) := by decide +kernel
theorem dX0_property_122 : decode cX0_property 122 = .ok (.aload_n 0, 1) := by decide +kernel
theorem dX0_property_123 : decode cX0_property 123 = .ok (.getfield 46, 3) := by decide +kernel
theorem dX0_property_126 : decode cX0_property 126 = .ok (.ireturn, 1) := by decide +kernel
theorem dX0_copyFrom_0 : decode cX0_copyFrom 0 = .ok (.aload_n 1, 1) := by decide +kernel
theorem dX0_copyFrom_1 : decode cX0_copyFrom 1 = .ok (.getfield 9, 3) := by decide +kernel
theorem dX0_copyFrom_4 : decode cX0_copyFrom 4 = .ok (.iconst 0, 1) := by decide +kernel
theorem dX0_copyFrom_5 : decode cX0_copyFrom 5 = .ok (.aload_n 0, 1) := by decide +kernel
theorem dX0_copyFrom_6 : decode cX0_copyFrom 6 = .ok (.getfield 9, 3) := by decide +kernel
theorem dX0_copyFrom_9 : decode cX0_copyFrom 9 = .ok (.iconst 0, 1) := by decide +kernel
theorem dX0_copyFrom_10 : decode cX0_copyFrom 10 = .ok (.aload_n 1, 1) := by decide +kernel
theorem dX0_copyFrom_11 : decode cX0_copyFrom 11 = .ok (.getfield 9, 3) := by decide +kernel
theorem dX0_copyFrom_14 : decode cX0_copyFrom 14 = .ok (.arraylength, 1) := by decide +kernel
theorem dX0_copyFrom_15 : decode cX0_copyFrom 15 = .ok (.aload_n 0, 1) := by decide +kernel
theorem dX0_copyFrom_16 : decode cX0_copyFrom 16 = .ok (.getfield 9, 3) := by decide +kernel
theorem dX0_copyFrom_19 : decode cX0_copyFrom 19 = .ok (.arraylength, 1) := by decide +kernel
theorem dX0_copyFrom_20 : decode cX0_copyFrom 20 = .ok (.invokestatic 55, 3) := by decide +kernel
theorem dX0_copyFrom_23 : decode cX0_copyFrom 23 = .ok (.invokestatic 100, 3) := by decide +kernel
theorem dX0_copyFrom_26 : decode cX0_copyFrom 26 = .ok (.aload_n 0, 1) := by decide +kernel
theorem dX0_copyFrom_27 : decode cX0_copyFrom 27 = .ok (.aload_n 1, 1) := by decide +kernel
theorem dX0_copyFrom_28 : decode cX0_copyFrom 28 = .ok (.getfield 15, 3) := by decide +kernel
theorem dX0_copyFrom_31 : decode cX0_copyFrom 31 = .ok (.putfield 15, 3) := by decide +kernel
theorem dX0_copyFrom_34 : decode cX0_copyFrom 34 = .ok (.aload_n 0, 1) := by decide +kernel
theorem dX0_copyFrom_35 : decode cX0_copyFrom 35 = .ok (.aload_n 1, 1) := by decide +kernel
theorem dX0_copyFrom_36 : decode cX0_copyFrom 36 = .ok (.getfield 19, 3) := by decide +kernel
theorem dX0_copyFrom_39 : decode cX0_copyFrom 39 = .ok (.putfield 19, 3) := by decide +kernel
theorem dX0_copyFrom_42 : decode cX0_copyFrom 42 = .ok (.aload_n 0, 1) := by decide +kernel
theorem dX0_copyFrom_43 : decode cX0_copyFrom 43 = .ok (.aload_n 1, 1) := by decide +kernel
theorem dX0_copyFrom_44 : decode cX0_copyFrom 44 = .ok (.getfield 22, 3) := by decide +kernel
theorem dX0_copyFrom_47 : decode cX0_copyFrom 47 = .ok (.putfield 22, 3) := by decide +kernel
theorem dX0_copyFrom_50 : decode cX0_copyFrom 50 = .ok (.aload_n 0, 1) := by decide +kernel
theorem dX0_copyFrom_51 : decode cX0_copyFrom 51 = .ok (.aload_n 1, 1) := by decide +kernel
theorem dX0_copyFrom_52 : decode cX0_copyFrom 52 = .ok (.getfield 25, 3) := by decide +kernel
theorem dX0_copyFrom_55 : decode cX0_copyFrom 55 = .ok (.putfield 25, 3) := by decide +kernel
theorem dX0_copyFrom_58 : decode cX0_copyFrom 58 = .ok (.aload_n 0, 1) := by decide +kernel
theorem dX0_copyFrom_59 : decode cX0_copyFrom 59 = .ok (.aload_n 1, 1) := by decide +kernel
theorem dX0_copyFrom_60 : decode cX0_copyFrom 60 = .ok (.getfield 28, 3) := by decide +kernel
theorem dX0_copyFrom_63 : decode cX0_copyFrom 63 = .ok (.putfield 28, 3) := by decide +kernel
theorem dX0_copyFrom_66 : decode cX0_copyFrom 66 = .ok (.aload_n 0, 1) := by decide +kernel
theorem dX0_copyFrom_67 : decode cX0_copyFrom 67 = .ok (.aload_n 1, 1) := by decide +kernel
theorem dX0_copyFrom_68 : decode cX0_copyFrom 68 = .ok (.getfield 31, 3) := by decide +kernel
theorem dX0_copyFrom_71 : decode cX0_copyFrom 71 = .ok (.putfield 31, 3) := by decide +kernel
theorem dX0_copyFrom_74 : decode cX0_copyFrom 74 = .ok (.aload_n 0, 1) := by decide +kernel
theorem dX0_copyFrom_75 : decode cX0_copyFrom 75 = .ok (.aload_n 1, 1) := by decide +kernel
theorem dX0_copyFrom_76 : decode cX0_copyFrom 76 = .ok (.getfield 34, 3) := by decide +kernel
theorem dX0_copyFrom_79 : decode cX0_copyFrom 79 = .ok (.putfield 34, 3) := by decide +kernel
theorem dX0_copyFrom_82 : decode cX0_copyFrom 82 = .ok (.aload_n 0, 1) := by decide +kernel
theorem dX0_copyFrom_83 : decode cX0_copyFrom 83 = .ok (.aload_n 1, 1) := by decide +kernel
theorem dX0_copyFrom_84 : decode cX0_copyFrom 84 = .ok (.getfield 37, 3) := by decide +kernel
theorem dX0_copyFrom_87 : decode cX0_copyFrom 87 = .ok (.putfield 37, 3) := by decide +kernel
theorem dX0_copyFrom_90 : decode cX0_copyFrom 90 = .ok (.aload_n 0, 1) := by decide +kernel
theorem dX0_copyFrom_91 : decode cX0_copyFrom 91 = .ok (.aload_n 1, 1) := by decide +kernel
theorem dX0_copyFrom_92 : decode cX0_copyFrom 92 = .ok (.getfield 40, 3) := by decide +kernel
theorem dX0_copyFrom_95 : decode cX0_copyFrom 95 = .ok (.putfield 40, 3) := by decide +kernel
theorem dX0_copyFrom_98 : decode cX0_copyFrom 98 = .ok (.aload_n 0, 1) := by decide +kernel
theorem dX0_copyFrom_99 : decode cX0_copyFrom 99 = .ok (.aload_n 1, 1) := by decide +kernel
theorem dX0_copyFrom_100 : decode cX0_copyFrom 100 = .ok (.getfield 43, 3) := by decide +kernel
theorem dX0_copyFrom_103 : decode cX0_copyFrom 103 = .ok (.putfield 43, 3) := by decide +kernel
theorem dX0_copyFrom_106 : decode cX0_copyFrom 106 = .ok (.aload_n 0, 1) := by decide +kernel
theorem dX0_copyFrom_107 : decode cX0_copyFrom 107 = .ok (.aload_n 1, 1) := by decide +kernel
theorem dX0_copyFrom_108 : decode cX0_copyFrom 108 = .ok (.getfield 46, 3) := by decide +kernel
theorem dX0_copyFrom_111 : decode cX0_copyFrom 111 = .ok (.putfield 46, 3) := by decide +kernel
theorem dX0_copyFrom_114 : decode cX0_copyFrom 114 = .ok (.return_, 1) := by decide +kernel
theorem dX1_init_0 : decode cX1_init 0 = .ok (.aload_n 0, 1) := by decide +kernel
theorem dX1_init_1 : decode cX1_init 1 = .ok (.invokespecial 3, 3) := by decide +kernel
theorem dX1_init_4 : decode cX1_init 4 = .ok (.aload_n 0, 1) := by decide +kernel
theorem dX1_init_5 : decode cX1_init 5 = .ok (.bipush 6, 2) := by decide +kernel
theorem dX1_init_7 : decode cX1_init 7 = .ok (.anewarray 9, 3) := by decide +kernel
theorem dX1_init_10 : decode cX1_init 10 = .ok (.putfield 11, 3) := by decide +kernel
theorem dX1_init_13 : decode cX1_init 13 = .ok (.aload_n 0, 1) := by decide +kernel
theorem dX1_init_14 : decode cX1_init 14 = .ok (.iconst 0, 1) := by decide +kernel
theorem dX1_init_15 : decode cX1_init 15 = .ok (.putfield 17, 3) := by decide +kernel
theorem dX1_init_18 : decode cX1_init 18 = .ok (.aload_n 0, 1) := by decide +kernel
theorem dX1_init_19 : decode cX1_init 19 = .ok (.iconst 0, 1) := by decide +kernel
theorem dX1_init_20 : decode cX1_init 20 = .ok (.putfield 21, 3) := by decide +kernel
theorem dX1_init_23 : decode cX1_init 23 = .ok (.iconst 0, 1) := by decide +kernel
theorem dX1_init_24 : decode cX1_init 24 = .ok (.istore_n 1, 1) := by decide +kernel
theorem dX1_init_25 : decode cX1_init 25 = .ok (.iload_n 1, 1) := by decide +kernel
theorem dX1_init_26 : decode cX1_init 26 = .ok (.aload_n 0, 1) := by decide +kernel
theorem dX1_init_27 : decode cX1_init 27 = .ok (.getfield 11, 3) := by decide +kernel
theorem dX1_init_30 : decode cX1_init 30 = .ok (.arraylength, 1) := by decide +kernel
theorem dX1_init_31 : decode cX1_init 31 = .ok (.if_icmp .ge 22, 3) := by decide +kernel
theorem dX1_init_34 : decode cX1_init 34 = .ok (.aload_n 0, 1) := by decide +kernel
theorem dX1_init_35 : decode cX1_init 35 = .ok (.getfield 11, 3) := by decide +kernel
theorem dX1_init_38 : decode cX1_init 38 = .ok (.iload_n 1, 1) := by decide +kernel
theorem dX1_init_39 : decode cX1_init 39 = .ok (.new 9, 3) := by decide +kernel
theorem dX1_init_42 : decode cX1_init 42 = .ok (.dup, 1) := by decide +kernel
theorem dX1_init_43 : decode cX1_init 43 = .ok (.invokespecial 24, 3) := by decide +kernel
theorem dX1_init_46 : decode cX1_init 46 = .ok (.aastore, 1) := by decide +kernel
theorem dX1_init_47 : decode cX1_init 47 = .ok (.iinc 1 1, 3) := by decide +kernel
theorem dX1_init_50 : decode cX1_init 50 = .ok (.goto (-25), 3) := by decide +kernel
theorem dX1_init_53 : decode cX1_init 53 = .ok (.return_, 1) := by decide +kernel
theorem dX1_newestRow_0 : decode cX1_newestRow 0 = .ok (.aload_n 0, 1) := by decide +kernel
theorem dX1_newestRow_1 : decode cX1_newestRow 1 = .ok (.getfield 17, 3) := by decide +kernel
theorem dX1_newestRow_4 : decode cX1_newestRow 4 = .ok (.ifCond .lt 27, 3) := by decide +kernel
theorem dX1_newestRow_7 : decode cX1_newestRow 7 = .ok (.aload_n 0, 1) := by decide +kernel
theorem dX1_newestRow_8 : decode cX1_newestRow 8 = .ok (.getfield 17, 3) := by decide +kernel
theorem dX1_newestRow_11 : decode cX1_newestRow 11 = .ok (.aload_n 0, 1) := by decide +kernel
theorem dX1_newestRow_12 : decode cX1_newestRow 12 = .ok (.getfield 11, 3) := by decide +kernel
theorem dX1_newestRow_15 : decode cX1_newestRow 15 = .ok (.arraylength, 1) := by decide +kernel
theorem dX1_newestRow_16 : decode cX1_newestRow 16 = .ok (.if_icmp .ge 15, 3) := by decide +kernel
theorem dX1_newestRow_19 : decode cX1_newestRow 19 = .ok (.aload_n 0, 1) := by decide +kernel
theorem dX1_newestRow_20 : decode cX1_newestRow 20 = .ok (.getfield 11, 3) := by decide +kernel
theorem dX1_newestRow_23 : decode cX1_newestRow 23 = .ok (.aload_n 0, 1) := by decide +kernel
theorem dX1_newestRow_24 : decode cX1_newestRow 24 = .ok (.getfield 17, 3) := by decide +kernel
theorem dX1_newestRow_27 : decode cX1_newestRow 27 = .ok (.aaload, 1) := by decide +kernel
theorem dX1_newestRow_28 : decode cX1_newestRow 28 = .ok (.goto 4, 3) := by decide +kernel
theorem dX1_newestRow_31 : decode cX1_newestRow 31 = .ok (.aconst_null, 1) := by decide +kernel
theorem dX1_newestRow_32 : decode cX1_newestRow 32 = .ok (.areturn, 1) := by decide +kernel
theorem dX1_save_0 : decode cX1_save 0 = .ok (.aload_n 0, 1) := by decide +kernel
theorem dX1_save_1 : decode cX1_save 1 = .ok (.aload_n 0, 1) := by decide +kernel
theorem dX1_save_2 : decode cX1_save 2 = .ok (.getfield 17, 3) := by decide +kernel
theorem dX1_save_5 : decode cX1_save 5 = .ok (.iconst 1, 1) := by decide +kernel
theorem dX1_save_6 : decode cX1_save 6 = .ok (.iadd, 1) := by decide +kernel
theorem dX1_save_7 : decode cX1_save 7 = .ok (.bipush 6, 2) := by decide +kernel
theorem dX1_save_9 : decode cX1_save 9 = .ok (.if_icmp .ge 12, 3) := by decide +kernel
theorem dX1_save_12 : decode cX1_save 12 = .ok (.aload_n 0, 1) := by decide +kernel
theorem dX1_save_13 : decode cX1_save 13 = .ok (.getfield 17, 3) := by decide +kernel
theorem dX1_save_16 : decode cX1_save 16 = .ok (.iconst 1, 1) := by decide +kernel
theorem dX1_save_17 : decode cX1_save 17 = .ok (.iadd, 1) := by decide +kernel
theorem dX1_save_18 : decode cX1_save 18 = .ok (.goto 4, 3) := by decide +kernel
theorem dX1_save_21 : decode cX1_save 21 = .ok (.iconst 0, 1) := by decide +kernel
theorem dX1_save_22 : decode cX1_save 22 = .ok (.putfield 17, 3) := by decide +kernel
theorem dX1_save_25 : decode cX1_save 25 = .ok (.aload_n 0, 1) := by decide +kernel
theorem dX1_save_26 : decode cX1_save 26 = .ok (.aload_n 0, 1) := by decide +kernel
theorem dX1_save_27 : decode cX1_save 27 = .ok (.getfield 21, 3) := by decide +kernel
theorem dX1_save_30 : decode cX1_save 30 = .ok (.iconst 1, 1) := by decide +kernel
theorem dX1_save_31 : decode cX1_save 31 = .ok (.iadd, 1) := by decide +kernel
theorem dX1_save_32 : decode cX1_save 32 = .ok (.bipush 6, 2) := by decide +kernel
theorem dX1_save_34 : decode cX1_save 34 = .ok (.invokestatic 25, 3) := by decide +kernel
theorem dX1_save_37 : decode cX1_save 37 = .ok (.putfield 21, 3) := by decide +kernel
theorem dX1_save_40 : decode cX1_save 40 = .ok (.aload_n 0, 1) := by decide +kernel
theorem dX1_save_41 : decode cX1_save 41 = .ok (.invokevirtual 31, 3) := by decide +kernel
theorem dX1_save_44 : decode cX1_save 44 = .ok (.astore_n 2, 1) := by decide +kernel
theorem dX1_save_45 : decode cX1_save 45 = .ok (.aload_n 2, 1) := by decide +kernel
theorem dX1_save_46 : decode cX1_save 46 = .ok (.ifnull 8, 3) := by decide +kernel
theorem dX1_save_49 : decode cX1_save 49 = .ok (.aload_n 2, 1) := by decide +kernel
theorem dX1_save_50 : decode cX1_save 50 = .ok (.aload_n 1, 1) := by decide +kernel
theorem dX1_save_51 : decode cX1_save 51 = .ok (.invokevirtual 35, 3) := by decide +kernel
theorem dX1_save_54 : decode cX1_save 54 = .ok (.return_, 1) := by decide +kernel
theorem dX2_init_0 : decode cX2_init 0 = .ok (.aload_n 0, 1) := by decide +kernel
theorem dX2_init_1 : decode cX2_init 1 = .ok (.invokespecial 3, 3) := by decide +kernel
theorem dX2_init_4 : decode cX2_init 4 = .ok (.aload_n 0, 1) := by decide +kernel
theorem dX2_init_5 : decode cX2_init 5 = .ok (.iconst 0, 1) := by decide +kernel
theorem dX2_init_6 : decode cX2_init 6 = .ok (.putfield 11, 3) := by decide +kernel
theorem dX2_init_9 : decode cX2_init 9 = .ok (.aload_n 0, 1) := by decide +kernel
theorem dX2_init_10 : decode cX2_init 10 = .ok (.iconst 0, 1) := by decide +kernel
theorem dX2_init_11 : decode cX2_init 11 = .ok (.putfield 15, 3) := by decide +kernel
theorem dX2_init_14 : decode cX2_init 14 = .ok (.aload_n 0, 1) := by decide +kernel
theorem dX2_init_15 : decode cX2_init 15 = .ok (.iconst 0, 1) := by decide +kernel
theorem dX2_init_16 : decode cX2_init 16 = .ok (.putfield 18, 3) := by decide +kernel
theorem dX2_init_19 : decode cX2_init 19 = .ok (.aload_n 0, 1) := by decide +kernel
theorem dX2_init_20 : decode cX2_init 20 = .ok (.iconst 0, 1) := by decide +kernel
theorem dX2_init_21 : decode cX2_init 21 = .ok (.putfield 21, 3) := by decide +kernel
theorem dX2_init_24 : decode cX2_init 24 = .ok (.return_, 1) := by decide +kernel
theorem dX3_init_0 : decode cX3_init 0 = .ok (.aload_n 0, 1) := by decide +kernel
theorem dX3_init_1 : decode cX3_init 1 = .ok (.invokespecial 1, 3) := by decide +kernel
theorem dX3_init_4 : decode cX3_init 4 = .ok (.aload_n 0, 1) := by decide +kernel
theorem dX3_init_5 : decode cX3_init 5 = .ok (.iconst 3, 1) := by decide +kernel
theorem dX3_init_6 : decode cX3_init 6 = .ok (.putfield 7, 3) := by decide +kernel
theorem dX3_init_9 : decode cX3_init 9 = .ok (.aload_n 0, 1) := by decide +kernel
theorem dX3_init_10 : decode cX3_init 10 = .ok (.bipush 10, 2) := by decide +kernel
theorem dX3_init_12 : decode cX3_init 12 = .ok (.putfield 13, 3) := by decide +kernel
theorem dX3_init_15 : decode cX3_init 15 = .ok (.aload_n 0, 1) := by decide +kernel
theorem dX3_init_16 : decode cX3_init 16 = .ok (.bipush 40, 2) := by decide +kernel
theorem dX3_init_18 : decode cX3_init 18 = .ok (.putfield 16, 3) := by decide +kernel
theorem dX3_init_21 : decode cX3_init 21 = .ok (.aload_n 0, 1) := by decide +kernel
theorem dX3_init_22 : decode cX3_init 22 = .ok (.iconst 1, 1) := by decide +kernel
theorem dX3_init_23 : decode cX3_init 23 = .ok (.putfield 19, 3) := by decide +kernel
theorem dX3_init_26 : decode cX3_init 26 = .ok (.aload_n 0, 1) := by decide +kernel
theorem dX3_init_27 : decode cX3_init 27 = .ok (.bipush 12, 2) := by decide +kernel
theorem dX3_init_29 : decode cX3_init 29 = .ok (.putfield 22, 3) := by decide +kernel
theorem dX3_init_32 : decode cX3_init 32 = .ok (.aload_n 0, 1) := by decide +kernel
theorem dX3_init_33 : decode cX3_init 33 = .ok (.bipush 15, 2) := by decide +kernel
theorem dX3_init_35 : decode cX3_init 35 = .ok (.putfield 25, 3) := by decide +kernel
theorem dX3_init_38 : decode cX3_init 38 = .ok (.return_, 1) := by decide +kernel
theorem dX3_valueOf_0 : decode cX3_valueOf 0 = .ok (.iload_n 1, 1) := by decide +kernel
theorem dX3_valueOf_1 : decode cX3_valueOf 1 = .ok (.tableswitch 60 0 4 #[35, 40, 45, 50, 55], 35) := by decide +kernel
theorem dX3_valueOf_36 : decode cX3_valueOf 36 = .ok (.aload_n 0, 1) := by decide +kernel
theorem dX3_valueOf_37 : decode cX3_valueOf 37 = .ok (.getfield 7, 3) := by decide +kernel
theorem dX3_valueOf_40 : decode cX3_valueOf 40 = .ok (.ireturn, 1) := by decide +kernel
theorem dX3_valueOf_41 : decode cX3_valueOf 41 = .ok (.aload_n 0, 1) := by decide +kernel
theorem dX3_valueOf_42 : decode cX3_valueOf 42 = .ok (.getfield 13, 3) := by decide +kernel
theorem dX3_valueOf_45 : decode cX3_valueOf 45 = .ok (.ireturn, 1) := by decide +kernel
theorem dX3_valueOf_46 : decode cX3_valueOf 46 = .ok (.aload_n 0, 1) := by decide +kernel
theorem dX3_valueOf_47 : decode cX3_valueOf 47 = .ok (.getfield 16, 3) := by decide +kernel
theorem dX3_valueOf_50 : decode cX3_valueOf 50 = .ok (.ireturn, 1) := by decide +kernel
theorem dX3_valueOf_51 : decode cX3_valueOf 51 = .ok (.aload_n 0, 1) := by decide +kernel
theorem dX3_valueOf_52 : decode cX3_valueOf 52 = .ok (.getfield 19, 3) := by decide +kernel
theorem dX3_valueOf_55 : decode cX3_valueOf 55 = .ok (.ireturn, 1) := by decide +kernel
theorem dX3_valueOf_56 : decode cX3_valueOf 56 = .ok (.aload_n 0, 1) := by decide +kernel
theorem dX3_valueOf_57 : decode cX3_valueOf 57 = .ok (.getfield 22, 3) := by decide +kernel
theorem dX3_valueOf_60 : decode cX3_valueOf 60 = .ok (.ireturn, 1) := by decide +kernel
theorem dX3_valueOf_61 : decode cX3_valueOf 61 = .ok (.aload_n 0, 1) := by decide +kernel
theorem dX3_valueOf_62 : decode cX3_valueOf 62 = .ok (.getfield 25, 3) := by decide +kernel
theorem dX3_valueOf_65 : decode cX3_valueOf 65 = .ok (.ireturn, 1) := by decide +kernel
theorem dX3_put_0 : decode cX3_put 0 = .ok (.iload_n 1, 1) := by decide +kernel
theorem dX3_put_1 : decode cX3_put 1 = .ok (.tableswitch 75 0 4 #[35, 43, 51, 59, 67], 35) := by decide +kernel
theorem dX3_put_36 : decode cX3_put 36 = .ok (.aload_n 0, 1) := by decide +kernel
theorem dX3_put_37 : decode cX3_put 37 = .ok (.iload_n 2, 1) := by decide +kernel
theorem dX3_put_38 : decode cX3_put 38 = .ok (.putfield 7, 3) := by decide +kernel
theorem dX3_put_41 : decode cX3_put 41 = .ok (.goto 40, 3) := by decide +kernel
theorem dX3_put_44 : decode cX3_put 44 = .ok (.aload_n 0, 1) := by decide +kernel
theorem dX3_put_45 : decode cX3_put 45 = .ok (.iload_n 2, 1) := by decide +kernel
theorem dX3_put_46 : decode cX3_put 46 = .ok (.putfield 13, 3) := by decide +kernel
theorem dX3_put_49 : decode cX3_put 49 = .ok (.goto 32, 3) := by decide +kernel
theorem dX3_put_52 : decode cX3_put 52 = .ok (.aload_n 0, 1) := by decide +kernel
theorem dX3_put_53 : decode cX3_put 53 = .ok (.iload_n 2, 1) := by decide +kernel
theorem dX3_put_54 : decode cX3_put 54 = .ok (.putfield 16, 3) := by decide +kernel
theorem dX3_put_57 : decode cX3_put 57 = .ok (.goto 24, 3) := by decide +kernel
theorem dX3_put_60 : decode cX3_put 60 = .ok (.aload_n 0, 1) := by decide +kernel
theorem dX3_put_61 : decode cX3_put 61 = .ok (.iload_n 2, 1) := by decide +kernel
theorem dX3_put_62 : decode cX3_put 62 = .ok (.putfield 19, 3) := by decide +kernel
theorem dX3_put_65 : decode cX3_put 65 = .ok (.goto 16, 3) := by decide +kernel
theorem dX3_put_68 : decode cX3_put 68 = .ok (.aload_n 0, 1) := by decide +kernel
theorem dX3_put_69 : decode cX3_put 69 = .ok (.iload_n 2, 1) := by decide +kernel
theorem dX3_put_70 : decode cX3_put 70 = .ok (.putfield 22, 3) := by decide +kernel
theorem dX3_put_73 : decode cX3_put 73 = .ok (.goto 8, 3) := by decide +kernel
theorem dX3_put_76 : decode cX3_put 76 = .ok (.aload_n 0, 1) := by decide +kernel
theorem dX3_put_77 : decode cX3_put 77 = .ok (.iload_n 2, 1) := by decide +kernel
theorem dX3_put_78 : decode cX3_put 78 = .ok (.putfield 25, 3) := by decide +kernel
theorem dX3_put_81 : decode cX3_put 81 = .ok (.return_, 1) := by decide +kernel
theorem dX3_copyFrom_0 : decode cX3_copyFrom 0 = .ok (.aload_n 0, 1) := by decide +kernel
theorem dX3_copyFrom_1 : decode cX3_copyFrom 1 = .ok (.aload_n 1, 1) := by decide +kernel
theorem dX3_copyFrom_2 : decode cX3_copyFrom 2 = .ok (.getfield 7, 3) := by decide +kernel
theorem dX3_copyFrom_5 : decode cX3_copyFrom 5 = .ok (.putfield 7, 3) := by decide +kernel
theorem dX3_copyFrom_8 : decode cX3_copyFrom 8 = .ok (.aload_n 0, 1) := by decide +kernel
theorem dX3_copyFrom_9 : decode cX3_copyFrom 9 = .ok (.aload_n 1, 1) := by decide +kernel
theorem dX3_copyFrom_10 : decode cX3_copyFrom 10 = .ok (.getfield 13, 3) := by decide +kernel
theorem dX3_copyFrom_13 : decode cX3_copyFrom 13 = .ok (.putfield 13, 3) := by decide +kernel
theorem dX3_copyFrom_16 : decode cX3_copyFrom 16 = .ok (.aload_n 0, 1) := by decide +kernel
theorem dX3_copyFrom_17 : decode cX3_copyFrom 17 = .ok (.aload_n 1, 1) := by decide +kernel
theorem dX3_copyFrom_18 : decode cX3_copyFrom 18 = .ok (.getfield 16, 3) := by decide +kernel
theorem dX3_copyFrom_21 : decode cX3_copyFrom 21 = .ok (.putfield 16, 3) := by decide +kernel
theorem dX3_copyFrom_24 : decode cX3_copyFrom 24 = .ok (.aload_n 0, 1) := by decide +kernel
theorem dX3_copyFrom_25 : decode cX3_copyFrom 25 = .ok (.aload_n 1, 1) := by decide +kernel
theorem dX3_copyFrom_26 : decode cX3_copyFrom 26 = .ok (.getfield 19, 3) := by decide +kernel
theorem dX3_copyFrom_29 : decode cX3_copyFrom 29 = .ok (.putfield 19, 3) := by decide +kernel
theorem dX3_copyFrom_32 : decode cX3_copyFrom 32 = .ok (.aload_n 0, 1) := by decide +kernel
theorem dX3_copyFrom_33 : decode cX3_copyFrom 33 = .ok (.aload_n 1, 1) := by decide +kernel
theorem dX3_copyFrom_34 : decode cX3_copyFrom 34 = .ok (.getfield 22, 3) := by decide +kernel
theorem dX3_copyFrom_37 : decode cX3_copyFrom 37 = .ok (.putfield 22, 3) := by decide +kernel
theorem dX3_copyFrom_40 : decode cX3_copyFrom 40 = .ok (.aload_n 0, 1) := by decide +kernel
theorem dX3_copyFrom_41 : decode cX3_copyFrom 41 = .ok (.aload_n 1, 1) := by decide +kernel
theorem dX3_copyFrom_42 : decode cX3_copyFrom 42 = .ok (.getfield 25, 3) := by decide +kernel
theorem dX3_copyFrom_45 : decode cX3_copyFrom 45 = .ok (.putfield 25, 3) := by decide +kernel
theorem dX3_copyFrom_48 : decode cX3_copyFrom 48 = .ok (.return_, 1) := by decide +kernel
theorem dX4_init_0 : decode cX4_init 0 = .ok (.aload_n 0, 1) := by decide +kernel
theorem dX4_init_1 : decode cX4_init 1 = .ok (.invokespecial 3, 3) := by decide +kernel
theorem dX4_init_4 : decode cX4_init 4 = .ok (.aload_n 0, 1) := by decide +kernel
theorem dX4_init_5 : decode cX4_init 5 = .ok (.new 9, 3) := by decide +kernel
theorem dX4_init_8 : decode cX4_init 8 = .ok (.dup, 1) := by decide +kernel
theorem dX4_init_9 : decode cX4_init 9 = .ok (.invokespecial 11, 3) := by decide +kernel
theorem dX4_init_12 : decode cX4_init 12 = .ok (.putfield 12, 3) := by decide +kernel
theorem dX4_init_15 : decode cX4_init 15 = .ok (.aload_n 0, 1) := by decide +kernel
theorem dX4_init_16 : decode cX4_init 16 = .ok (.iconst 4, 1) := by decide +kernel
theorem dX4_init_17 : decode cX4_init 17 = .ok (.anewarray 18, 3) := by decide +kernel
theorem dX4_init_20 : decode cX4_init 20 = .ok (.putfield 20, 3) := by decide +kernel
theorem dX4_init_23 : decode cX4_init 23 = .ok (.aload_n 0, 1) := by decide +kernel
theorem dX4_init_24 : decode cX4_init 24 = .ok (.sipush 1000, 3) := by decide +kernel
theorem dX4_init_27 : decode cX4_init 27 = .ok (.putfield 24, 3) := by decide +kernel
theorem dX4_init_30 : decode cX4_init 30 = .ok (.aload_n 0, 1) := by decide +kernel
theorem dX4_init_31 : decode cX4_init 31 = .ok (.iconst 0, 1) := by decide +kernel
theorem dX4_init_32 : decode cX4_init 32 = .ok (.putfield 28, 3) := by decide +kernel
theorem dX4_init_35 : decode cX4_init 35 = .ok (.iconst 0, 1) := by decide +kernel
theorem dX4_init_36 : decode cX4_init 36 = .ok (.istore_n 1, 1) := by decide +kernel
theorem dX4_init_37 : decode cX4_init 37 = .ok (.iload_n 1, 1) := by decide +kernel
theorem dX4_init_38 : decode cX4_init 38 = .ok (.aload_n 0, 1) := by decide +kernel
theorem dX4_init_39 : decode cX4_init 39 = .ok (.getfield 20, 3) := by decide +kernel
theorem dX4_init_42 : decode cX4_init 42 = .ok (.arraylength, 1) := by decide +kernel
theorem dX4_init_43 : decode cX4_init 43 = .ok (.if_icmp .ge 22, 3) := by decide +kernel
theorem dX4_init_46 : decode cX4_init 46 = .ok (.aload_n 0, 1) := by decide +kernel
theorem dX4_init_47 : decode cX4_init 47 = .ok (.getfield 20, 3) := by decide +kernel
theorem dX4_init_50 : decode cX4_init 50 = .ok (.iload_n 1, 1) := by decide +kernel
theorem dX4_init_51 : decode cX4_init 51 = .ok (.new 18, 3) := by decide +kernel
theorem dX4_init_54 : decode cX4_init 54 = .ok (.dup, 1) := by decide +kernel
theorem dX4_init_55 : decode cX4_init 55 = .ok (.invokespecial 31, 3) := by decide +kernel
theorem dX4_init_58 : decode cX4_init 58 = .ok (.aastore, 1) := by decide +kernel
theorem dX4_init_59 : decode cX4_init 59 = .ok (.iinc 1 1, 3) := by decide +kernel
theorem dX4_init_62 : decode cX4_init 62 = .ok (.goto (-25), 3) := by decide +kernel
theorem dX4_init_65 : decode cX4_init 65 = .ok (.return_, 1) := by decide +kernel
theorem dX4_gearAt_0 : decode cX4_gearAt 0 = .ok (.iload_n 1, 1) := by decide +kernel
theorem dX4_gearAt_1 : decode cX4_gearAt 1 = .ok (.ifCond .lt 21, 3) := by decide +kernel
theorem dX4_gearAt_4 : decode cX4_gearAt 4 = .ok (.iload_n 1, 1) := by decide +kernel
theorem dX4_gearAt_5 : decode cX4_gearAt 5 = .ok (.aload_n 0, 1) := by decide +kernel
theorem dX4_gearAt_6 : decode cX4_gearAt 6 = .ok (.getfield 20, 3) := by decide +kernel
theorem dX4_gearAt_9 : decode cX4_gearAt 9 = .ok (.arraylength, 1) := by decide +kernel
theorem dX4_gearAt_10 : decode cX4_gearAt 10 = .ok (.if_icmp .ge 12, 3) := by decide +kernel
theorem dX4_gearAt_13 : decode cX4_gearAt 13 = .ok (.aload_n 0, 1) := by decide +kernel
theorem dX4_gearAt_14 : decode cX4_gearAt 14 = .ok (.getfield 20, 3) := by decide +kernel
theorem dX4_gearAt_17 : decode cX4_gearAt 17 = .ok (.iload_n 1, 1) := by decide +kernel
theorem dX4_gearAt_18 : decode cX4_gearAt 18 = .ok (.aaload, 1) := by decide +kernel
theorem dX4_gearAt_19 : decode cX4_gearAt 19 = .ok (.goto 4, 3) := by decide +kernel
theorem dX4_gearAt_22 : decode cX4_gearAt 22 = .ok (.aconst_null, 1) := by decide +kernel
theorem dX4_gearAt_23 : decode cX4_gearAt 23 = .ok (.areturn, 1) := by decide +kernel
theorem dX4_payCare_0 : decode cX4_payCare 0 = .ok (.aload_n 0, 1) := by decide +kernel
theorem dX4_payCare_1 : decode cX4_payCare 1 = .ok (.dup, 1) := by decide +kernel
theorem dX4_payCare_2 : decode cX4_payCare 2 = .ok (.getfield 24, 3) := by decide +kernel
theorem dX4_payCare_5 : decode cX4_payCare 5 = .ok (.iload_n 1, 1) := by decide +kernel
theorem dX4_payCare_6 : decode cX4_payCare 6 = .ok (.isub, 1) := by decide +kernel
theorem dX4_payCare_7 : decode cX4_payCare 7 = .ok (.putfield 24, 3) := by decide +kernel
theorem dX4_payCare_10 : decode cX4_payCare 10 = .ok (.aload_n 0, 1) := by decide +kernel
theorem dX4_payCare_11 : decode cX4_payCare 11 = .ok (.dup, 1) := by decide +kernel
theorem dX4_payCare_12 : decode cX4_payCare 12 = .ok (.getfield 28, 3) := by decide +kernel
theorem dX4_payCare_15 : decode cX4_payCare 15 = .ok (.iload_n 1, 1) := by decide +kernel
theorem dX4_payCare_16 : decode cX4_payCare 16 = .ok (.iadd, 1) := by decide +kernel
theorem dX4_payCare_17 : decode cX4_payCare 17 = .ok (.putfield 28, 3) := by decide +kernel
theorem dX4_payCare_20 : decode cX4_payCare 20 = .ok (.return_, 1) := by decide +kernel
theorem dX4_sumOf_0 : decode cX4_sumOf 0 = .ok (.iconst 0, 1) := by decide +kernel
theorem dX4_sumOf_1 : decode cX4_sumOf 1 = .ok (.istore_n 2, 1) := by decide +kernel
theorem dX4_sumOf_2 : decode cX4_sumOf 2 = .ok (.iconst 0, 1) := by decide +kernel
theorem dX4_sumOf_3 : decode cX4_sumOf 3 = .ok (.istore_n 3, 1) := by decide +kernel
theorem dX4_sumOf_4 : decode cX4_sumOf 4 = .ok (.iload_n 3, 1) := by decide +kernel
theorem dX4_sumOf_5 : decode cX4_sumOf 5 = .ok (.iconst 4, 1) := by decide +kernel
theorem dX4_sumOf_6 : decode cX4_sumOf 6 = .ok (.if_icmp .ge 30, 3) := by decide +kernel
theorem dX4_sumOf_9 : decode cX4_sumOf 9 = .ok (.aload_n 0, 1) := by decide +kernel
theorem dX4_sumOf_10 : decode cX4_sumOf 10 = .ok (.iload_n 3, 1) := by decide +kernel
theorem dX4_sumOf_11 : decode cX4_sumOf 11 = .ok (.invokevirtual 32, 3) := by decide +kernel
theorem dX4_sumOf_14 : decode cX4_sumOf 14 = .ok (.astore 4, 2) := by decide +kernel
theorem dX4_sumOf_16 : decode cX4_sumOf 16 = .ok (.aload 4, 2) := by decide +kernel
theorem dX4_sumOf_18 : decode cX4_sumOf 18 = .ok (.ifnull 12, 3) := by decide +kernel
theorem dX4_sumOf_21 : decode cX4_sumOf 21 = .ok (.iload_n 2, 1) := by decide +kernel
theorem dX4_sumOf_22 : decode cX4_sumOf 22 = .ok (.aload 4, 2) := by decide +kernel
theorem dX4_sumOf_24 : decode cX4_sumOf 24 = .ok (.iload_n 1, 1) := by decide +kernel
theorem dX4_sumOf_25 : decode cX4_sumOf 25 = .ok (.invokevirtual 36, 3) := by decide +kernel
theorem dX4_sumOf_28 : decode cX4_sumOf 28 = .ok (.iadd, 1) := by decide +kernel
theorem dX4_sumOf_29 : decode cX4_sumOf 29 = .ok (.istore_n 2, 1) := by decide +kernel
theorem dX4_sumOf_30 : decode cX4_sumOf 30 = .ok (.iinc 3 1, 3) := by decide +kernel
theorem dX4_sumOf_33 : decode cX4_sumOf 33 = .ok (.goto (-29), 3) := by decide +kernel
theorem dX4_sumOf_36 : decode cX4_sumOf 36 = .ok (.iload_n 2, 1) := by decide +kernel
theorem dX4_sumOf_37 : decode cX4_sumOf 37 = .ok (.ireturn, 1) := by decide +kernel
theorem dX4_wearOfAll_0 : decode cX4_wearOfAll 0 = .ok (.iconst 0, 1) := by decide +kernel
theorem dX4_wearOfAll_1 : decode cX4_wearOfAll 1 = .ok (.istore_n 1, 1) := by decide +kernel
theorem dX4_wearOfAll_2 : decode cX4_wearOfAll 2 = .ok (.iconst 0, 1) := by decide +kernel
theorem dX4_wearOfAll_3 : decode cX4_wearOfAll 3 = .ok (.istore_n 2, 1) := by decide +kernel
theorem dX4_wearOfAll_4 : decode cX4_wearOfAll 4 = .ok (.iload_n 2, 1) := by decide +kernel
theorem dX4_wearOfAll_5 : decode cX4_wearOfAll 5 = .ok (.iconst 4, 1) := by decide +kernel
theorem dX4_wearOfAll_6 : decode cX4_wearOfAll 6 = .ok (.if_icmp .ge 44, 3) := by decide +kernel
theorem dX4_wearOfAll_9 : decode cX4_wearOfAll 9 = .ok (.aload_n 0, 1) := by decide +kernel
theorem dX4_wearOfAll_10 : decode cX4_wearOfAll 10 = .ok (.iload_n 2, 1) := by decide +kernel
theorem dX4_wearOfAll_11 : decode cX4_wearOfAll 11 = .ok (.invokevirtual 32, 3) := by decide +kernel
theorem dX4_wearOfAll_14 : decode cX4_wearOfAll 14 = .ok (.astore_n 3, 1) := by decide +kernel
theorem dX4_wearOfAll_15 : decode cX4_wearOfAll 15 = .ok (.iconst 0, 1) := by decide +kernel
theorem dX4_wearOfAll_16 : decode cX4_wearOfAll 16 = .ok (.istore 4, 2) := by decide +kernel
theorem dX4_wearOfAll_18 : decode cX4_wearOfAll 18 = .ok (.iload 4, 2) := by decide +kernel
theorem dX4_wearOfAll_20 : decode cX4_wearOfAll 20 = .ok (.bipush 24, 2) := by decide +kernel
theorem dX4_wearOfAll_22 : decode cX4_wearOfAll 22 = .ok (.if_icmp .ge 22, 3) := by decide +kernel
theorem dX4_wearOfAll_25 : decode cX4_wearOfAll 25 = .ok (.aload_n 3, 1) := by decide +kernel
theorem dX4_wearOfAll_26 : decode cX4_wearOfAll 26 = .ok (.ifnull 18, 3) := by decide +kernel
theorem dX4_wearOfAll_29 : decode cX4_wearOfAll 29 = .ok (.iload_n 1, 1) := by decide +kernel
theorem dX4_wearOfAll_30 : decode cX4_wearOfAll 30 = .ok (.aload_n 3, 1) := by decide +kernel
theorem dX4_wearOfAll_31 : decode cX4_wearOfAll 31 = .ok (.iload 4, 2) := by decide +kernel
theorem dX4_wearOfAll_33 : decode cX4_wearOfAll 33 = .ok (.invokevirtual 40, 3) := by decide +kernel
theorem dX4_wearOfAll_36 : decode cX4_wearOfAll 36 = .ok (.iadd, 1) := by decide +kernel
theorem dX4_wearOfAll_37 : decode cX4_wearOfAll 37 = .ok (.istore_n 1, 1) := by decide +kernel
theorem dX4_wearOfAll_38 : decode cX4_wearOfAll 38 = .ok (.iinc 4 1, 3) := by decide +kernel
theorem dX4_wearOfAll_41 : decode cX4_wearOfAll 41 = .ok (.goto (-23), 3) := by decide +kernel
theorem dX4_wearOfAll_44 : decode cX4_wearOfAll 44 = .ok (.iinc 2 1, 3) := by decide +kernel
theorem dX4_wearOfAll_47 : decode cX4_wearOfAll 47 = .ok (.goto (-43), 3) := by decide +kernel
theorem dX4_wearOfAll_50 : decode cX4_wearOfAll 50 = .ok (.iload_n 1, 1) := by decide +kernel
theorem dX4_wearOfAll_51 : decode cX4_wearOfAll 51 = .ok (.ireturn, 1) := by decide +kernel
theorem dX4_teethWornTo_0 : decode cX4_teethWornTo 0 = .ok (.iconst 0, 1) := by decide +kernel
theorem dX4_teethWornTo_1 : decode cX4_teethWornTo 1 = .ok (.istore_n 2, 1) := by decide +kernel
theorem dX4_teethWornTo_2 : decode cX4_teethWornTo 2 = .ok (.iconst 0, 1) := by decide +kernel
theorem dX4_teethWornTo_3 : decode cX4_teethWornTo 3 = .ok (.istore_n 3, 1) := by decide +kernel
theorem dX4_teethWornTo_4 : decode cX4_teethWornTo 4 = .ok (.iload_n 3, 1) := by decide +kernel
theorem dX4_teethWornTo_5 : decode cX4_teethWornTo 5 = .ok (.iconst 4, 1) := by decide +kernel
theorem dX4_teethWornTo_6 : decode cX4_teethWornTo 6 = .ok (.if_icmp .ge 51, 3) := by decide +kernel
theorem dX4_teethWornTo_9 : decode cX4_teethWornTo 9 = .ok (.aload_n 0, 1) := by decide +kernel
theorem dX4_teethWornTo_10 : decode cX4_teethWornTo 10 = .ok (.iload_n 3, 1) := by decide +kernel
theorem dX4_teethWornTo_11 : decode cX4_teethWornTo 11 = .ok (.invokevirtual 32, 3) := by decide +kernel
theorem dX4_teethWornTo_14 : decode cX4_teethWornTo 14 = .ok (.astore 4, 2) := by decide +kernel
theorem dX4_teethWornTo_16 : decode cX4_teethWornTo 16 = .ok (.iconst 0, 1) := by decide +kernel
theorem dX4_teethWornTo_17 : decode cX4_teethWornTo 17 = .ok (.istore 5, 2) := by decide +kernel
theorem dX4_teethWornTo_19 : decode cX4_teethWornTo 19 = .ok (.iload 5, 2) := by decide +kernel
theorem dX4_teethWornTo_21 : decode cX4_teethWornTo 21 = .ok (.bipush 24, 2) := by decide +kernel
theorem dX4_teethWornTo_23 : decode cX4_teethWornTo 23 = .ok (.if_icmp .ge 28, 3) := by decide +kernel
theorem dX4_teethWornTo_26 : decode cX4_teethWornTo 26 = .ok (.aload 4, 2) := by decide +kernel
theorem dX4_teethWornTo_28 : decode cX4_teethWornTo 28 = .ok (.ifnull 23, 3) := by decide +kernel
theorem dX4_teethWornTo_31 : decode cX4_teethWornTo 31 = .ok (.aload 4, 2) := by decide +kernel
theorem dX4_teethWornTo_33 : decode cX4_teethWornTo 33 = .ok (.iload 5, 2) := by decide +kernel
theorem dX4_teethWornTo_35 : decode cX4_teethWornTo 35 = .ok (.invokevirtual 40, 3) := by decide +kernel
theorem dX4_teethWornTo_38 : decode cX4_teethWornTo 38 = .ok (.iload_n 1, 1) := by decide +kernel
theorem dX4_teethWornTo_39 : decode cX4_teethWornTo 39 = .ok (.if_icmp .lt 6, 3) := by decide +kernel
theorem dX4_teethWornTo_42 : decode cX4_teethWornTo 42 = .ok (.iinc 2 1, 3) := by decide +kernel
theorem dX4_teethWornTo_45 : decode cX4_teethWornTo 45 = .ok (.iinc 5 1, 3) := by decide +kernel
theorem dX4_teethWornTo_48 : decode cX4_teethWornTo 48 = .ok (.goto (-29), 3) := by decide +kernel
theorem dX4_teethWornTo_51 : decode cX4_teethWornTo 51 = .ok (.iinc 3 1, 3) := by decide +kernel
theorem dX4_teethWornTo_54 : decode cX4_teethWornTo 54 = .ok (.goto (-50), 3) := by decide +kernel
theorem dX4_teethWornTo_57 : decode cX4_teethWornTo 57 = .ok (.iload_n 2, 1) := by decide +kernel
theorem dX4_teethWornTo_58 : decode cX4_teethWornTo 58 = .ok (.ireturn, 1) := by decide +kernel
theorem dX4_axesWhereBelieved_0 : decode cX4_axesWhereBelieved 0 = .ok (.iconst 0, 1) := by decide +kernel
theorem dX4_axesWhereBelieved_1 : decode cX4_axesWhereBelieved 1 = .ok (.istore_n 1, 1) := by decide +kernel
theorem dX4_axesWhereBelieved_2 : decode cX4_axesWhereBelieved 2 = .ok (.iconst 0, 1) := by decide +kernel
theorem dX4_axesWhereBelieved_3 : decode cX4_axesWhereBelieved 3 = .ok (.istore_n 2, 1) := by decide +kernel
theorem dX4_axesWhereBelieved_4 : decode cX4_axesWhereBelieved 4 = .ok (.iload_n 2, 1) := by decide +kernel
theorem dX4_axesWhereBelieved_5 : decode cX4_axesWhereBelieved 5 = .ok (.iconst 4, 1) := by decide +kernel
theorem dX4_axesWhereBelieved_6 : decode cX4_axesWhereBelieved 6 = .ok (.if_icmp .ge 33, 3) := by decide +kernel
theorem dX4_axesWhereBelieved_9 : decode cX4_axesWhereBelieved 9 = .ok (.aload_n 0, 1) := by decide +kernel
theorem dX4_axesWhereBelieved_10 : decode cX4_axesWhereBelieved 10 = .ok (.iload_n 2, 1) := by decide +kernel
theorem dX4_axesWhereBelieved_11 : decode cX4_axesWhereBelieved 11 = .ok (.invokevirtual 32, 3) := by decide +kernel
theorem dX4_axesWhereBelieved_14 : decode cX4_axesWhereBelieved 14 = .ok (.astore_n 3, 1) := by decide +kernel
theorem dX4_axesWhereBelieved_15 : decode cX4_axesWhereBelieved 15 = .ok (.aload_n 3, 1) := by decide +kernel
theorem dX4_axesWhereBelieved_16 : decode cX4_axesWhereBelieved 16 = .ok (.ifnull 17, 3) := by decide +kernel
theorem dX4_axesWhereBelieved_19 : decode cX4_axesWhereBelieved 19 = .ok (.aload_n 3, 1) := by decide +kernel
theorem dX4_axesWhereBelieved_20 : decode cX4_axesWhereBelieved 20 = .ok (.getfield 43, 3) := by decide +kernel
theorem dX4_axesWhereBelieved_23 : decode cX4_axesWhereBelieved 23 = .ok (.aload_n 3, 1) := by decide +kernel
theorem dX4_axesWhereBelieved_24 : decode cX4_axesWhereBelieved 24 = .ok (.getfield 46, 3) := by decide +kernel
theorem dX4_axesWhereBelieved_27 : decode cX4_axesWhereBelieved 27 = .ok (.if_icmp .ne 6, 3) := by decide +kernel
theorem dX4_axesWhereBelieved_30 : decode cX4_axesWhereBelieved 30 = .ok (.iinc 1 1, 3) := by decide +kernel
theorem dX4_axesWhereBelieved_33 : decode cX4_axesWhereBelieved 33 = .ok (.iinc 2 1, 3) := by decide +kernel
theorem dX4_axesWhereBelieved_36 : decode cX4_axesWhereBelieved 36 = .ok (.goto (-32), 3) := by decide +kernel
theorem dX4_axesWhereBelieved_39 : decode cX4_axesWhereBelieved 39 = .ok (.iload_n 1, 1) := by decide +kernel
theorem dX4_axesWhereBelieved_40 : decode cX4_axesWhereBelieved 40 = .ok (.ireturn, 1) := by decide +kernel
theorem dX4_copyFrom_0 : decode cX4_copyFrom 0 = .ok (.aload_n 0, 1) := by decide +kernel
theorem dX4_copyFrom_1 : decode cX4_copyFrom 1 = .ok (.getfield 12, 3) := by decide +kernel
theorem dX4_copyFrom_4 : decode cX4_copyFrom 4 = .ok (.aload_n 1, 1) := by decide +kernel
theorem dX4_copyFrom_5 : decode cX4_copyFrom 5 = .ok (.getfield 12, 3) := by decide +kernel
theorem dX4_copyFrom_8 : decode cX4_copyFrom 8 = .ok (.invokevirtual 49, 3) := by decide +kernel
theorem dX4_copyFrom_11 : decode cX4_copyFrom 11 = .ok (.aload_n 0, 1) := by decide +kernel
theorem dX4_copyFrom_12 : decode cX4_copyFrom 12 = .ok (.aload_n 1, 1) := by decide +kernel
theorem dX4_copyFrom_13 : decode cX4_copyFrom 13 = .ok (.getfield 24, 3) := by decide +kernel
theorem dX4_copyFrom_16 : decode cX4_copyFrom 16 = .ok (.putfield 24, 3) := by decide +kernel
theorem dX4_copyFrom_19 : decode cX4_copyFrom 19 = .ok (.aload_n 0, 1) := by decide +kernel
theorem dX4_copyFrom_20 : decode cX4_copyFrom 20 = .ok (.aload_n 1, 1) := by decide +kernel
theorem dX4_copyFrom_21 : decode cX4_copyFrom 21 = .ok (.getfield 28, 3) := by decide +kernel
theorem dX4_copyFrom_24 : decode cX4_copyFrom 24 = .ok (.putfield 28, 3) := by decide +kernel
theorem dX4_copyFrom_27 : decode cX4_copyFrom 27 = .ok (.iconst 0, 1) := by decide +kernel
theorem dX4_copyFrom_28 : decode cX4_copyFrom 28 = .ok (.istore_n 2, 1) := by decide +kernel
theorem dX4_copyFrom_29 : decode cX4_copyFrom 29 = .ok (.iload_n 2, 1) := by decide +kernel
theorem dX4_copyFrom_30 : decode cX4_copyFrom 30 = .ok (.iconst 4, 1) := by decide +kernel
theorem dX4_copyFrom_31 : decode cX4_copyFrom 31 = .ok (.if_icmp .ge 37, 3) := by decide +kernel
theorem dX4_copyFrom_34 : decode cX4_copyFrom 34 = .ok (.aload_n 0, 1) := by decide +kernel
theorem dX4_copyFrom_35 : decode cX4_copyFrom 35 = .ok (.iload_n 2, 1) := by decide +kernel
theorem dX4_copyFrom_36 : decode cX4_copyFrom 36 = .ok (.invokevirtual 32, 3) := by decide +kernel
theorem dX4_copyFrom_39 : decode cX4_copyFrom 39 = .ok (.astore_n 3, 1) := by decide +kernel
theorem dX4_copyFrom_40 : decode cX4_copyFrom 40 = .ok (.aload_n 1, 1) := by decide +kernel
theorem dX4_copyFrom_41 : decode cX4_copyFrom 41 = .ok (.iload_n 2, 1) := by decide +kernel
theorem dX4_copyFrom_42 : decode cX4_copyFrom 42 = .ok (.invokevirtual 32, 3) := by decide +kernel
theorem dX4_copyFrom_45 : decode cX4_copyFrom 45 = .ok (.astore 4, 2) := by decide +kernel
theorem dX4_copyFrom_47 : decode cX4_copyFrom 47 = .ok (.aload_n 3, 1) := by decide +kernel
theorem dX4_copyFrom_48 : decode cX4_copyFrom 48 = .ok (.ifnull 14, 3) := by decide +kernel
theorem dX4_copyFrom_51 : decode cX4_copyFrom 51 = .ok (.aload 4, 2) := by decide +kernel
theorem dX4_copyFrom_53 : decode cX4_copyFrom 53 = .ok (.ifnull 9, 3) := by decide +kernel
theorem dX4_copyFrom_56 : decode cX4_copyFrom 56 = .ok (.aload_n 3, 1) := by decide +kernel
theorem dX4_copyFrom_57 : decode cX4_copyFrom 57 = .ok (.aload 4, 2) := by decide +kernel
theorem dX4_copyFrom_59 : decode cX4_copyFrom 59 = .ok (.invokevirtual 53, 3) := by decide +kernel
theorem dX4_copyFrom_62 : decode cX4_copyFrom 62 = .ok (.iinc 2 1, 3) := by decide +kernel
theorem dX4_copyFrom_65 : decode cX4_copyFrom 65 = .ok (.goto (-36), 3) := by decide +kernel
theorem dX4_copyFrom_68 : decode cX4_copyFrom 68 = .ok (.return_, 1) := by decide +kernel
theorem dX5_init_0 : decode cX5_init 0 = .ok (.aload_n 0, 1) := by decide +kernel
theorem dX5_init_1 : decode cX5_init 1 = .ok (.invokespecial 1, 3) := by decide +kernel
theorem dX5_init_4 : decode cX5_init 4 = .ok (.aload_n 0, 1) := by decide +kernel
theorem dX5_init_5 : decode cX5_init 5 = .ok (.new 7, 3) := by decide +kernel
theorem dX5_init_8 : decode cX5_init 8 = .ok (.dup, 1) := by decide +kernel
theorem dX5_init_9 : decode cX5_init 9 = .ok (.invokespecial 9, 3) := by decide +kernel
theorem dX5_init_12 : decode cX5_init 12 = .ok (.putfield 10, 3) := by decide +kernel
theorem dX5_init_15 : decode cX5_init 15 = .ok (.aload_n 0, 1) := by decide +kernel
theorem dX5_init_16 : decode cX5_init 16 = .ok (.new 16, 3) := by decide +kernel
theorem dX5_init_19 : decode cX5_init 19 = .ok (.dup, 1) := by decide +kernel
theorem dX5_init_20 : decode cX5_init 20 = .ok (.invokespecial 18, 3) := by decide +kernel
theorem dX5_init_23 : decode cX5_init 23 = .ok (.putfield 19, 3) := by decide +kernel
theorem dX5_init_26 : decode cX5_init 26 = .ok (.aload_n 0, 1) := by decide +kernel
theorem dX5_init_27 : decode cX5_init 27 = .ok (.new 23, 3) := by decide +kernel
theorem dX5_init_30 : decode cX5_init 30 = .ok (.dup, 1) := by decide +kernel
theorem dX5_init_31 : decode cX5_init 31 = .ok (.invokespecial 25, 3) := by decide +kernel
theorem dX5_init_34 : decode cX5_init 34 = .ok (.putfield 26, 3) := by decide +kernel
theorem dX5_init_37 : decode cX5_init 37 = .ok (.aload_n 0, 1) := by decide +kernel
theorem dX5_init_38 : decode cX5_init 38 = .ok (.new 30, 3) := by decide +kernel
theorem dX5_init_41 : decode cX5_init 41 = .ok (.dup, 1) := by decide +kernel
theorem dX5_init_42 : decode cX5_init 42 = .ok (.invokespecial 32, 3) := by decide +kernel
theorem dX5_init_45 : decode cX5_init 45 = .ok (.putfield 33, 3) := by decide +kernel
theorem dX5_init_48 : decode cX5_init 48 = .ok (.aload_n 0, 1) := by decide +kernel
theorem dX5_init_49 : decode cX5_init 49 = .ok (.bipush 60, 2) := by decide +kernel
theorem dX5_init_51 : decode cX5_init 51 = .ok (.newarray .int, 2) := by decide +kernel
theorem dX5_init_53 : decode cX5_init 53 = .ok (.putfield 37, 3) := by decide +kernel
theorem dX5_init_56 : decode cX5_init 56 = .ok (.aload_n 0, 1) := by decide +kernel
theorem dX5_init_57 : decode cX5_init 57 = .ok (.iconst 0, 1) := by decide +kernel
theorem dX5_init_58 : decode cX5_init 58 = .ok (.putfield 41, 3) := by decide +kernel
theorem dX5_init_61 : decode cX5_init 61 = .ok (.return_, 1) := by decide +kernel
theorem dX5_earn_0 : decode cX5_earn 0 = .ok (.iload_n 1, 1) := by decide +kernel
theorem dX5_earn_1 : decode cX5_earn 1 = .ok (.iconst 1, 1) := by decide +kernel
theorem dX5_earn_2 : decode cX5_earn 2 = .ok (.if_icmp .lt 10, 3) := by decide +kernel
theorem dX5_earn_5 : decode cX5_earn 5 = .ok (.iload_n 1, 1) := by decide +kernel
theorem dX5_earn_6 : decode cX5_earn 6 = .ok (.sipush 10000, 3) := by decide +kernel
theorem dX5_earn_9 : decode cX5_earn 9 = .ok (.if_icmp .le 13, 3) := by decide +kernel
theorem dX5_earn_12 : decode cX5_earn 12 = .ok (.new 45, 3) := by decide +kernel
theorem dX5_earn_15 : decode cX5_earn 15 = .ok (.dup, 1) := by decide +kernel
theorem dX5_earn_16 : decode cX5_earn 16 = .ok (.ldc 47, 2) := by decide +kernel
theorem dX5_earn_18 : decode cX5_earn 18 = .ok (.invokespecial 49, 3) := by decide +kernel
theorem dX5_earn_21 : decode cX5_earn 21 = .ok (.athrow, 1) := by decide +kernel
theorem dX5_earn_22 : decode cX5_earn 22 = .ok (.aload_n 0, 1) := by decide +kernel
theorem dX5_earn_23 : decode cX5_earn 23 = .ok (.getfield 10, 3) := by decide +kernel
theorem dX5_earn_26 : decode cX5_earn 26 = .ok (.getfield 52, 3) := by decide +kernel
theorem dX5_earn_29 : decode cX5_earn 29 = .ok (.iload_n 1, 1) := by decide +kernel
theorem dX5_earn_30 : decode cX5_earn 30 = .ok (.iadd, 1) := by decide +kernel
theorem dX5_earn_31 : decode cX5_earn 31 = .ok (.ldc 55, 2) := by decide +kernel
theorem dX5_earn_33 : decode cX5_earn 33 = .ok (.if_icmp .le 13, 3) := by decide +kernel
theorem dX5_earn_36 : decode cX5_earn 36 = .ok (.new 56, 3) := by decide +kernel
theorem dX5_earn_39 : decode cX5_earn 39 = .ok (.dup, 1) := by decide +kernel
theorem dX5_earn_40 : decode cX5_earn 40 = .ok (.ldc 58, 2) := by decide +kernel
theorem dX5_earn_42 : decode cX5_earn 42 = .ok (.invokespecial 60, 3) := by decide +kernel
theorem dX5_earn_45 : decode cX5_earn 45 = .ok (.athrow, 1) := by decide +kernel
theorem dX5_earn_46 : decode cX5_earn 46 = .ok (.aload_n 0, 1) := by decide +kernel
theorem dX5_earn_47 : decode cX5_earn 47 = .ok (.getfield 19, 3) := by decide +kernel
theorem dX5_earn_50 : decode cX5_earn 50 = .ok (.aload_n 0, 1) := by decide +kernel
theorem dX5_earn_51 : decode cX5_earn 51 = .ok (.getfield 10, 3) := by decide +kernel
theorem dX5_earn_54 : decode cX5_earn 54 = .ok (.invokevirtual 61, 3) := by decide +kernel
theorem dX5_earn_57 : decode cX5_earn 57 = .ok (.aload_n 0, 1) := by decide +kernel
theorem dX5_earn_58 : decode cX5_earn 58 = .ok (.getfield 10, 3) := by decide +kernel
theorem dX5_earn_61 : decode cX5_earn 61 = .ok (.dup, 1) := by decide +kernel
theorem dX5_earn_62 : decode cX5_earn 62 = .ok (.getfield 52, 3) := by decide +kernel
theorem dX5_earn_65 : decode cX5_earn 65 = .ok (.iload_n 1, 1) := by decide +kernel
theorem dX5_earn_66 : decode cX5_earn 66 = .ok (.iadd, 1) := by decide +kernel
theorem dX5_earn_67 : decode cX5_earn 67 = .ok (.putfield 52, 3) := by decide +kernel
theorem dX5_earn_70 : decode cX5_earn 70 = .ok (.aload_n 0, 1) := by decide +kernel
theorem dX5_earn_71 : decode cX5_earn 71 = .ok (.getfield 10, 3) := by decide +kernel
theorem dX5_earn_74 : decode cX5_earn 74 = .ok (.getfield 52, 3) := by decide +kernel
theorem dX5_earn_77 : decode cX5_earn 77 = .ok (.ireturn, 1) := by decide +kernel
theorem dX5_load_0 : decode cX5_load 0 = .ok (.aload_n 0, 1) := by decide +kernel
theorem dX5_load_1 : decode cX5_load 1 = .ok (.iload_n 1, 1) := by decide +kernel
theorem dX5_load_2 : decode cX5_load 2 = .ok (.invokevirtual 65, 3) := by decide +kernel
theorem dX5_load_5 : decode cX5_load 5 = .ok (.astore_n 3, 1) := by decide +kernel
theorem dX5_load_6 : decode cX5_load 6 = .ok (.iload_n 2, 1) := by decide +kernel
theorem dX5_load_7 : decode cX5_load 7 = .ok (.ifCond .lt 8, 3) := by decide +kernel
theorem dX5_load_10 : decode cX5_load 10 = .ok (.iload_n 2, 1) := by decide +kernel
theorem dX5_load_11 : decode cX5_load 11 = .ok (.iconst 5, 1) := by decide +kernel
theorem dX5_load_12 : decode cX5_load 12 = .ok (.if_icmp .le 13, 3) := by decide +kernel
theorem dX5_load_15 : decode cX5_load 15 = .ok (.new 45, 3) := by decide +kernel
theorem dX5_load_18 : decode cX5_load 18 = .ok (.dup, 1) := by decide +kernel
theorem dX5_load_19 : decode cX5_load 19 = .ok (.ldc 69, 2) := by decide +kernel
theorem dX5_load_21 : decode cX5_load 21 = .ok (.invokespecial 49, 3) := by decide +kernel
theorem dX5_load_24 : decode cX5_load 24 = .ok (.athrow, 1) := by decide +kernel
theorem dX5_load_25 : decode cX5_load 25 = .ok (.aload_n 0, 1) := by decide +kernel
theorem dX5_load_26 : decode cX5_load 26 = .ok (.getfield 19, 3) := by decide +kernel
theorem dX5_load_29 : decode cX5_load 29 = .ok (.aload_n 0, 1) := by decide +kernel
theorem dX5_load_30 : decode cX5_load 30 = .ok (.getfield 10, 3) := by decide +kernel
theorem dX5_load_33 : decode cX5_load 33 = .ok (.invokevirtual 61, 3) := by decide +kernel
theorem dX5_load_36 : decode cX5_load 36 = .ok (.aload_n 3, 1) := by decide +kernel
theorem dX5_load_37 : decode cX5_load 37 = .ok (.getfield 71, 3) := by decide +kernel
theorem dX5_load_40 : decode cX5_load 40 = .ok (.istore 4, 2) := by decide +kernel
theorem dX5_load_42 : decode cX5_load 42 = .ok (.aload_n 3, 1) := by decide +kernel
theorem dX5_load_43 : decode cX5_load 43 = .ok (.iload_n 2, 1) := by decide +kernel
theorem dX5_load_44 : decode cX5_load 44 = .ok (.putfield 71, 3) := by decide +kernel
theorem dX5_load_47 : decode cX5_load 47 = .ok (.iload 4, 2) := by decide +kernel
theorem dX5_load_49 : decode cX5_load 49 = .ok (.ireturn, 1) := by decide +kernel
theorem dX5_set_0 : decode cX5_set 0 = .ok (.iload_n 1, 1) := by decide +kernel
theorem dX5_set_1 : decode cX5_set 1 = .ok (.invokestatic 74, 3) := by decide +kernel
theorem dX5_set_4 : decode cX5_set 4 = .ok (.iload_n 1, 1) := by decide +kernel
theorem dX5_set_5 : decode cX5_set 5 = .ok (.iload_n 2, 1) := by decide +kernel
theorem dX5_set_6 : decode cX5_set 6 = .ok (.invokestatic 78, 3) := by decide +kernel
theorem dX5_set_9 : decode cX5_set 9 = .ok (.ifCond .ne 13, 3) := by decide +kernel
theorem dX5_set_12 : decode cX5_set 12 = .ok (.new 45, 3) := by decide +kernel
theorem dX5_set_15 : decode cX5_set 15 = .ok (.dup, 1) := by decide +kernel
theorem dX5_set_16 : decode cX5_set 16 = .ok (.ldc 82, 2) := by decide +kernel
theorem dX5_set_18 : decode cX5_set 18 = .ok (.invokespecial 49, 3) := by decide +kernel
theorem dX5_set_21 : decode cX5_set 21 = .ok (.athrow, 1) := by decide +kernel
theorem dX5_set_22 : decode cX5_set 22 = .ok (.aload_n 0, 1) := by decide +kernel
theorem dX5_set_23 : decode cX5_set 23 = .ok (.getfield 19, 3) := by decide +kernel
theorem dX5_set_26 : decode cX5_set 26 = .ok (.aload_n 0, 1) := by decide +kernel
theorem dX5_set_27 : decode cX5_set 27 = .ok (.getfield 10, 3) := by decide +kernel
theorem dX5_set_30 : decode cX5_set 30 = .ok (.invokevirtual 61, 3) := by decide +kernel
theorem dX5_set_33 : decode cX5_set 33 = .ok (.aload_n 0, 1) := by decide +kernel
theorem dX5_set_34 : decode cX5_set 34 = .ok (.getfield 10, 3) := by decide +kernel
theorem dX5_set_37 : decode cX5_set 37 = .ok (.getfield 84, 3) := by decide +kernel
theorem dX5_set_40 : decode cX5_set 40 = .ok (.iload_n 1, 1) := by decide +kernel
theorem dX5_set_41 : decode cX5_set 41 = .ok (.invokevirtual 88, 3) := by decide +kernel
theorem dX5_set_44 : decode cX5_set 44 = .ok (.istore_n 3, 1) := by decide +kernel
theorem dX5_set_45 : decode cX5_set 45 = .ok (.aload_n 0, 1) := by decide +kernel
theorem dX5_set_46 : decode cX5_set 46 = .ok (.getfield 10, 3) := by decide +kernel
theorem dX5_set_49 : decode cX5_set 49 = .ok (.getfield 84, 3) := by decide +kernel
theorem dX5_set_52 : decode cX5_set 52 = .ok (.iload_n 1, 1) := by decide +kernel
theorem dX5_set_53 : decode cX5_set 53 = .ok (.iload_n 2, 1) := by decide +kernel
theorem dX5_set_54 : decode cX5_set 54 = .ok (.invokevirtual 94, 3) := by decide +kernel
theorem dX5_set_57 : decode cX5_set 57 = .ok (.iload_n 3, 1) := by decide +kernel
theorem dX5_set_58 : decode cX5_set 58 = .ok (.ireturn, 1) := by decide +kernel
theorem dX5_step_0 : decode cX5_step 0 = .ok (.aload_n 0, 1) := by decide +kernel
theorem dX5_step_1 : decode cX5_step 1 = .ok (.iload_n 1, 1) := by decide +kernel
theorem dX5_step_2 : decode cX5_step 2 = .ok (.invokevirtual 65, 3) := by decide +kernel
theorem dX5_step_5 : decode cX5_step 5 = .ok (.astore_n 3, 1) := by decide +kernel
theorem dX5_step_6 : decode cX5_step 6 = .ok (.iload_n 2, 1) := by decide +kernel
theorem dX5_step_7 : decode cX5_step 7 = .ok (.bipush (-24), 2) := by decide +kernel
theorem dX5_step_9 : decode cX5_step 9 = .ok (.if_icmp .lt 13, 3) := by decide +kernel
theorem dX5_step_12 : decode cX5_step 12 = .ok (.iload_n 2, 1) := by decide +kernel
theorem dX5_step_13 : decode cX5_step 13 = .ok (.bipush 24, 2) := by decide +kernel
theorem dX5_step_15 : decode cX5_step 15 = .ok (.if_icmp .gt 7, 3) := by decide +kernel
theorem dX5_step_18 : decode cX5_step 18 = .ok (.iload_n 2, 1) := by decide +kernel
theorem dX5_step_19 : decode cX5_step 19 = .ok (.ifCond .ne 13, 3) := by decide +kernel
theorem dX5_step_22 : decode cX5_step 22 = .ok (.new 45, 3) := by decide +kernel
theorem dX5_step_25 : decode cX5_step 25 = .ok (.dup, 1) := by decide +kernel
theorem dX5_step_26 : decode cX5_step 26 = .ok (.ldc 98, 2) := by decide +kernel
theorem dX5_step_28 : decode cX5_step 28 = .ok (.invokespecial 49, 3) := by decide +kernel
theorem dX5_step_31 : decode cX5_step 31 = .ok (.athrow, 1) := by decide +kernel
theorem dX5_step_32 : decode cX5_step 32 = .ok (.iload_n 2, 1) := by decide +kernel
theorem dX5_step_33 : decode cX5_step 33 = .ok (.ifCond .le 7, 3) := by decide +kernel
theorem dX5_step_36 : decode cX5_step 36 = .ok (.iconst 1, 1) := by decide +kernel
theorem dX5_step_37 : decode cX5_step 37 = .ok (.goto 4, 3) := by decide +kernel
theorem dX5_step_40 : decode cX5_step 40 = .ok (.iconst 0, 1) := by decide +kernel
theorem dX5_step_41 : decode cX5_step 41 = .ok (.invokestatic 100, 3) := by decide +kernel
theorem dX5_step_44 : decode cX5_step 44 = .ok (.istore 4, 2) := by decide +kernel
theorem dX5_step_46 : decode cX5_step 46 = .ok (.aload_n 0, 1) := by decide +kernel
theorem dX5_step_47 : decode cX5_step 47 = .ok (.aload_n 3, 1) := by decide +kernel
theorem dX5_step_48 : decode cX5_step 48 = .ok (.iload 4, 2) := by decide +kernel
theorem dX5_step_50 : decode cX5_step 50 = .ok (.invokevirtual 104, 3) := by decide +kernel
theorem dX5_step_53 : decode cX5_step 53 = .ok (.ifCond .ne 13, 3) := by decide +kernel
theorem dX5_step_56 : decode cX5_step 56 = .ok (.new 56, 3) := by decide +kernel
theorem dX5_step_59 : decode cX5_step 59 = .ok (.dup, 1) := by decide +kernel
theorem dX5_step_60 : decode cX5_step 60 = .ok (.ldc 108, 2) := by decide +kernel
theorem dX5_step_62 : decode cX5_step 62 = .ok (.invokespecial 60, 3) := by decide +kernel
theorem dX5_step_65 : decode cX5_step 65 = .ok (.athrow, 1) := by decide +kernel
theorem dX5_step_66 : decode cX5_step 66 = .ok (.aload_n 0, 1) := by decide +kernel
theorem dX5_step_67 : decode cX5_step 67 = .ok (.getfield 19, 3) := by decide +kernel
theorem dX5_step_70 : decode cX5_step 70 = .ok (.aload_n 0, 1) := by decide +kernel
theorem dX5_step_71 : decode cX5_step 71 = .ok (.getfield 10, 3) := by decide +kernel
theorem dX5_step_74 : decode cX5_step 74 = .ok (.invokevirtual 61, 3) := by decide +kernel
theorem dX5_step_77 : decode cX5_step 77 = .ok (.aload_n 0, 1) := by decide +kernel
theorem dX5_step_78 : decode cX5_step 78 = .ok (.aload_n 3, 1) := by decide +kernel
theorem dX5_step_79 : decode cX5_step 79 = .ok (.iload 4, 2) := by decide +kernel
theorem dX5_step_81 : decode cX5_step 81 = .ok (.iload_n 2, 1) := by decide +kernel
theorem dX5_step_82 : decode cX5_step 82 = .ok (.ifCond .le 7, 3) := by decide +kernel
theorem dX5_step_85 : decode cX5_step 85 = .ok (.iload_n 2, 1) := by decide +kernel
theorem dX5_step_86 : decode cX5_step 86 = .ok (.goto 5, 3) := by decide +kernel
theorem dX5_step_89 : decode cX5_step 89 = .ok (.iload_n 2, 1) := by decide +kernel
theorem dX5_step_90 : decode cX5_step 90 = .ok (.ineg, 1) := by decide +kernel
theorem dX5_step_91 : decode cX5_step 91 = .ok (.invokevirtual 110, 3) := by decide +kernel
theorem dX5_step_94 : decode cX5_step 94 = .ok (.ireturn, 1) := by decide +kernel
theorem dX5_go_0 : decode cX5_go 0 = .ok (.aload_n 0, 1) := by decide +kernel
theorem dX5_go_1 : decode cX5_go 1 = .ok (.iload_n 1, 1) := by decide +kernel
theorem dX5_go_2 : decode cX5_go 2 = .ok (.invokevirtual 65, 3) := by decide +kernel
theorem dX5_go_5 : decode cX5_go 5 = .ok (.astore_n 3, 1) := by decide +kernel
theorem dX5_go_6 : decode cX5_go 6 = .ok (.iload_n 2, 1) := by decide +kernel
theorem dX5_go_7 : decode cX5_go 7 = .ok (.invokestatic 114, 3) := by decide +kernel
theorem dX5_go_10 : decode cX5_go 10 = .ok (.aload_n 0, 1) := by decide +kernel
theorem dX5_go_11 : decode cX5_go 11 = .ok (.aload_n 3, 1) := by decide +kernel
theorem dX5_go_12 : decode cX5_go 12 = .ok (.iload_n 2, 1) := by decide +kernel
theorem dX5_go_13 : decode cX5_go 13 = .ok (.invokevirtual 117, 3) := by decide +kernel
theorem dX5_go_16 : decode cX5_go 16 = .ok (.ifCond .ne 13, 3) := by decide +kernel
theorem dX5_go_19 : decode cX5_go 19 = .ok (.new 56, 3) := by decide +kernel
theorem dX5_go_22 : decode cX5_go 22 = .ok (.dup, 1) := by decide +kernel
theorem dX5_go_23 : decode cX5_go 23 = .ok (.ldc 108, 2) := by decide +kernel
theorem dX5_go_25 : decode cX5_go 25 = .ok (.invokespecial 60, 3) := by decide +kernel
theorem dX5_go_28 : decode cX5_go 28 = .ok (.athrow, 1) := by decide +kernel
theorem dX5_go_29 : decode cX5_go 29 = .ok (.aload_n 0, 1) := by decide +kernel
theorem dX5_go_30 : decode cX5_go 30 = .ok (.getfield 19, 3) := by decide +kernel
theorem dX5_go_33 : decode cX5_go 33 = .ok (.aload_n 0, 1) := by decide +kernel
theorem dX5_go_34 : decode cX5_go 34 = .ok (.getfield 10, 3) := by decide +kernel
theorem dX5_go_37 : decode cX5_go 37 = .ok (.invokevirtual 61, 3) := by decide +kernel
theorem dX5_go_40 : decode cX5_go 40 = .ok (.aload_n 0, 1) := by decide +kernel
theorem dX5_go_41 : decode cX5_go 41 = .ok (.aload_n 3, 1) := by decide +kernel
theorem dX5_go_42 : decode cX5_go 42 = .ok (.iload_n 2, 1) := by decide +kernel
theorem dX5_go_43 : decode cX5_go 43 = .ok (.invokevirtual 120, 3) := by decide +kernel
theorem dX5_go_46 : decode cX5_go 46 = .ok (.ireturn, 1) := by decide +kernel
theorem dX5_home_0 : decode cX5_home 0 = .ok (.aload_n 0, 1) := by decide +kernel
theorem dX5_home_1 : decode cX5_home 1 = .ok (.iload_n 1, 1) := by decide +kernel
theorem dX5_home_2 : decode cX5_home 2 = .ok (.invokevirtual 65, 3) := by decide +kernel
theorem dX5_home_5 : decode cX5_home 5 = .ok (.astore_n 2, 1) := by decide +kernel
theorem dX5_home_6 : decode cX5_home 6 = .ok (.aload_n 0, 1) := by decide +kernel
theorem dX5_home_7 : decode cX5_home 7 = .ok (.getfield 19, 3) := by decide +kernel
theorem dX5_home_10 : decode cX5_home 10 = .ok (.aload_n 0, 1) := by decide +kernel
theorem dX5_home_11 : decode cX5_home 11 = .ok (.getfield 10, 3) := by decide +kernel
theorem dX5_home_14 : decode cX5_home 14 = .ok (.invokevirtual 61, 3) := by decide +kernel
theorem dX5_home_17 : decode cX5_home 17 = .ok (.aload_n 2, 1) := by decide +kernel
theorem dX5_home_18 : decode cX5_home 18 = .ok (.getfield 124, 3) := by decide +kernel
theorem dX5_home_21 : decode cX5_home 21 = .ok (.istore_n 3, 1) := by decide +kernel
theorem dX5_home_22 : decode cX5_home 22 = .ok (.aload_n 0, 1) := by decide +kernel
theorem dX5_home_23 : decode cX5_home 23 = .ok (.aload_n 2, 1) := by decide +kernel
theorem dX5_home_24 : decode cX5_home 24 = .ok (.invokevirtual 127, 3) := by decide +kernel
theorem dX5_home_27 : decode cX5_home 27 = .ok (.istore 4, 2) := by decide +kernel
theorem dX5_home_29 : decode cX5_home 29 = .ok (.iload 4, 2) := by decide +kernel
theorem dX5_home_31 : decode cX5_home 31 = .ok (.ifCond .eq 12, 3) := by decide +kernel
theorem dX5_home_34 : decode cX5_home 34 = .ok (.aload_n 2, 1) := by decide +kernel
theorem dX5_home_35 : decode cX5_home 35 = .ok (.getfield 124, 3) := by decide +kernel
theorem dX5_home_38 : decode cX5_home 38 = .ok (.iload_n 3, 1) := by decide +kernel
theorem dX5_home_39 : decode cX5_home 39 = .ok (.isub, 1) := by decide +kernel
theorem dX5_home_40 : decode cX5_home 40 = .ok (.goto 4, 3) := by decide +kernel
theorem dX5_home_43 : decode cX5_home 43 = .ok (.iconst (-1), 1) := by decide +kernel
theorem dX5_home_44 : decode cX5_home 44 = .ok (.ireturn, 1) := by decide +kernel
theorem dX5_grease_0 : decode cX5_grease 0 = .ok (.aload_n 0, 1) := by decide +kernel
theorem dX5_grease_1 : decode cX5_grease 1 = .ok (.iload_n 1, 1) := by decide +kernel
theorem dX5_grease_2 : decode cX5_grease 2 = .ok (.invokevirtual 65, 3) := by decide +kernel
theorem dX5_grease_5 : decode cX5_grease 5 = .ok (.astore_n 2, 1) := by decide +kernel
theorem dX5_grease_6 : decode cX5_grease 6 = .ok (.aload_n 0, 1) := by decide +kernel
theorem dX5_grease_7 : decode cX5_grease 7 = .ok (.invokevirtual 131, 3) := by decide +kernel
theorem dX5_grease_10 : decode cX5_grease 10 = .ok (.ifCond .ne 13, 3) := by decide +kernel
theorem dX5_grease_13 : decode cX5_grease 13 = .ok (.new 56, 3) := by decide +kernel
theorem dX5_grease_16 : decode cX5_grease 16 = .ok (.dup, 1) := by decide +kernel
theorem dX5_grease_17 : decode cX5_grease 17 = .ok (.ldc 135, 2) := by decide +kernel
theorem dX5_grease_19 : decode cX5_grease 19 = .ok (.invokespecial 60, 3) := by decide +kernel
theorem dX5_grease_22 : decode cX5_grease 22 = .ok (.athrow, 1) := by decide +kernel
theorem dX5_grease_23 : decode cX5_grease 23 = .ok (.aload_n 0, 1) := by decide +kernel
theorem dX5_grease_24 : decode cX5_grease 24 = .ok (.getfield 19, 3) := by decide +kernel
theorem dX5_grease_27 : decode cX5_grease 27 = .ok (.aload_n 0, 1) := by decide +kernel
theorem dX5_grease_28 : decode cX5_grease 28 = .ok (.getfield 10, 3) := by decide +kernel
theorem dX5_grease_31 : decode cX5_grease 31 = .ok (.invokevirtual 61, 3) := by decide +kernel
theorem dX5_grease_34 : decode cX5_grease 34 = .ok (.aload_n 0, 1) := by decide +kernel
theorem dX5_grease_35 : decode cX5_grease 35 = .ok (.aload_n 2, 1) := by decide +kernel
theorem dX5_grease_36 : decode cX5_grease 36 = .ok (.invokevirtual 137, 3) := by decide +kernel
theorem dX5_grease_39 : decode cX5_grease 39 = .ok (.aload_n 0, 1) := by decide +kernel
theorem dX5_grease_40 : decode cX5_grease 40 = .ok (.getfield 10, 3) := by decide +kernel
theorem dX5_grease_43 : decode cX5_grease 43 = .ok (.getfield 52, 3) := by decide +kernel
theorem dX5_grease_46 : decode cX5_grease 46 = .ok (.ireturn, 1) := by decide +kernel
theorem dX5_mend_0 : decode cX5_mend 0 = .ok (.aload_n 0, 1) := by decide +kernel
theorem dX5_mend_1 : decode cX5_mend 1 = .ok (.iload_n 1, 1) := by decide +kernel
theorem dX5_mend_2 : decode cX5_mend 2 = .ok (.invokevirtual 65, 3) := by decide +kernel
theorem dX5_mend_5 : decode cX5_mend 5 = .ok (.astore_n 3, 1) := by decide +kernel
theorem dX5_mend_6 : decode cX5_mend 6 = .ok (.iload_n 2, 1) := by decide +kernel
theorem dX5_mend_7 : decode cX5_mend 7 = .ok (.invokestatic 141, 3) := by decide +kernel
theorem dX5_mend_10 : decode cX5_mend 10 = .ok (.aload_n 3, 1) := by decide +kernel
theorem dX5_mend_11 : decode cX5_mend 11 = .ok (.iload_n 2, 1) := by decide +kernel
theorem dX5_mend_12 : decode cX5_mend 12 = .ok (.invokevirtual 144, 3) := by decide +kernel
theorem dX5_mend_15 : decode cX5_mend 15 = .ok (.aload_n 0, 1) := by decide +kernel
theorem dX5_mend_16 : decode cX5_mend 16 = .ok (.getfield 10, 3) := by decide +kernel
theorem dX5_mend_19 : decode cX5_mend 19 = .ok (.getfield 84, 3) := by decide +kernel
theorem dX5_mend_22 : decode cX5_mend 22 = .ok (.getfield 147, 3) := by decide +kernel
theorem dX5_mend_25 : decode cX5_mend 25 = .ok (.imul, 1) := by decide +kernel
theorem dX5_mend_26 : decode cX5_mend 26 = .ok (.istore 4, 2) := by decide +kernel
theorem dX5_mend_28 : decode cX5_mend 28 = .ok (.aload_n 0, 1) := by decide +kernel
theorem dX5_mend_29 : decode cX5_mend 29 = .ok (.getfield 10, 3) := by decide +kernel
theorem dX5_mend_32 : decode cX5_mend 32 = .ok (.getfield 52, 3) := by decide +kernel
theorem dX5_mend_35 : decode cX5_mend 35 = .ok (.iload 4, 2) := by decide +kernel
theorem dX5_mend_37 : decode cX5_mend 37 = .ok (.if_icmp .ge 13, 3) := by decide +kernel
theorem dX5_mend_40 : decode cX5_mend 40 = .ok (.new 56, 3) := by decide +kernel
theorem dX5_mend_43 : decode cX5_mend 43 = .ok (.dup, 1) := by decide +kernel
theorem dX5_mend_44 : decode cX5_mend 44 = .ok (.ldc 150, 2) := by decide +kernel
theorem dX5_mend_46 : decode cX5_mend 46 = .ok (.invokespecial 60, 3) := by decide +kernel
theorem dX5_mend_49 : decode cX5_mend 49 = .ok (.athrow, 1) := by decide +kernel
theorem dX5_mend_50 : decode cX5_mend 50 = .ok (.aload_n 0, 1) := by decide +kernel
theorem dX5_mend_51 : decode cX5_mend 51 = .ok (.getfield 19, 3) := by decide +kernel
theorem dX5_mend_54 : decode cX5_mend 54 = .ok (.aload_n 0, 1) := by decide +kernel
theorem dX5_mend_55 : decode cX5_mend 55 = .ok (.getfield 10, 3) := by decide +kernel
theorem dX5_mend_58 : decode cX5_mend 58 = .ok (.invokevirtual 61, 3) := by decide +kernel
theorem dX5_mend_61 : decode cX5_mend 61 = .ok (.aload_n 0, 1) := by decide +kernel
theorem dX5_mend_62 : decode cX5_mend 62 = .ok (.getfield 10, 3) := by decide +kernel
theorem dX5_mend_65 : decode cX5_mend 65 = .ok (.iload 4, 2) := by decide +kernel
theorem dX5_mend_67 : decode cX5_mend 67 = .ok (.invokevirtual 152, 3) := by decide +kernel
theorem dX5_mend_70 : decode cX5_mend 70 = .ok (.aload_n 3, 1) := by decide +kernel
theorem dX5_mend_71 : decode cX5_mend 71 = .ok (.iload_n 2, 1) := by decide +kernel
theorem dX5_mend_72 : decode cX5_mend 72 = .ok (.iconst 0, 1) := by decide +kernel
theorem dX5_mend_73 : decode cX5_mend 73 = .ok (.invokevirtual 155, 3) := by decide +kernel
theorem dX5_mend_76 : decode cX5_mend 76 = .ok (.iload 4, 2) := by decide +kernel
theorem dX5_mend_78 : decode cX5_mend 78 = .ok (.ireturn, 1) := by decide +kernel
theorem dX5_axis_0 : decode cX5_axis 0 = .ok (.aload_n 0, 1) := by decide +kernel
theorem dX5_axis_1 : decode cX5_axis 1 = .ok (.iload_n 1, 1) := by decide +kernel
theorem dX5_axis_2 : decode cX5_axis 2 = .ok (.invokevirtual 65, 3) := by decide +kernel
theorem dX5_axis_5 : decode cX5_axis 5 = .ok (.astore_n 3, 1) := by decide +kernel
theorem dX5_axis_6 : decode cX5_axis 6 = .ok (.iload_n 2, 1) := by decide +kernel
theorem dX5_axis_7 : decode cX5_axis 7 = .ok (.ifCond .lt 9, 3) := by decide +kernel
theorem dX5_axis_10 : decode cX5_axis 10 = .ok (.iload_n 2, 1) := by decide +kernel
theorem dX5_axis_11 : decode cX5_axis 11 = .ok (.bipush 12, 2) := by decide +kernel
theorem dX5_axis_13 : decode cX5_axis 13 = .ok (.if_icmp .lt 13, 3) := by decide +kernel
theorem dX5_axis_16 : decode cX5_axis 16 = .ok (.new 45, 3) := by decide +kernel
theorem dX5_axis_19 : decode cX5_axis 19 = .ok (.dup, 1) := by decide +kernel
theorem dX5_axis_20 : decode cX5_axis 20 = .ok (.ldc 182, 2) := by decide +kernel
theorem dX5_axis_22 : decode cX5_axis 22 = .ok (.invokespecial 49, 3) := by decide +kernel
theorem dX5_axis_25 : decode cX5_axis 25 = .ok (.athrow, 1) := by decide +kernel
theorem dX5_axis_26 : decode cX5_axis 26 = .ok (.aload_n 3, 1) := by decide +kernel
theorem dX5_axis_27 : decode cX5_axis 27 = .ok (.iload_n 2, 1) := by decide +kernel
theorem dX5_axis_28 : decode cX5_axis 28 = .ok (.invokevirtual 184, 3) := by decide +kernel
theorem dX5_axis_31 : decode cX5_axis 31 = .ok (.ireturn, 1) := by decide +kernel
theorem dX5_wear_0 : decode cX5_wear 0 = .ok (.aload_n 0, 1) := by decide +kernel
theorem dX5_wear_1 : decode cX5_wear 1 = .ok (.iload_n 1, 1) := by decide +kernel
theorem dX5_wear_2 : decode cX5_wear 2 = .ok (.invokevirtual 65, 3) := by decide +kernel
theorem dX5_wear_5 : decode cX5_wear 5 = .ok (.astore_n 3, 1) := by decide +kernel
theorem dX5_wear_6 : decode cX5_wear 6 = .ok (.iload_n 2, 1) := by decide +kernel
theorem dX5_wear_7 : decode cX5_wear 7 = .ok (.invokestatic 141, 3) := by decide +kernel
theorem dX5_wear_10 : decode cX5_wear 10 = .ok (.aload_n 3, 1) := by decide +kernel
theorem dX5_wear_11 : decode cX5_wear 11 = .ok (.iload_n 2, 1) := by decide +kernel
theorem dX5_wear_12 : decode cX5_wear 12 = .ok (.invokevirtual 144, 3) := by decide +kernel
theorem dX5_wear_15 : decode cX5_wear 15 = .ok (.ireturn, 1) := by decide +kernel
theorem dX5_count_0 : decode cX5_count 0 = .ok (.iload_n 1, 1) := by decide +kernel
theorem dX5_count_1 : decode cX5_count 1 = .ok (.ifCond .lt 9, 3) := by decide +kernel
theorem dX5_count_4 : decode cX5_count 4 = .ok (.iload_n 1, 1) := by decide +kernel
theorem dX5_count_5 : decode cX5_count 5 = .ok (.bipush 9, 2) := by decide +kernel
theorem dX5_count_7 : decode cX5_count 7 = .ok (.if_icmp .lt 13, 3) := by decide +kernel
theorem dX5_count_10 : decode cX5_count 10 = .ok (.new 45, 3) := by decide +kernel
theorem dX5_count_13 : decode cX5_count 13 = .ok (.dup, 1) := by decide +kernel
theorem dX5_count_14 : decode cX5_count 14 = .ok (.ldc 187, 2) := by decide +kernel
theorem dX5_count_16 : decode cX5_count 16 = .ok (.invokespecial 49, 3) := by decide +kernel
theorem dX5_count_19 : decode cX5_count 19 = .ok (.athrow, 1) := by decide +kernel
theorem dX5_count_20 : decode cX5_count 20 = .ok (.aload_n 0, 1) := by decide +kernel
theorem dX5_count_21 : decode cX5_count 21 = .ok (.iload_n 1, 1) := by decide +kernel
theorem dX5_count_22 : decode cX5_count 22 = .ok (.invokevirtual 189, 3) := by decide +kernel
theorem dX5_count_25 : decode cX5_count 25 = .ok (.ireturn, 1) := by decide +kernel
theorem dX5_cost_0 : decode cX5_cost 0 = .ok (.aload_n 0, 1) := by decide +kernel
theorem dX5_cost_1 : decode cX5_cost 1 = .ok (.iload_n 1, 1) := by decide +kernel
theorem dX5_cost_2 : decode cX5_cost 2 = .ok (.invokevirtual 65, 3) := by decide +kernel
theorem dX5_cost_5 : decode cX5_cost 5 = .ok (.astore 4, 2) := by decide +kernel
theorem dX5_cost_7 : decode cX5_cost 7 = .ok (.iload_n 2, 1) := by decide +kernel
theorem dX5_cost_8 : decode cX5_cost 8 = .ok (.invokestatic 114, 3) := by decide +kernel
theorem dX5_cost_11 : decode cX5_cost 11 = .ok (.aload 4, 2) := by decide +kernel
theorem dX5_cost_13 : decode cX5_cost 13 = .ok (.iload_n 2, 1) := by decide +kernel
theorem dX5_cost_14 : decode cX5_cost 14 = .ok (.iload_n 3, 1) := by decide +kernel
theorem dX5_cost_15 : decode cX5_cost 15 = .ok (.invokestatic 100, 3) := by decide +kernel
theorem dX5_cost_18 : decode cX5_cost 18 = .ok (.iconst (-1), 1) := by decide +kernel
theorem dX5_cost_19 : decode cX5_cost 19 = .ok (.aload_n 0, 1) := by decide +kernel
theorem dX5_cost_20 : decode cX5_cost 20 = .ok (.getfield 10, 3) := by decide +kernel
theorem dX5_cost_23 : decode cX5_cost 23 = .ok (.getfield 84, 3) := by decide +kernel
theorem dX5_cost_26 : decode cX5_cost 26 = .ok (.invokevirtual 199, 3) := by decide +kernel
theorem dX5_cost_29 : decode cX5_cost 29 = .ok (.ireturn, 1) := by decide +kernel
theorem dX5_ifHomed_0 : decode cX5_ifHomed 0 = .ok (.aload_n 0, 1) := by decide +kernel
theorem dX5_ifHomed_1 : decode cX5_ifHomed 1 = .ok (.iload_n 1, 1) := by decide +kernel
theorem dX5_ifHomed_2 : decode cX5_ifHomed 2 = .ok (.invokevirtual 65, 3) := by decide +kernel
theorem dX5_ifHomed_5 : decode cX5_ifHomed 5 = .ok (.astore_n 3, 1) := by decide +kernel
theorem dX5_ifHomed_6 : decode cX5_ifHomed 6 = .ok (.iload_n 2, 1) := by decide +kernel
theorem dX5_ifHomed_7 : decode cX5_ifHomed 7 = .ok (.ifCond .lt 8, 3) := by decide +kernel
theorem dX5_ifHomed_10 : decode cX5_ifHomed 10 = .ok (.iload_n 2, 1) := by decide +kernel
theorem dX5_ifHomed_11 : decode cX5_ifHomed 11 = .ok (.iconst 3, 1) := by decide +kernel
theorem dX5_ifHomed_12 : decode cX5_ifHomed 12 = .ok (.if_icmp .lt 13, 3) := by decide +kernel
theorem dX5_ifHomed_15 : decode cX5_ifHomed 15 = .ok (.new 45, 3) := by decide +kernel
theorem dX5_ifHomed_18 : decode cX5_ifHomed 18 = .ok (.dup, 1) := by decide +kernel
theorem dX5_ifHomed_19 : decode cX5_ifHomed 19 = .ok (.ldc 203, 2) := by decide +kernel
theorem dX5_ifHomed_21 : decode cX5_ifHomed 21 = .ok (.invokespecial 49, 3) := by decide +kernel
theorem dX5_ifHomed_24 : decode cX5_ifHomed 24 = .ok (.athrow, 1) := by decide +kernel
theorem dX5_ifHomed_25 : decode cX5_ifHomed 25 = .ok (.aload_n 0, 1) := by decide +kernel
theorem dX5_ifHomed_26 : decode cX5_ifHomed 26 = .ok (.aload_n 3, 1) := by decide +kernel
theorem dX5_ifHomed_27 : decode cX5_ifHomed 27 = .ok (.iload_n 2, 1) := by decide +kernel
theorem dX5_ifHomed_28 : decode cX5_ifHomed 28 = .ok (.invokevirtual 205, 3) := by decide +kernel
theorem dX5_ifHomed_31 : decode cX5_ifHomed 31 = .ok (.ireturn, 1) := by decide +kernel
theorem dX5_gearOf_0 : decode cX5_gearOf 0 = .ok (.aload_n 0, 1) := by decide +kernel
theorem dX5_gearOf_1 : decode cX5_gearOf 1 = .ok (.getfield 10, 3) := by decide +kernel
theorem dX5_gearOf_4 : decode cX5_gearOf 4 = .ok (.iload_n 1, 1) := by decide +kernel
theorem dX5_gearOf_5 : decode cX5_gearOf 5 = .ok (.invokevirtual 226, 3) := by decide +kernel
theorem dX5_gearOf_8 : decode cX5_gearOf 8 = .ok (.astore_n 2, 1) := by decide +kernel
theorem dX5_gearOf_9 : decode cX5_gearOf 9 = .ok (.aload_n 2, 1) := by decide +kernel
theorem dX5_gearOf_10 : decode cX5_gearOf 10 = .ok (.ifnonnull 13, 3) := by decide +kernel
theorem dX5_gearOf_13 : decode cX5_gearOf 13 = .ok (.new 247, 3) := by decide +kernel
theorem dX5_gearOf_16 : decode cX5_gearOf 16 = .ok (.dup, 1) := by decide +kernel
theorem dX5_gearOf_17 : decode cX5_gearOf 17 = .ok (.ldc 249, 2) := by decide +kernel
theorem dX5_gearOf_19 : decode cX5_gearOf 19 = .ok (.invokespecial 251, 3) := by decide +kernel
theorem dX5_gearOf_22 : decode cX5_gearOf 22 = .ok (.athrow, 1) := by decide +kernel
theorem dX5_gearOf_23 : decode cX5_gearOf 23 = .ok (.aload_n 2, 1) := by decide +kernel
theorem dX5_gearOf_24 : decode cX5_gearOf 24 = .ok (.areturn, 1) := by decide +kernel
theorem dX5_checkSetting_0 : decode cX5_checkSetting 0 = .ok (.iload_n 0, 1) := by decide +kernel
theorem dX5_checkSetting_1 : decode cX5_checkSetting 1 = .ok (.ifCond .lt 9, 3) := by decide +kernel
theorem dX5_checkSetting_4 : decode cX5_checkSetting 4 = .ok (.iload_n 0, 1) := by decide +kernel
theorem dX5_checkSetting_5 : decode cX5_checkSetting 5 = .ok (.bipush 6, 2) := by decide +kernel
theorem dX5_checkSetting_7 : decode cX5_checkSetting 7 = .ok (.if_icmp .lt 13, 3) := by decide +kernel
theorem dX5_checkSetting_10 : decode cX5_checkSetting 10 = .ok (.new 247, 3) := by decide +kernel
theorem dX5_checkSetting_13 : decode cX5_checkSetting 13 = .ok (.dup, 1) := by decide +kernel
theorem dX5_checkSetting_14 : decode cX5_checkSetting 14 = .ok (.ldc 252, 2) := by decide +kernel
theorem dX5_checkSetting_16 : decode cX5_checkSetting 16 = .ok (.invokespecial 251, 3) := by decide +kernel
theorem dX5_checkSetting_19 : decode cX5_checkSetting 19 = .ok (.athrow, 1) := by decide +kernel
theorem dX5_checkSetting_20 : decode cX5_checkSetting 20 = .ok (.return_, 1) := by decide +kernel
theorem dX5_checkTooth_0 : decode cX5_checkTooth 0 = .ok (.iload_n 0, 1) := by decide +kernel
theorem dX5_checkTooth_1 : decode cX5_checkTooth 1 = .ok (.ifCond .lt 9, 3) := by decide +kernel
theorem dX5_checkTooth_4 : decode cX5_checkTooth 4 = .ok (.iload_n 0, 1) := by decide +kernel
theorem dX5_checkTooth_5 : decode cX5_checkTooth 5 = .ok (.bipush 24, 2) := by decide +kernel
theorem dX5_checkTooth_7 : decode cX5_checkTooth 7 = .ok (.if_icmp .lt 13, 3) := by decide +kernel
theorem dX5_checkTooth_10 : decode cX5_checkTooth 10 = .ok (.new 247, 3) := by decide +kernel
theorem dX5_checkTooth_13 : decode cX5_checkTooth 13 = .ok (.dup, 1) := by decide +kernel
theorem dX5_checkTooth_14 : decode cX5_checkTooth 14 = .ok (.ldc 254, 2) := by decide +kernel
theorem dX5_checkTooth_16 : decode cX5_checkTooth 16 = .ok (.invokespecial 251, 3) := by decide +kernel
theorem dX5_checkTooth_19 : decode cX5_checkTooth 19 = .ok (.athrow, 1) := by decide +kernel
theorem dX5_checkTooth_20 : decode cX5_checkTooth 20 = .ok (.return_, 1) := by decide +kernel
theorem dX5_checkPlace_0 : decode cX5_checkPlace 0 = .ok (.iload_n 0, 1) := by decide +kernel
theorem dX5_checkPlace_1 : decode cX5_checkPlace 1 = .ok (.ifCond .lt 9, 3) := by decide +kernel
theorem dX5_checkPlace_4 : decode cX5_checkPlace 4 = .ok (.iload_n 0, 1) := by decide +kernel
theorem dX5_checkPlace_5 : decode cX5_checkPlace 5 = .ok (.bipush 24, 2) := by decide +kernel
theorem dX5_checkPlace_7 : decode cX5_checkPlace 7 = .ok (.if_icmp .lt 14, 3) := by decide +kernel
theorem dX5_checkPlace_10 : decode cX5_checkPlace 10 = .ok (.new 45, 3) := by decide +kernel
theorem dX5_checkPlace_13 : decode cX5_checkPlace 13 = .ok (.dup, 1) := by decide +kernel
theorem dX5_checkPlace_14 : decode cX5_checkPlace 14 = .ok (.ldc_w 256, 3) := by decide +kernel
theorem dX5_checkPlace_17 : decode cX5_checkPlace 17 = .ok (.invokespecial 49, 3) := by decide +kernel
theorem dX5_checkPlace_20 : decode cX5_checkPlace 20 = .ok (.athrow, 1) := by decide +kernel
theorem dX5_checkPlace_21 : decode cX5_checkPlace 21 = .ok (.return_, 1) := by decide +kernel
theorem dX5_isValueOf_0 : decode cX5_isValueOf 0 = .ok (.iload_n 0, 1) := by decide +kernel
theorem dX5_isValueOf_1 : decode cX5_isValueOf 1 = .ok (.ifCond .lt 19, 3) := by decide +kernel
theorem dX5_isValueOf_4 : decode cX5_isValueOf 4 = .ok (.iload_n 0, 1) := by decide +kernel
theorem dX5_isValueOf_5 : decode cX5_isValueOf 5 = .ok (.getstatic 258, 3) := by decide +kernel
theorem dX5_isValueOf_8 : decode cX5_isValueOf 8 = .ok (.arraylength, 1) := by decide +kernel
theorem dX5_isValueOf_9 : decode cX5_isValueOf 9 = .ok (.if_icmp .ge 11, 3) := by decide +kernel
theorem dX5_isValueOf_12 : decode cX5_isValueOf 12 = .ok (.iload_n 0, 1) := by decide +kernel
theorem dX5_isValueOf_13 : decode cX5_isValueOf 13 = .ok (.getstatic 261, 3) := by decide +kernel
theorem dX5_isValueOf_16 : decode cX5_isValueOf 16 = .ok (.arraylength, 1) := by decide +kernel
theorem dX5_isValueOf_17 : decode cX5_isValueOf 17 = .ok (.if_icmp .lt 5, 3) := by decide +kernel
theorem dX5_isValueOf_20 : decode cX5_isValueOf 20 = .ok (.iconst 0, 1) := by decide +kernel
theorem dX5_isValueOf_21 : decode cX5_isValueOf 21 = .ok (.ireturn, 1) := by decide +kernel
theorem dX5_isValueOf_22 : decode cX5_isValueOf 22 = .ok (.iload_n 1, 1) := by decide +kernel
theorem dX5_isValueOf_23 : decode cX5_isValueOf 23 = .ok (.getstatic 258, 3) := by decide +kernel
theorem dX5_isValueOf_26 : decode cX5_isValueOf 26 = .ok (.iload_n 0, 1) := by decide +kernel
theorem dX5_isValueOf_27 : decode cX5_isValueOf 27 = .ok (.iaload, 1) := by decide +kernel
theorem dX5_isValueOf_28 : decode cX5_isValueOf 28 = .ok (.if_icmp .lt 16, 3) := by decide +kernel
theorem dX5_isValueOf_31 : decode cX5_isValueOf 31 = .ok (.iload_n 1, 1) := by decide +kernel
theorem dX5_isValueOf_32 : decode cX5_isValueOf 32 = .ok (.getstatic 261, 3) := by decide +kernel
theorem dX5_isValueOf_35 : decode cX5_isValueOf 35 = .ok (.iload_n 0, 1) := by decide +kernel
theorem dX5_isValueOf_36 : decode cX5_isValueOf 36 = .ok (.iaload, 1) := by decide +kernel
theorem dX5_isValueOf_37 : decode cX5_isValueOf 37 = .ok (.if_icmp .gt 7, 3) := by decide +kernel
theorem dX5_isValueOf_40 : decode cX5_isValueOf 40 = .ok (.iconst 1, 1) := by decide +kernel
theorem dX5_isValueOf_41 : decode cX5_isValueOf 41 = .ok (.goto 4, 3) := by decide +kernel
theorem dX5_isValueOf_44 : decode cX5_isValueOf 44 = .ok (.iconst 0, 1) := by decide +kernel
theorem dX5_isValueOf_45 : decode cX5_isValueOf 45 = .ok (.ireturn, 1) := by decide +kernel
theorem dX5_wayOf_0 : decode cX5_wayOf 0 = .ok (.iload_n 0, 1) := by decide +kernel
theorem dX5_wayOf_1 : decode cX5_wayOf 1 = .ok (.ifCond .eq 7, 3) := by decide +kernel
theorem dX5_wayOf_4 : decode cX5_wayOf 4 = .ok (.iconst 1, 1) := by decide +kernel
theorem dX5_wayOf_5 : decode cX5_wayOf 5 = .ok (.goto 4, 3) := by decide +kernel
theorem dX5_wayOf_8 : decode cX5_wayOf 8 = .ok (.iconst (-1), 1) := by decide +kernel
theorem dX5_wayOf_9 : decode cX5_wayOf 9 = .ok (.ireturn, 1) := by decide +kernel
theorem dX5_canStep_0 : decode cX5_canStep 0 = .ok (.aload_n 1, 1) := by decide +kernel
theorem dX5_canStep_1 : decode cX5_canStep 1 = .ok (.iload_n 2, 1) := by decide +kernel
theorem dX5_canStep_2 : decode cX5_canStep 2 = .ok (.aload_n 0, 1) := by decide +kernel
theorem dX5_canStep_3 : decode cX5_canStep 3 = .ok (.getfield 10, 3) := by decide +kernel
theorem dX5_canStep_6 : decode cX5_canStep 6 = .ok (.getfield 84, 3) := by decide +kernel
theorem dX5_canStep_9 : decode cX5_canStep 9 = .ok (.invokevirtual 192, 3) := by decide +kernel
theorem dX5_canStep_12 : decode cX5_canStep 12 = .ok (.aload_n 0, 1) := by decide +kernel
theorem dX5_canStep_13 : decode cX5_canStep 13 = .ok (.getfield 10, 3) := by decide +kernel
theorem dX5_canStep_16 : decode cX5_canStep 16 = .ok (.getfield 52, 3) := by decide +kernel
theorem dX5_canStep_19 : decode cX5_canStep 19 = .ok (.if_icmp .gt 7, 3) := by decide +kernel
theorem dX5_canStep_22 : decode cX5_canStep 22 = .ok (.iconst 1, 1) := by decide +kernel
theorem dX5_canStep_23 : decode cX5_canStep 23 = .ok (.goto 4, 3) := by decide +kernel
theorem dX5_canStep_26 : decode cX5_canStep 26 = .ok (.iconst 0, 1) := by decide +kernel
theorem dX5_canStep_27 : decode cX5_canStep 27 = .ok (.ireturn, 1) := by decide +kernel
theorem dX5_canGo_0 : decode cX5_canGo 0 = .ok (.aload_n 1, 1) := by decide +kernel
theorem dX5_canGo_1 : decode cX5_canGo 1 = .ok (.getfield 264, 3) := by decide +kernel
theorem dX5_canGo_4 : decode cX5_canGo 4 = .ok (.iload_n 2, 1) := by decide +kernel
theorem dX5_canGo_5 : decode cX5_canGo 5 = .ok (.if_icmp .eq 17, 3) := by decide +kernel
theorem dX5_canGo_8 : decode cX5_canGo 8 = .ok (.aload_n 0, 1) := by decide +kernel
theorem dX5_canGo_9 : decode cX5_canGo 9 = .ok (.aload_n 1, 1) := by decide +kernel
theorem dX5_canGo_10 : decode cX5_canGo 10 = .ok (.aload_n 0, 1) := by decide +kernel
end
section
theorem dX5_canGo_11 : decode cX5_canGo 11 = .ok (.aload_n 1, 1) := by decide +kernel
theorem dX5_canGo_12 : decode cX5_canGo 12 = .ok (.iload_n 2, 1) := by decide +kernel
theorem dX5_canGo_13 : decode cX5_canGo 13 = .ok (.invokevirtual 267, 3) := by decide +kernel
theorem dX5_canGo_16 : decode cX5_canGo 16 = .ok (.invokevirtual 104, 3) := by decide +kernel
theorem dX5_canGo_19 : decode cX5_canGo 19 = .ok (.ifCond .eq 7, 3) := by decide +kernel
theorem dX5_canGo_22 : decode cX5_canGo 22 = .ok (.iconst 1, 1) := by decide +kernel
theorem dX5_canGo_23 : decode cX5_canGo 23 = .ok (.goto 4, 3) := by decide +kernel
theorem dX5_canGo_26 : decode cX5_canGo 26 = .ok (.iconst 0, 1) := by decide +kernel
theorem dX5_canGo_27 : decode cX5_canGo 27 = .ok (.ireturn, 1) := by decide +kernel
theorem dX5_canGrease_0 : decode cX5_canGrease 0 = .ok (.aload_n 0, 1) := by decide +kernel
theorem dX5_canGrease_1 : decode cX5_canGrease 1 = .ok (.getfield 10, 3) := by decide +kernel
theorem dX5_canGrease_4 : decode cX5_canGrease 4 = .ok (.getfield 52, 3) := by decide +kernel
theorem dX5_canGrease_7 : decode cX5_canGrease 7 = .ok (.aload_n 0, 1) := by decide +kernel
theorem dX5_canGrease_8 : decode cX5_canGrease 8 = .ok (.getfield 10, 3) := by decide +kernel
theorem dX5_canGrease_11 : decode cX5_canGrease 11 = .ok (.getfield 84, 3) := by decide +kernel
theorem dX5_canGrease_14 : decode cX5_canGrease 14 = .ok (.getfield 270, 3) := by decide +kernel
theorem dX5_canGrease_17 : decode cX5_canGrease 17 = .ok (.if_icmp .lt 7, 3) := by decide +kernel
theorem dX5_canGrease_20 : decode cX5_canGrease 20 = .ok (.iconst 1, 1) := by decide +kernel
theorem dX5_canGrease_21 : decode cX5_canGrease 21 = .ok (.goto 4, 3) := by decide +kernel
theorem dX5_canGrease_24 : decode cX5_canGrease 24 = .ok (.iconst 0, 1) := by decide +kernel
theorem dX5_canGrease_25 : decode cX5_canGrease 25 = .ok (.ireturn, 1) := by decide +kernel
theorem dX5_makeSteps_0 : decode cX5_makeSteps 0 = .ok (.iconst 0, 1) := by decide +kernel
theorem dX5_makeSteps_1 : decode cX5_makeSteps 1 = .ok (.istore 4, 2) := by decide +kernel
theorem dX5_makeSteps_3 : decode cX5_makeSteps 3 = .ok (.iload 4, 2) := by decide +kernel
theorem dX5_makeSteps_5 : decode cX5_makeSteps 5 = .ok (.iload_n 3, 1) := by decide +kernel
theorem dX5_makeSteps_6 : decode cX5_makeSteps 6 = .ok (.if_icmp .ge 52, 3) := by decide +kernel
theorem dX5_makeSteps_9 : decode cX5_makeSteps 9 = .ok (.aload_n 1, 1) := by decide +kernel
theorem dX5_makeSteps_10 : decode cX5_makeSteps 10 = .ok (.iload_n 2, 1) := by decide +kernel
theorem dX5_makeSteps_11 : decode cX5_makeSteps 11 = .ok (.aload_n 0, 1) := by decide +kernel
theorem dX5_makeSteps_12 : decode cX5_makeSteps 12 = .ok (.getfield 10, 3) := by decide +kernel
theorem dX5_makeSteps_15 : decode cX5_makeSteps 15 = .ok (.getfield 52, 3) := by decide +kernel
theorem dX5_makeSteps_18 : decode cX5_makeSteps 18 = .ok (.aload_n 0, 1) := by decide +kernel
theorem dX5_makeSteps_19 : decode cX5_makeSteps 19 = .ok (.getfield 10, 3) := by decide +kernel
theorem dX5_makeSteps_22 : decode cX5_makeSteps 22 = .ok (.getfield 84, 3) := by decide +kernel
theorem dX5_makeSteps_25 : decode cX5_makeSteps 25 = .ok (.invokevirtual 273, 3) := by decide +kernel
theorem dX5_makeSteps_28 : decode cX5_makeSteps 28 = .ok (.istore 5, 2) := by decide +kernel
theorem dX5_makeSteps_30 : decode cX5_makeSteps 30 = .ok (.iload 5, 2) := by decide +kernel
theorem dX5_makeSteps_32 : decode cX5_makeSteps 32 = .ok (.ifCond .ne 6, 3) := by decide +kernel
theorem dX5_makeSteps_35 : decode cX5_makeSteps 35 = .ok (.goto 23, 3) := by decide +kernel
theorem dX5_makeSteps_38 : decode cX5_makeSteps 38 = .ok (.aload_n 0, 1) := by decide +kernel
theorem dX5_makeSteps_39 : decode cX5_makeSteps 39 = .ok (.getfield 10, 3) := by decide +kernel
theorem dX5_makeSteps_42 : decode cX5_makeSteps 42 = .ok (.dup, 1) := by decide +kernel
theorem dX5_makeSteps_43 : decode cX5_makeSteps 43 = .ok (.getfield 52, 3) := by decide +kernel
theorem dX5_makeSteps_46 : decode cX5_makeSteps 46 = .ok (.iload 5, 2) := by decide +kernel
theorem dX5_makeSteps_48 : decode cX5_makeSteps 48 = .ok (.isub, 1) := by decide +kernel
theorem dX5_makeSteps_49 : decode cX5_makeSteps 49 = .ok (.putfield 52, 3) := by decide +kernel
theorem dX5_makeSteps_52 : decode cX5_makeSteps 52 = .ok (.iinc 4 1, 3) := by decide +kernel
theorem dX5_makeSteps_55 : decode cX5_makeSteps 55 = .ok (.goto (-52), 3) := by decide +kernel
theorem dX5_makeSteps_58 : decode cX5_makeSteps 58 = .ok (.iload 4, 2) := by decide +kernel
theorem dX5_makeSteps_60 : decode cX5_makeSteps 60 = .ok (.ireturn, 1) := by decide +kernel
theorem dX5_goTo_0 : decode cX5_goTo 0 = .ok (.aload_n 0, 1) := by decide +kernel
theorem dX5_goTo_1 : decode cX5_goTo 1 = .ok (.aload_n 1, 1) := by decide +kernel
theorem dX5_goTo_2 : decode cX5_goTo 2 = .ok (.iload_n 2, 1) := by decide +kernel
theorem dX5_goTo_3 : decode cX5_goTo 3 = .ok (.invokevirtual 267, 3) := by decide +kernel
theorem dX5_goTo_6 : decode cX5_goTo 6 = .ok (.istore_n 3, 1) := by decide +kernel
theorem dX5_goTo_7 : decode cX5_goTo 7 = .ok (.iconst 0, 1) := by decide +kernel
theorem dX5_goTo_8 : decode cX5_goTo 8 = .ok (.istore 4, 2) := by decide +kernel
theorem dX5_goTo_10 : decode cX5_goTo 10 = .ok (.iconst 0, 1) := by decide +kernel
theorem dX5_goTo_11 : decode cX5_goTo 11 = .ok (.istore 5, 2) := by decide +kernel
theorem dX5_goTo_13 : decode cX5_goTo 13 = .ok (.iload 5, 2) := by decide +kernel
theorem dX5_goTo_15 : decode cX5_goTo 15 = .ok (.bipush 24, 2) := by decide +kernel
theorem dX5_goTo_17 : decode cX5_goTo 17 = .ok (.if_icmp .ge 67, 3) := by decide +kernel
theorem dX5_goTo_20 : decode cX5_goTo 20 = .ok (.aload_n 1, 1) := by decide +kernel
theorem dX5_goTo_21 : decode cX5_goTo 21 = .ok (.getfield 264, 3) := by decide +kernel
theorem dX5_goTo_24 : decode cX5_goTo 24 = .ok (.iload_n 2, 1) := by decide +kernel
theorem dX5_goTo_25 : decode cX5_goTo 25 = .ok (.if_icmp .eq 59, 3) := by decide +kernel
theorem dX5_goTo_28 : decode cX5_goTo 28 = .ok (.aload_n 1, 1) := by decide +kernel
theorem dX5_goTo_29 : decode cX5_goTo 29 = .ok (.iload_n 3, 1) := by decide +kernel
theorem dX5_goTo_30 : decode cX5_goTo 30 = .ok (.aload_n 0, 1) := by decide +kernel
theorem dX5_goTo_31 : decode cX5_goTo 31 = .ok (.getfield 10, 3) := by decide +kernel
theorem dX5_goTo_34 : decode cX5_goTo 34 = .ok (.getfield 52, 3) := by decide +kernel
theorem dX5_goTo_37 : decode cX5_goTo 37 = .ok (.aload_n 0, 1) := by decide +kernel
theorem dX5_goTo_38 : decode cX5_goTo 38 = .ok (.getfield 10, 3) := by decide +kernel
theorem dX5_goTo_41 : decode cX5_goTo 41 = .ok (.getfield 84, 3) := by decide +kernel
theorem dX5_goTo_44 : decode cX5_goTo 44 = .ok (.invokevirtual 273, 3) := by decide +kernel
theorem dX5_goTo_47 : decode cX5_goTo 47 = .ok (.istore 6, 2) := by decide +kernel
theorem dX5_goTo_49 : decode cX5_goTo 49 = .ok (.iload 6, 2) := by decide +kernel
theorem dX5_goTo_51 : decode cX5_goTo 51 = .ok (.ifCond .ne 6, 3) := by decide +kernel
theorem dX5_goTo_54 : decode cX5_goTo 54 = .ok (.goto 30, 3) := by decide +kernel
theorem dX5_goTo_57 : decode cX5_goTo 57 = .ok (.aload_n 0, 1) := by decide +kernel
theorem dX5_goTo_58 : decode cX5_goTo 58 = .ok (.getfield 10, 3) := by decide +kernel
theorem dX5_goTo_61 : decode cX5_goTo 61 = .ok (.dup, 1) := by decide +kernel
theorem dX5_goTo_62 : decode cX5_goTo 62 = .ok (.getfield 52, 3) := by decide +kernel
theorem dX5_goTo_65 : decode cX5_goTo 65 = .ok (.iload 6, 2) := by decide +kernel
theorem dX5_goTo_67 : decode cX5_goTo 67 = .ok (.isub, 1) := by decide +kernel
theorem dX5_goTo_68 : decode cX5_goTo 68 = .ok (.putfield 52, 3) := by decide +kernel
theorem dX5_goTo_71 : decode cX5_goTo 71 = .ok (.iload 4, 2) := by decide +kernel
theorem dX5_goTo_73 : decode cX5_goTo 73 = .ok (.iload 6, 2) := by decide +kernel
theorem dX5_goTo_75 : decode cX5_goTo 75 = .ok (.iadd, 1) := by decide +kernel
theorem dX5_goTo_76 : decode cX5_goTo 76 = .ok (.istore 4, 2) := by decide +kernel
theorem dX5_goTo_78 : decode cX5_goTo 78 = .ok (.iinc 5 1, 3) := by decide +kernel
theorem dX5_goTo_81 : decode cX5_goTo 81 = .ok (.goto (-68), 3) := by decide +kernel
theorem dX5_goTo_84 : decode cX5_goTo 84 = .ok (.iload 4, 2) := by decide +kernel
theorem dX5_goTo_86 : decode cX5_goTo 86 = .ok (.ireturn, 1) := by decide +kernel
theorem dX5_makeHomed_0 : decode cX5_makeHomed 0 = .ok (.aload_n 1, 1) := by decide +kernel
theorem dX5_makeHomed_1 : decode cX5_makeHomed 1 = .ok (.getfield 277, 3) := by decide +kernel
theorem dX5_makeHomed_4 : decode cX5_makeHomed 4 = .ok (.istore_n 2, 1) := by decide +kernel
theorem dX5_makeHomed_5 : decode cX5_makeHomed 5 = .ok (.aload_n 0, 1) := by decide +kernel
theorem dX5_makeHomed_6 : decode cX5_makeHomed 6 = .ok (.getfield 10, 3) := by decide +kernel
theorem dX5_makeHomed_9 : decode cX5_makeHomed 9 = .ok (.dup, 1) := by decide +kernel
theorem dX5_makeHomed_10 : decode cX5_makeHomed 10 = .ok (.getfield 52, 3) := by decide +kernel
theorem dX5_makeHomed_13 : decode cX5_makeHomed 13 = .ok (.aload_n 1, 1) := by decide +kernel
theorem dX5_makeHomed_14 : decode cX5_makeHomed 14 = .ok (.aload_n 0, 1) := by decide +kernel
theorem dX5_makeHomed_15 : decode cX5_makeHomed 15 = .ok (.getfield 10, 3) := by decide +kernel
theorem dX5_makeHomed_18 : decode cX5_makeHomed 18 = .ok (.getfield 52, 3) := by decide +kernel
theorem dX5_makeHomed_21 : decode cX5_makeHomed 21 = .ok (.aload_n 0, 1) := by decide +kernel
theorem dX5_makeHomed_22 : decode cX5_makeHomed 22 = .ok (.getfield 10, 3) := by decide +kernel
theorem dX5_makeHomed_25 : decode cX5_makeHomed 25 = .ok (.getfield 84, 3) := by decide +kernel
theorem dX5_makeHomed_28 : decode cX5_makeHomed 28 = .ok (.invokevirtual 280, 3) := by decide +kernel
theorem dX5_makeHomed_31 : decode cX5_makeHomed 31 = .ok (.isub, 1) := by decide +kernel
theorem dX5_makeHomed_32 : decode cX5_makeHomed 32 = .ok (.putfield 52, 3) := by decide +kernel
theorem dX5_makeHomed_35 : decode cX5_makeHomed 35 = .ok (.aload_n 1, 1) := by decide +kernel
theorem dX5_makeHomed_36 : decode cX5_makeHomed 36 = .ok (.getfield 277, 3) := by decide +kernel
theorem dX5_makeHomed_39 : decode cX5_makeHomed 39 = .ok (.iload_n 2, 1) := by decide +kernel
theorem dX5_makeHomed_40 : decode cX5_makeHomed 40 = .ok (.if_icmp .le 7, 3) := by decide +kernel
theorem dX5_makeHomed_43 : decode cX5_makeHomed 43 = .ok (.iconst 1, 1) := by decide +kernel
theorem dX5_makeHomed_44 : decode cX5_makeHomed 44 = .ok (.goto 4, 3) := by decide +kernel
theorem dX5_makeHomed_47 : decode cX5_makeHomed 47 = .ok (.iconst 0, 1) := by decide +kernel
theorem dX5_makeHomed_48 : decode cX5_makeHomed 48 = .ok (.ireturn, 1) := by decide +kernel
theorem dX5_makeGreased_0 : decode cX5_makeGreased 0 = .ok (.aload_n 0, 1) := by decide +kernel
theorem dX5_makeGreased_1 : decode cX5_makeGreased 1 = .ok (.getfield 10, 3) := by decide +kernel
theorem dX5_makeGreased_4 : decode cX5_makeGreased 4 = .ok (.aload_n 0, 1) := by decide +kernel
theorem dX5_makeGreased_5 : decode cX5_makeGreased 5 = .ok (.getfield 10, 3) := by decide +kernel
theorem dX5_makeGreased_8 : decode cX5_makeGreased 8 = .ok (.getfield 84, 3) := by decide +kernel
theorem dX5_makeGreased_11 : decode cX5_makeGreased 11 = .ok (.getfield 270, 3) := by decide +kernel
theorem dX5_makeGreased_14 : decode cX5_makeGreased 14 = .ok (.invokevirtual 152, 3) := by decide +kernel
theorem dX5_makeGreased_17 : decode cX5_makeGreased 17 = .ok (.aload_n 1, 1) := by decide +kernel
theorem dX5_makeGreased_18 : decode cX5_makeGreased 18 = .ok (.aload_n 0, 1) := by decide +kernel
theorem dX5_makeGreased_19 : decode cX5_makeGreased 19 = .ok (.getfield 10, 3) := by decide +kernel
theorem dX5_makeGreased_22 : decode cX5_makeGreased 22 = .ok (.getfield 84, 3) := by decide +kernel
theorem dX5_makeGreased_25 : decode cX5_makeGreased 25 = .ok (.getfield 282, 3) := by decide +kernel
theorem dX5_makeGreased_28 : decode cX5_makeGreased 28 = .ok (.putfield 285, 3) := by decide +kernel
theorem dX5_makeGreased_31 : decode cX5_makeGreased 31 = .ok (.return_, 1) := by decide +kernel
theorem dX5_cheaperWay_0 : decode cX5_cheaperWay 0 = .ok (.aload_n 1, 1) := by decide +kernel
theorem dX5_cheaperWay_1 : decode cX5_cheaperWay 1 = .ok (.iload_n 2, 1) := by decide +kernel
theorem dX5_cheaperWay_2 : decode cX5_cheaperWay 2 = .ok (.iconst 1, 1) := by decide +kernel
theorem dX5_cheaperWay_3 : decode cX5_cheaperWay 3 = .ok (.iconst (-1), 1) := by decide +kernel
theorem dX5_cheaperWay_4 : decode cX5_cheaperWay 4 = .ok (.aload_n 0, 1) := by decide +kernel
theorem dX5_cheaperWay_5 : decode cX5_cheaperWay 5 = .ok (.getfield 10, 3) := by decide +kernel
theorem dX5_cheaperWay_8 : decode cX5_cheaperWay 8 = .ok (.getfield 84, 3) := by decide +kernel
theorem dX5_cheaperWay_11 : decode cX5_cheaperWay 11 = .ok (.invokevirtual 199, 3) := by decide +kernel
theorem dX5_cheaperWay_14 : decode cX5_cheaperWay 14 = .ok (.istore_n 3, 1) := by decide +kernel
theorem dX5_cheaperWay_15 : decode cX5_cheaperWay 15 = .ok (.aload_n 1, 1) := by decide +kernel
theorem dX5_cheaperWay_16 : decode cX5_cheaperWay 16 = .ok (.iload_n 2, 1) := by decide +kernel
theorem dX5_cheaperWay_17 : decode cX5_cheaperWay 17 = .ok (.iconst (-1), 1) := by decide +kernel
theorem dX5_cheaperWay_18 : decode cX5_cheaperWay 18 = .ok (.iconst (-1), 1) := by decide +kernel
theorem dX5_cheaperWay_19 : decode cX5_cheaperWay 19 = .ok (.aload_n 0, 1) := by decide +kernel
theorem dX5_cheaperWay_20 : decode cX5_cheaperWay 20 = .ok (.getfield 10, 3) := by decide +kernel
theorem dX5_cheaperWay_23 : decode cX5_cheaperWay 23 = .ok (.getfield 84, 3) := by decide +kernel
theorem dX5_cheaperWay_26 : decode cX5_cheaperWay 26 = .ok (.invokevirtual 199, 3) := by decide +kernel
theorem dX5_cheaperWay_29 : decode cX5_cheaperWay 29 = .ok (.istore 4, 2) := by decide +kernel
theorem dX5_cheaperWay_31 : decode cX5_cheaperWay 31 = .ok (.iload_n 3, 1) := by decide +kernel
theorem dX5_cheaperWay_32 : decode cX5_cheaperWay 32 = .ok (.iload 4, 2) := by decide +kernel
theorem dX5_cheaperWay_34 : decode cX5_cheaperWay 34 = .ok (.if_icmp .gt 7, 3) := by decide +kernel
theorem dX5_cheaperWay_37 : decode cX5_cheaperWay 37 = .ok (.iconst 1, 1) := by decide +kernel
theorem dX5_cheaperWay_38 : decode cX5_cheaperWay 38 = .ok (.goto 4, 3) := by decide +kernel
theorem dX5_cheaperWay_41 : decode cX5_cheaperWay 41 = .ok (.iconst (-1), 1) := by decide +kernel
theorem dX5_cheaperWay_42 : decode cX5_cheaperWay 42 = .ok (.ireturn, 1) := by decide +kernel
theorem dX5_countOf_0 : decode cX5_countOf 0 = .ok (.iload_n 1, 1) := by decide +kernel
theorem dX5_countOf_1 : decode cX5_countOf 1 = .ok (.tableswitch 127 0 7 #[47, 55, 65, 75, 85, 93, 101, 119], 47) := by decide +kernel
theorem dX5_countOf_48 : decode cX5_countOf 48 = .ok (.aload_n 0, 1) := by decide +kernel
theorem dX5_countOf_49 : decode cX5_countOf 49 = .ok (.getfield 10, 3) := by decide +kernel
theorem dX5_countOf_52 : decode cX5_countOf 52 = .ok (.getfield 52, 3) := by decide +kernel
theorem dX5_countOf_55 : decode cX5_countOf 55 = .ok (.ireturn, 1) := by decide +kernel
theorem dX5_countOf_56 : decode cX5_countOf 56 = .ok (.aload_n 0, 1) := by decide +kernel
theorem dX5_countOf_57 : decode cX5_countOf 57 = .ok (.getfield 10, 3) := by decide +kernel
theorem dX5_countOf_60 : decode cX5_countOf 60 = .ok (.bipush 6, 2) := by decide +kernel
theorem dX5_countOf_62 : decode cX5_countOf 62 = .ok (.invokevirtual 217, 3) := by decide +kernel
theorem dX5_countOf_65 : decode cX5_countOf 65 = .ok (.ireturn, 1) := by decide +kernel
theorem dX5_countOf_66 : decode cX5_countOf 66 = .ok (.aload_n 0, 1) := by decide +kernel
theorem dX5_countOf_67 : decode cX5_countOf 67 = .ok (.getfield 10, 3) := by decide +kernel
theorem dX5_countOf_70 : decode cX5_countOf 70 = .ok (.bipush 8, 2) := by decide +kernel
theorem dX5_countOf_72 : decode cX5_countOf 72 = .ok (.invokevirtual 217, 3) := by decide +kernel
theorem dX5_countOf_75 : decode cX5_countOf 75 = .ok (.ireturn, 1) := by decide +kernel
theorem dX5_countOf_76 : decode cX5_countOf 76 = .ok (.aload_n 0, 1) := by decide +kernel
theorem dX5_countOf_77 : decode cX5_countOf 77 = .ok (.getfield 10, 3) := by decide +kernel
theorem dX5_countOf_80 : decode cX5_countOf 80 = .ok (.bipush 7, 2) := by decide +kernel
theorem dX5_countOf_82 : decode cX5_countOf 82 = .ok (.invokevirtual 217, 3) := by decide +kernel
theorem dX5_countOf_85 : decode cX5_countOf 85 = .ok (.ireturn, 1) := by decide +kernel
theorem dX5_countOf_86 : decode cX5_countOf 86 = .ok (.aload_n 0, 1) := by decide +kernel
theorem dX5_countOf_87 : decode cX5_countOf 87 = .ok (.getfield 10, 3) := by decide +kernel
theorem dX5_countOf_90 : decode cX5_countOf 90 = .ok (.getfield 310, 3) := by decide +kernel
theorem dX5_countOf_93 : decode cX5_countOf 93 = .ok (.ireturn, 1) := by decide +kernel
theorem dX5_countOf_94 : decode cX5_countOf 94 = .ok (.aload_n 0, 1) := by decide +kernel
theorem dX5_countOf_95 : decode cX5_countOf 95 = .ok (.getfield 10, 3) := by decide +kernel
theorem dX5_countOf_98 : decode cX5_countOf 98 = .ok (.invokevirtual 313, 3) := by decide +kernel
theorem dX5_countOf_101 : decode cX5_countOf 101 = .ok (.ireturn, 1) := by decide +kernel
theorem dX5_countOf_102 : decode cX5_countOf 102 = .ok (.aload_n 0, 1) := by decide +kernel
theorem dX5_countOf_103 : decode cX5_countOf 103 = .ok (.getfield 10, 3) := by decide +kernel
theorem dX5_countOf_106 : decode cX5_countOf 106 = .ok (.aload_n 0, 1) := by decide +kernel
theorem dX5_countOf_107 : decode cX5_countOf 107 = .ok (.getfield 10, 3) := by decide +kernel
theorem dX5_countOf_110 : decode cX5_countOf 110 = .ok (.getfield 84, 3) := by decide +kernel
theorem dX5_countOf_113 : decode cX5_countOf 113 = .ok (.getfield 316, 3) := by decide +kernel
theorem dX5_countOf_116 : decode cX5_countOf 116 = .ok (.invokevirtual 319, 3) := by decide +kernel
theorem dX5_countOf_119 : decode cX5_countOf 119 = .ok (.ireturn, 1) := by decide +kernel
theorem dX5_countOf_120 : decode cX5_countOf 120 = .ok (.aload_n 0, 1) := by decide +kernel
theorem dX5_countOf_121 : decode cX5_countOf 121 = .ok (.getfield 10, 3) := by decide +kernel
theorem dX5_countOf_124 : decode cX5_countOf 124 = .ok (.invokevirtual 322, 3) := by decide +kernel
theorem dX5_countOf_127 : decode cX5_countOf 127 = .ok (.ireturn, 1) := by decide +kernel
theorem dX5_countOf_128 : decode cX5_countOf 128 = .ok (.aload_n 0, 1) := by decide +kernel
theorem dX5_countOf_129 : decode cX5_countOf 129 = .ok (.getfield 19, 3) := by decide +kernel
theorem dX5_countOf_132 : decode cX5_countOf 132 = .ok (.getfield 174, 3) := by decide +kernel
theorem dX5_countOf_135 : decode cX5_countOf 135 = .ok (.ireturn, 1) := by decide +kernel
theorem dX5_homingFact_0 : decode cX5_homingFact 0 = .ok (.aload_n 0, 1) := by decide +kernel
theorem dX5_homingFact_1 : decode cX5_homingFact 1 = .ok (.getfield 26, 3) := by decide +kernel
theorem dX5_homingFact_4 : decode cX5_homingFact 4 = .ok (.aload_n 1, 1) := by decide +kernel
theorem dX5_homingFact_5 : decode cX5_homingFact 5 = .ok (.invokevirtual 335, 3) := by decide +kernel
theorem dX5_homingFact_8 : decode cX5_homingFact 8 = .ok (.aload_n 0, 1) := by decide +kernel
theorem dX5_homingFact_9 : decode cX5_homingFact 9 = .ok (.getfield 26, 3) := by decide +kernel
theorem dX5_homingFact_12 : decode cX5_homingFact 12 = .ok (.aload_n 0, 1) := by decide +kernel
theorem dX5_homingFact_13 : decode cX5_homingFact 13 = .ok (.getfield 10, 3) := by decide +kernel
theorem dX5_homingFact_16 : decode cX5_homingFact 16 = .ok (.getfield 52, 3) := by decide +kernel
theorem dX5_homingFact_19 : decode cX5_homingFact 19 = .ok (.aload_n 0, 1) := by decide +kernel
theorem dX5_homingFact_20 : decode cX5_homingFact 20 = .ok (.getfield 10, 3) := by decide +kernel
theorem dX5_homingFact_23 : decode cX5_homingFact 23 = .ok (.getfield 84, 3) := by decide +kernel
theorem dX5_homingFact_26 : decode cX5_homingFact 26 = .ok (.invokevirtual 280, 3) := by decide +kernel
theorem dX5_homingFact_29 : decode cX5_homingFact 29 = .ok (.istore_n 3, 1) := by decide +kernel
theorem dX5_homingFact_30 : decode cX5_homingFact 30 = .ok (.iload_n 2, 1) := by decide +kernel
theorem dX5_homingFact_31 : decode cX5_homingFact 31 = .ok (.lookupswitch 40 #[(0, 25), (1, 38)], 25) := by decide +kernel
theorem dX5_homingFact_56 : decode cX5_homingFact 56 = .ok (.aload_n 0, 1) := by decide +kernel
theorem dX5_homingFact_57 : decode cX5_homingFact 57 = .ok (.getfield 26, 3) := by decide +kernel
theorem dX5_homingFact_60 : decode cX5_homingFact 60 = .ok (.getfield 124, 3) := by decide +kernel
theorem dX5_homingFact_63 : decode cX5_homingFact 63 = .ok (.aload_n 1, 1) := by decide +kernel
theorem dX5_homingFact_64 : decode cX5_homingFact 64 = .ok (.getfield 124, 3) := by decide +kernel
theorem dX5_homingFact_67 : decode cX5_homingFact 67 = .ok (.isub, 1) := by decide +kernel
theorem dX5_homingFact_68 : decode cX5_homingFact 68 = .ok (.ireturn, 1) := by decide +kernel
theorem dX5_homingFact_69 : decode cX5_homingFact 69 = .ok (.iload_n 3, 1) := by decide +kernel
theorem dX5_homingFact_70 : decode cX5_homingFact 70 = .ok (.ireturn, 1) := by decide +kernel
theorem dX5_homingFact_71 : decode cX5_homingFact 71 = .ok (.aload_n 0, 1) := by decide +kernel
theorem dX5_homingFact_72 : decode cX5_homingFact 72 = .ok (.getfield 26, 3) := by decide +kernel
theorem dX5_homingFact_75 : decode cX5_homingFact 75 = .ok (.getfield 277, 3) := by decide +kernel
theorem dX5_homingFact_78 : decode cX5_homingFact 78 = .ok (.aload_n 1, 1) := by decide +kernel
theorem dX5_homingFact_79 : decode cX5_homingFact 79 = .ok (.getfield 277, 3) := by decide +kernel
theorem dX5_homingFact_82 : decode cX5_homingFact 82 = .ok (.isub, 1) := by decide +kernel
theorem dX5_homingFact_83 : decode cX5_homingFact 83 = .ok (.ireturn, 1) := by decide +kernel
theorem dJ9_floorMod_7cf53_0 : decode cJ9_floorMod_7cf53 0 = .ok (.iload_n 0, 1) := by decide +kernel
theorem dJ9_floorMod_7cf53_1 : decode cJ9_floorMod_7cf53 1 = .ok (.iload_n 1, 1) := by decide +kernel
theorem dJ9_floorMod_7cf53_2 : decode cJ9_floorMod_7cf53 2 = .ok (.irem, 1) := by decide +kernel
theorem dJ9_floorMod_7cf53_3 : decode cJ9_floorMod_7cf53 3 = .ok (.istore_n 2, 1) := by decide +kernel
theorem dJ9_floorMod_7cf53_4 : decode cJ9_floorMod_7cf53 4 = .ok (.iload_n 0, 1) := by decide +kernel
theorem dJ9_floorMod_7cf53_5 : decode cJ9_floorMod_7cf53 5 = .ok (.iload_n 1, 1) := by decide +kernel
theorem dJ9_floorMod_7cf53_6 : decode cJ9_floorMod_7cf53 6 = .ok (.ixor, 1) := by decide +kernel
theorem dJ9_floorMod_7cf53_7 : decode cJ9_floorMod_7cf53 7 = .ok (.ifCond .ge 11, 3) := by decide +kernel
theorem dJ9_floorMod_7cf53_10 : decode cJ9_floorMod_7cf53 10 = .ok (.iload_n 2, 1) := by decide +kernel
theorem dJ9_floorMod_7cf53_11 : decode cJ9_floorMod_7cf53 11 = .ok (.ifCond .eq 7, 3) := by decide +kernel
theorem dJ9_floorMod_7cf53_14 : decode cJ9_floorMod_7cf53 14 = .ok (.iload_n 2, 1) := by decide +kernel
theorem dJ9_floorMod_7cf53_15 : decode cJ9_floorMod_7cf53 15 = .ok (.iload_n 1, 1) := by decide +kernel
theorem dJ9_floorMod_7cf53_16 : decode cJ9_floorMod_7cf53 16 = .ok (.iadd, 1) := by decide +kernel
theorem dJ9_floorMod_7cf53_17 : decode cJ9_floorMod_7cf53 17 = .ok (.ireturn, 1) := by decide +kernel
theorem dJ9_floorMod_7cf53_18 : decode cJ9_floorMod_7cf53 18 = .ok (.iload_n 2, 1) := by decide +kernel
theorem dJ9_floorMod_7cf53_19 : decode cJ9_floorMod_7cf53 19 = .ok (.ireturn, 1) := by decide +kernel
theorem dJ9_max_7cf53_0 : decode cJ9_max_7cf53 0 = .ok (.iload_n 0, 1) := by decide +kernel
theorem dJ9_max_7cf53_1 : decode cJ9_max_7cf53 1 = .ok (.iload_n 1, 1) := by decide +kernel
theorem dJ9_max_7cf53_2 : decode cJ9_max_7cf53 2 = .ok (.if_icmp .lt 7, 3) := by decide +kernel
theorem dJ9_max_7cf53_5 : decode cJ9_max_7cf53 5 = .ok (.iload_n 0, 1) := by decide +kernel
theorem dJ9_max_7cf53_6 : decode cJ9_max_7cf53 6 = .ok (.goto 4, 3) := by decide +kernel
theorem dJ9_max_7cf53_9 : decode cJ9_max_7cf53 9 = .ok (.iload_n 1, 1) := by decide +kernel
theorem dJ9_max_7cf53_10 : decode cJ9_max_7cf53 10 = .ok (.ireturn, 1) := by decide +kernel
theorem dJ9_min_7cf53_0 : decode cJ9_min_7cf53 0 = .ok (.iload_n 0, 1) := by decide +kernel
theorem dJ9_min_7cf53_1 : decode cJ9_min_7cf53 1 = .ok (.iload_n 1, 1) := by decide +kernel
theorem dJ9_min_7cf53_2 : decode cJ9_min_7cf53 2 = .ok (.if_icmp .gt 7, 3) := by decide +kernel
theorem dJ9_min_7cf53_5 : decode cJ9_min_7cf53 5 = .ok (.iload_n 0, 1) := by decide +kernel
theorem dJ9_min_7cf53_6 : decode cJ9_min_7cf53 6 = .ok (.goto 4, 3) := by decide +kernel
theorem dJ9_min_7cf53_9 : decode cJ9_min_7cf53 9 = .ok (.iload_n 1, 1) := by decide +kernel
theorem dJ9_min_7cf53_10 : decode cJ9_min_7cf53 10 = .ok (.ireturn, 1) := by decide +kernel
theorem dL_cell_0 : decode cL_cell 0 = .ok (.iload_n 1, 1) := by decide +kernel
theorem dL_cell_1 : decode cL_cell 1 = .ok (.aload_n 0, 1) := by decide +kernel
theorem dL_cell_2 : decode cL_cell 2 = .ok (.arraylength, 1) := by decide +kernel
theorem dL_cell_3 : decode cL_cell 3 = .ok (.if_icmp .ge 9, 3) := by decide +kernel
theorem dL_cell_6 : decode cL_cell 6 = .ok (.aload_n 0, 1) := by decide +kernel
theorem dL_cell_7 : decode cL_cell 7 = .ok (.iload_n 1, 1) := by decide +kernel
theorem dL_cell_8 : decode cL_cell 8 = .ok (.iaload, 1) := by decide +kernel
theorem dL_cell_9 : decode cL_cell 9 = .ok (.goto 11, 3) := by decide +kernel
theorem dL_cell_12 : decode cL_cell 12 = .ok (.ldc 7, 2) := by decide +kernel
theorem dL_cell_14 : decode cL_cell 14 = .ok (.iload_n 1, 1) := by decide +kernel
theorem dL_cell_15 : decode cL_cell 15 = .ok (.sipush 137, 3) := by decide +kernel
theorem dL_cell_18 : decode cL_cell 18 = .ok (.iadd, 1) := by decide +kernel
theorem dL_cell_19 : decode cL_cell 19 = .ok (.imul, 1) := by decide +kernel
theorem dL_cell_20 : decode cL_cell 20 = .ok (.ireturn, 1) := by decide +kernel
theorem dL_at_0 : decode cL_at 0 = .ok (.iload_n 0, 1) := by decide +kernel
theorem dL_at_1 : decode cL_at 1 = .ok (.iconst 1, 1) := by decide +kernel
theorem dL_at_2 : decode cL_at 2 = .ok (.iushr, 1) := by decide +kernel
theorem dL_at_3 : decode cL_at 3 = .ok (.iload_n 1, 1) := by decide +kernel
theorem dL_at_4 : decode cL_at 4 = .ok (.irem, 1) := by decide +kernel
theorem dL_at_5 : decode cL_at 5 = .ok (.ireturn, 1) := by decide +kernel
theorem dL_tooth_0 : decode cL_tooth 0 = .ok (.iload_n 1, 1) := by decide +kernel
theorem dL_tooth_1 : decode cL_tooth 1 = .ok (.ifCond .le 7, 3) := by decide +kernel
theorem dL_tooth_4 : decode cL_tooth 4 = .ok (.iload_n 0, 1) := by decide +kernel
theorem dL_tooth_5 : decode cL_tooth 5 = .ok (.goto 15, 3) := by decide +kernel
theorem dL_tooth_8 : decode cL_tooth 8 = .ok (.iload_n 0, 1) := by decide +kernel
theorem dL_tooth_9 : decode cL_tooth 9 = .ok (.ifCond .ne 8, 3) := by decide +kernel
theorem dL_tooth_12 : decode cL_tooth 12 = .ok (.bipush 23, 2) := by decide +kernel
theorem dL_tooth_14 : decode cL_tooth 14 = .ok (.goto 6, 3) := by decide +kernel
theorem dL_tooth_17 : decode cL_tooth 17 = .ok (.iload_n 0, 1) := by decide +kernel
theorem dL_tooth_18 : decode cL_tooth 18 = .ok (.iconst 1, 1) := by decide +kernel
theorem dL_tooth_19 : decode cL_tooth 19 = .ok (.isub, 1) := by decide +kernel
theorem dL_tooth_20 : decode cL_tooth 20 = .ok (.ireturn, 1) := by decide +kernel
theorem dL_go_0 : decode cL_go 0 = .ok (.iload_n 1, 1) := by decide +kernel
theorem dL_go_1 : decode cL_go 1 = .ok (.ifCond .le 19, 3) := by decide +kernel
theorem dL_go_4 : decode cL_go 4 = .ok (.iload_n 0, 1) := by decide +kernel
theorem dL_go_5 : decode cL_go 5 = .ok (.bipush 23, 2) := by decide +kernel
theorem dL_go_7 : decode cL_go 7 = .ok (.if_icmp .ne 7, 3) := by decide +kernel
theorem dL_go_10 : decode cL_go 10 = .ok (.iconst 0, 1) := by decide +kernel
theorem dL_go_11 : decode cL_go 11 = .ok (.goto 21, 3) := by decide +kernel
theorem dL_go_14 : decode cL_go 14 = .ok (.iload_n 0, 1) := by decide +kernel
theorem dL_go_15 : decode cL_go 15 = .ok (.iconst 1, 1) := by decide +kernel
theorem dL_go_16 : decode cL_go 16 = .ok (.iadd, 1) := by decide +kernel
theorem dL_go_17 : decode cL_go 17 = .ok (.goto 15, 3) := by decide +kernel
theorem dL_go_20 : decode cL_go 20 = .ok (.iload_n 0, 1) := by decide +kernel
theorem dL_go_21 : decode cL_go 21 = .ok (.ifCond .ne 8, 3) := by decide +kernel
theorem dL_go_24 : decode cL_go 24 = .ok (.bipush 23, 2) := by decide +kernel
theorem dL_go_26 : decode cL_go 26 = .ok (.goto 6, 3) := by decide +kernel
theorem dL_go_29 : decode cL_go 29 = .ok (.iload_n 0, 1) := by decide +kernel
theorem dL_go_30 : decode cL_go 30 = .ok (.iconst 1, 1) := by decide +kernel
theorem dL_go_31 : decode cL_go 31 = .ok (.isub, 1) := by decide +kernel
theorem dL_go_32 : decode cL_go 32 = .ok (.ireturn, 1) := by decide +kernel
theorem dL_wear_0 : decode cL_wear 0 = .ok (.iload_n 3, 1) := by decide +kernel
theorem dL_wear_1 : decode cL_wear 1 = .ok (.bipush 12, 2) := by decide +kernel
theorem dL_wear_3 : decode cL_wear 3 = .ok (.if_icmp .ge 14, 3) := by decide +kernel
theorem dL_wear_6 : decode cL_wear 6 = .ok (.aload_n 0, 1) := by decide +kernel
theorem dL_wear_7 : decode cL_wear 7 = .ok (.bipush 12, 2) := by decide +kernel
theorem dL_wear_9 : decode cL_wear 9 = .ok (.iload_n 2, 1) := by decide +kernel
theorem dL_wear_10 : decode cL_wear 10 = .ok (.imul, 1) := by decide +kernel
theorem dL_wear_11 : decode cL_wear 11 = .ok (.iload_n 3, 1) := by decide +kernel
theorem dL_wear_12 : decode cL_wear 12 = .ok (.iadd, 1) := by decide +kernel
theorem dL_wear_13 : decode cL_wear 13 = .ok (.iaload, 1) := by decide +kernel
theorem dL_wear_14 : decode cL_wear 14 = .ok (.goto 14, 3) := by decide +kernel
theorem dL_wear_17 : decode cL_wear 17 = .ok (.aload_n 1, 1) := by decide +kernel
theorem dL_wear_18 : decode cL_wear 18 = .ok (.bipush 12, 2) := by decide +kernel
theorem dL_wear_20 : decode cL_wear 20 = .ok (.iload_n 2, 1) := by decide +kernel
theorem dL_wear_21 : decode cL_wear 21 = .ok (.imul, 1) := by decide +kernel
theorem dL_wear_22 : decode cL_wear 22 = .ok (.iload_n 3, 1) := by decide +kernel
theorem dL_wear_23 : decode cL_wear 23 = .ok (.iadd, 1) := by decide +kernel
theorem dL_wear_24 : decode cL_wear 24 = .ok (.bipush 12, 2) := by decide +kernel
theorem dL_wear_26 : decode cL_wear 26 = .ok (.isub, 1) := by decide +kernel
theorem dL_wear_27 : decode cL_wear 27 = .ok (.iaload, 1) := by decide +kernel
theorem dL_wear_28 : decode cL_wear 28 = .ok (.ireturn, 1) := by decide +kernel
theorem dL_setWear_0 : decode cL_setWear 0 = .ok (.iload_n 3, 1) := by decide +kernel
theorem dL_setWear_1 : decode cL_setWear 1 = .ok (.bipush 12, 2) := by decide +kernel
theorem dL_setWear_3 : decode cL_setWear 3 = .ok (.if_icmp .ge 16, 3) := by decide +kernel
theorem dL_setWear_6 : decode cL_setWear 6 = .ok (.aload_n 0, 1) := by decide +kernel
theorem dL_setWear_7 : decode cL_setWear 7 = .ok (.bipush 12, 2) := by decide +kernel
theorem dL_setWear_9 : decode cL_setWear 9 = .ok (.iload_n 2, 1) := by decide +kernel
theorem dL_setWear_10 : decode cL_setWear 10 = .ok (.imul, 1) := by decide +kernel
theorem dL_setWear_11 : decode cL_setWear 11 = .ok (.iload_n 3, 1) := by decide +kernel
theorem dL_setWear_12 : decode cL_setWear 12 = .ok (.iadd, 1) := by decide +kernel
theorem dL_setWear_13 : decode cL_setWear 13 = .ok (.iload 4, 2) := by decide +kernel
theorem dL_setWear_15 : decode cL_setWear 15 = .ok (.iastore, 1) := by decide +kernel
theorem dL_setWear_16 : decode cL_setWear 16 = .ok (.goto 16, 3) := by decide +kernel
theorem dL_setWear_19 : decode cL_setWear 19 = .ok (.aload_n 1, 1) := by decide +kernel
theorem dL_setWear_20 : decode cL_setWear 20 = .ok (.bipush 12, 2) := by decide +kernel
theorem dL_setWear_22 : decode cL_setWear 22 = .ok (.iload_n 2, 1) := by decide +kernel
theorem dL_setWear_23 : decode cL_setWear 23 = .ok (.imul, 1) := by decide +kernel
theorem dL_setWear_24 : decode cL_setWear 24 = .ok (.iload_n 3, 1) := by decide +kernel
theorem dL_setWear_25 : decode cL_setWear 25 = .ok (.iadd, 1) := by decide +kernel
theorem dL_setWear_26 : decode cL_setWear 26 = .ok (.bipush 12, 2) := by decide +kernel
theorem dL_setWear_28 : decode cL_setWear 28 = .ok (.isub, 1) := by decide +kernel
theorem dL_setWear_29 : decode cL_setWear 29 = .ok (.iload 4, 2) := by decide +kernel
theorem dL_setWear_31 : decode cL_setWear 31 = .ok (.iastore, 1) := by decide +kernel
theorem dL_setWear_32 : decode cL_setWear 32 = .ok (.return_, 1) := by decide +kernel
theorem dL_toll_0 : decode cL_toll 0 = .ok (.iconst 1, 1) := by decide +kernel
theorem dL_toll_1 : decode cL_toll 1 = .ok (.iload_n 1, 1) := by decide +kernel
theorem dL_toll_2 : decode cL_toll 2 = .ok (.iadd, 1) := by decide +kernel
theorem dL_toll_3 : decode cL_toll 3 = .ok (.iload_n 2, 1) := by decide +kernel
theorem dL_toll_4 : decode cL_toll 4 = .ok (.aload_n 0, 1) := by decide +kernel
theorem dL_toll_5 : decode cL_toll 5 = .ok (.iconst 4, 1) := by decide +kernel
theorem dL_toll_6 : decode cL_toll 6 = .ok (.iaload, 1) := by decide +kernel
theorem dL_toll_7 : decode cL_toll 7 = .ok (.idiv, 1) := by decide +kernel
theorem dL_toll_8 : decode cL_toll 8 = .ok (.iadd, 1) := by decide +kernel
theorem dL_toll_9 : decode cL_toll 9 = .ok (.istore 4, 2) := by decide +kernel
theorem dL_toll_11 : decode cL_toll 11 = .ok (.iload_n 3, 1) := by decide +kernel
theorem dL_toll_12 : decode cL_toll 12 = .ok (.ifCond .eq 15, 3) := by decide +kernel
theorem dL_toll_15 : decode cL_toll 15 = .ok (.iload 4, 2) := by decide +kernel
theorem dL_toll_17 : decode cL_toll 17 = .ok (.iconst 2, 1) := by decide +kernel
theorem dL_toll_18 : decode cL_toll 18 = .ok (.idiv, 1) := by decide +kernel
theorem dL_toll_19 : decode cL_toll 19 = .ok (.iload 4, 2) := by decide +kernel
theorem dL_toll_21 : decode cL_toll 21 = .ok (.iconst 2, 1) := by decide +kernel
theorem dL_toll_22 : decode cL_toll 22 = .ok (.irem, 1) := by decide +kernel
theorem dL_toll_23 : decode cL_toll 23 = .ok (.iadd, 1) := by decide +kernel
theorem dL_toll_24 : decode cL_toll 24 = .ok (.goto 5, 3) := by decide +kernel
theorem dL_toll_27 : decode cL_toll 27 = .ok (.iload 4, 2) := by decide +kernel
theorem dL_toll_29 : decode cL_toll 29 = .ok (.ireturn, 1) := by decide +kernel
theorem dL_step_0 : decode cL_step 0 = .ok (.aload_n 1, 1) := by decide +kernel
theorem dL_step_1 : decode cL_step 1 = .ok (.iload 10, 2) := by decide +kernel
theorem dL_step_3 : decode cL_step 3 = .ok (.iaload, 1) := by decide +kernel
theorem dL_step_4 : decode cL_step 4 = .ok (.iload 11, 2) := by decide +kernel
theorem dL_step_6 : decode cL_step 6 = .ok (.invokestatic 8, 3) := by decide +kernel
theorem dL_step_9 : decode cL_step 9 = .ok (.istore 12, 2) := by decide +kernel
theorem dL_step_11 : decode cL_step 11 = .ok (.aload 8, 2) := by decide +kernel
theorem dL_step_13 : decode cL_step 13 = .ok (.aload 9, 2) := by decide +kernel
theorem dL_step_15 : decode cL_step 15 = .ok (.iload 10, 2) := by decide +kernel
theorem dL_step_17 : decode cL_step 17 = .ok (.iload 12, 2) := by decide +kernel
theorem dL_step_19 : decode cL_step 19 = .ok (.invokestatic 14, 3) := by decide +kernel
theorem dL_step_22 : decode cL_step 22 = .ok (.istore 13, 2) := by decide +kernel
theorem dL_step_24 : decode cL_step 24 = .ok (.aload_n 0, 1) := by decide +kernel
theorem dL_step_25 : decode cL_step 25 = .ok (.aload_n 3, 1) := by decide +kernel
theorem dL_step_26 : decode cL_step 26 = .ok (.iload 10, 2) := by decide +kernel
theorem dL_step_28 : decode cL_step 28 = .ok (.iaload, 1) := by decide +kernel
theorem dL_step_29 : decode cL_step 29 = .ok (.iload 13, 2) := by decide +kernel
theorem dL_step_31 : decode cL_step 31 = .ok (.aload 6, 2) := by decide +kernel
theorem dL_step_33 : decode cL_step 33 = .ok (.iload 10, 2) := by decide +kernel
theorem dL_step_35 : decode cL_step 35 = .ok (.iaload, 1) := by decide +kernel
theorem dL_step_36 : decode cL_step 36 = .ok (.ifCond .le 7, 3) := by decide +kernel
theorem dL_step_39 : decode cL_step 39 = .ok (.iconst 1, 1) := by decide +kernel
theorem dL_step_40 : decode cL_step 40 = .ok (.goto 4, 3) := by decide +kernel
theorem dL_step_43 : decode cL_step 43 = .ok (.iconst 0, 1) := by decide +kernel
theorem dL_step_44 : decode cL_step 44 = .ok (.invokestatic 18, 3) := by decide +kernel
theorem dL_step_47 : decode cL_step 47 = .ok (.istore 14, 2) := by decide +kernel
theorem dL_step_49 : decode cL_step 49 = .ok (.aload_n 0, 1) := by decide +kernel
theorem dL_step_50 : decode cL_step 50 = .ok (.iconst 0, 1) := by decide +kernel
theorem dL_step_51 : decode cL_step 51 = .ok (.iaload, 1) := by decide +kernel
theorem dL_step_52 : decode cL_step 52 = .ok (.iload 14, 2) := by decide +kernel
theorem dL_step_54 : decode cL_step 54 = .ok (.if_icmp .ge 5, 3) := by decide +kernel
theorem dL_step_57 : decode cL_step 57 = .ok (.iconst 0, 1) := by decide +kernel
theorem dL_step_58 : decode cL_step 58 = .ok (.ireturn, 1) := by decide +kernel
theorem dL_step_59 : decode cL_step 59 = .ok (.aload_n 0, 1) := by decide +kernel
theorem dL_step_60 : decode cL_step 60 = .ok (.iconst 0, 1) := by decide +kernel
theorem dL_step_61 : decode cL_step 61 = .ok (.dup2, 1) := by decide +kernel
theorem dL_step_62 : decode cL_step 62 = .ok (.iaload, 1) := by decide +kernel
theorem dL_step_63 : decode cL_step 63 = .ok (.iload 14, 2) := by decide +kernel
theorem dL_step_65 : decode cL_step 65 = .ok (.isub, 1) := by decide +kernel
theorem dL_step_66 : decode cL_step 66 = .ok (.iastore, 1) := by decide +kernel
theorem dL_step_67 : decode cL_step 67 = .ok (.aload 7, 2) := by decide +kernel
theorem dL_step_69 : decode cL_step 69 = .ok (.iconst 5, 1) := by decide +kernel
theorem dL_step_70 : decode cL_step 70 = .ok (.iload 10, 2) := by decide +kernel
theorem dL_step_72 : decode cL_step 72 = .ok (.imul, 1) := by decide +kernel
theorem dL_step_73 : decode cL_step 73 = .ok (.dup2, 1) := by decide +kernel
theorem dL_step_74 : decode cL_step 74 = .ok (.iaload, 1) := by decide +kernel
theorem dL_step_75 : decode cL_step 75 = .ok (.iconst 1, 1) := by decide +kernel
theorem dL_step_76 : decode cL_step 76 = .ok (.iadd, 1) := by decide +kernel
theorem dL_step_77 : decode cL_step 77 = .ok (.iastore, 1) := by decide +kernel
theorem dL_step_78 : decode cL_step 78 = .ok (.aload 7, 2) := by decide +kernel
theorem dL_step_80 : decode cL_step 80 = .ok (.iconst 5, 1) := by decide +kernel
theorem dL_step_81 : decode cL_step 81 = .ok (.iload 10, 2) := by decide +kernel
theorem dL_step_83 : decode cL_step 83 = .ok (.imul, 1) := by decide +kernel
theorem dL_step_84 : decode cL_step 84 = .ok (.iconst 2, 1) := by decide +kernel
theorem dL_step_85 : decode cL_step 85 = .ok (.iadd, 1) := by decide +kernel
theorem dL_step_86 : decode cL_step 86 = .ok (.dup2, 1) := by decide +kernel
theorem dL_step_87 : decode cL_step 87 = .ok (.iaload, 1) := by decide +kernel
theorem dL_step_88 : decode cL_step 88 = .ok (.iload 14, 2) := by decide +kernel
theorem dL_step_90 : decode cL_step 90 = .ok (.iadd, 1) := by decide +kernel
theorem dL_step_91 : decode cL_step 91 = .ok (.iastore, 1) := by decide +kernel
theorem dL_step_92 : decode cL_step 92 = .ok (.aload 6, 2) := by decide +kernel
theorem dL_step_94 : decode cL_step 94 = .ok (.iload 10, 2) := by decide +kernel
theorem dL_step_96 : decode cL_step 96 = .ok (.iaload, 1) := by decide +kernel
theorem dL_step_97 : decode cL_step 97 = .ok (.ifCond .le 12, 3) := by decide +kernel
theorem dL_step_100 : decode cL_step 100 = .ok (.aload 6, 2) := by decide +kernel
theorem dL_step_102 : decode cL_step 102 = .ok (.iload 10, 2) := by decide +kernel
theorem dL_step_104 : decode cL_step 104 = .ok (.dup2, 1) := by decide +kernel
theorem dL_step_105 : decode cL_step 105 = .ok (.iaload, 1) := by decide +kernel
theorem dL_step_106 : decode cL_step 106 = .ok (.iconst 1, 1) := by decide +kernel
theorem dL_step_107 : decode cL_step 107 = .ok (.isub, 1) := by decide +kernel
theorem dL_step_108 : decode cL_step 108 = .ok (.iastore, 1) := by decide +kernel
theorem dL_step_109 : decode cL_step 109 = .ok (.iconst 0, 1) := by decide +kernel
theorem dL_step_110 : decode cL_step 110 = .ok (.istore 15, 2) := by decide +kernel
theorem dL_step_112 : decode cL_step 112 = .ok (.aload 4, 2) := by decide +kernel
theorem dL_step_114 : decode cL_step 114 = .ok (.iload 10, 2) := by decide +kernel
theorem dL_step_116 : decode cL_step 116 = .ok (.iaload, 1) := by decide +kernel
theorem dL_step_117 : decode cL_step 117 = .ok (.iload 11, 2) := by decide +kernel
theorem dL_step_119 : decode cL_step 119 = .ok (.ineg, 1) := by decide +kernel
theorem dL_step_120 : decode cL_step 120 = .ok (.if_icmp .ne 50, 3) := by decide +kernel
theorem dL_step_123 : decode cL_step 123 = .ok (.aload 5, 2) := by decide +kernel
theorem dL_step_125 : decode cL_step 125 = .ok (.iload 10, 2) := by decide +kernel
theorem dL_step_127 : decode cL_step 127 = .ok (.iaload, 1) := by decide +kernel
theorem dL_step_128 : decode cL_step 128 = .ok (.bipush 12, 2) := by decide +kernel
theorem dL_step_130 : decode cL_step 130 = .ok (.if_icmp .ge 12, 3) := by decide +kernel
theorem dL_step_133 : decode cL_step 133 = .ok (.aload 5, 2) := by decide +kernel
theorem dL_step_135 : decode cL_step 135 = .ok (.iload 10, 2) := by decide +kernel
theorem dL_step_137 : decode cL_step 137 = .ok (.dup2, 1) := by decide +kernel
theorem dL_step_138 : decode cL_step 138 = .ok (.iaload, 1) := by decide +kernel
theorem dL_step_139 : decode cL_step 139 = .ok (.iconst 1, 1) := by decide +kernel
theorem dL_step_140 : decode cL_step 140 = .ok (.iadd, 1) := by decide +kernel
theorem dL_step_141 : decode cL_step 141 = .ok (.iastore, 1) := by decide +kernel
theorem dL_step_142 : decode cL_step 142 = .ok (.aload 7, 2) := by decide +kernel
theorem dL_step_144 : decode cL_step 144 = .ok (.iconst 5, 1) := by decide +kernel
theorem dL_step_145 : decode cL_step 145 = .ok (.iload 10, 2) := by decide +kernel
theorem dL_step_147 : decode cL_step 147 = .ok (.imul, 1) := by decide +kernel
theorem dL_step_148 : decode cL_step 148 = .ok (.iconst 3, 1) := by decide +kernel
theorem dL_step_149 : decode cL_step 149 = .ok (.iadd, 1) := by decide +kernel
theorem dL_step_150 : decode cL_step 150 = .ok (.dup2, 1) := by decide +kernel
theorem dL_step_151 : decode cL_step 151 = .ok (.iaload, 1) := by decide +kernel
theorem dL_step_152 : decode cL_step 152 = .ok (.iconst 1, 1) := by decide +kernel
theorem dL_step_153 : decode cL_step 153 = .ok (.iadd, 1) := by decide +kernel
theorem dL_step_154 : decode cL_step 154 = .ok (.iastore, 1) := by decide +kernel
theorem dL_step_155 : decode cL_step 155 = .ok (.iload 13, 2) := by decide +kernel
theorem dL_step_157 : decode cL_step 157 = .ok (.aload_n 0, 1) := by decide +kernel
theorem dL_step_158 : decode cL_step 158 = .ok (.iconst 5, 1) := by decide +kernel
theorem dL_step_159 : decode cL_step 159 = .ok (.iaload, 1) := by decide +kernel
theorem dL_step_160 : decode cL_step 160 = .ok (.if_icmp .lt 7, 3) := by decide +kernel
theorem dL_step_163 : decode cL_step 163 = .ok (.iconst 1, 1) := by decide +kernel
theorem dL_step_164 : decode cL_step 164 = .ok (.goto 4, 3) := by decide +kernel
theorem dL_step_167 : decode cL_step 167 = .ok (.iconst 0, 1) := by decide +kernel
theorem dL_step_168 : decode cL_step 168 = .ok (.istore 15, 2) := by decide +kernel
theorem dL_step_170 : decode cL_step 170 = .ok (.aload_n 2, 1) := by decide +kernel
theorem dL_step_171 : decode cL_step 171 = .ok (.iload 10, 2) := by decide +kernel
theorem dL_step_173 : decode cL_step 173 = .ok (.aload_n 2, 1) := by decide +kernel
theorem dL_step_174 : decode cL_step 174 = .ok (.iload 10, 2) := by decide +kernel
theorem dL_step_176 : decode cL_step 176 = .ok (.iaload, 1) := by decide +kernel
theorem dL_step_177 : decode cL_step 177 = .ok (.iload 11, 2) := by decide +kernel
theorem dL_step_179 : decode cL_step 179 = .ok (.invokestatic 22, 3) := by decide +kernel
theorem dL_step_182 : decode cL_step 182 = .ok (.iastore, 1) := by decide +kernel
theorem dL_step_183 : decode cL_step 183 = .ok (.iload 15, 2) := by decide +kernel
theorem dL_step_185 : decode cL_step 185 = .ok (.ifCond .eq 19, 3) := by decide +kernel
theorem dL_step_188 : decode cL_step 188 = .ok (.aload 7, 2) := by decide +kernel
theorem dL_step_190 : decode cL_step 190 = .ok (.iconst 5, 1) := by decide +kernel
theorem dL_step_191 : decode cL_step 191 = .ok (.iload 10, 2) := by decide +kernel
theorem dL_step_193 : decode cL_step 193 = .ok (.imul, 1) := by decide +kernel
theorem dL_step_194 : decode cL_step 194 = .ok (.iconst 1, 1) := by decide +kernel
theorem dL_step_195 : decode cL_step 195 = .ok (.iadd, 1) := by decide +kernel
theorem dL_step_196 : decode cL_step 196 = .ok (.dup2, 1) := by decide +kernel
theorem dL_step_197 : decode cL_step 197 = .ok (.iaload, 1) := by decide +kernel
theorem dL_step_198 : decode cL_step 198 = .ok (.iconst 1, 1) := by decide +kernel
theorem dL_step_199 : decode cL_step 199 = .ok (.iadd, 1) := by decide +kernel
theorem dL_step_200 : decode cL_step 200 = .ok (.iastore, 1) := by decide +kernel
theorem dL_step_201 : decode cL_step 201 = .ok (.goto 16, 3) := by decide +kernel
theorem dL_step_204 : decode cL_step 204 = .ok (.aload_n 1, 1) := by decide +kernel
theorem dL_step_205 : decode cL_step 205 = .ok (.iload 10, 2) := by decide +kernel
theorem dL_step_207 : decode cL_step 207 = .ok (.aload_n 1, 1) := by decide +kernel
theorem dL_step_208 : decode cL_step 208 = .ok (.iload 10, 2) := by decide +kernel
theorem dL_step_210 : decode cL_step 210 = .ok (.iaload, 1) := by decide +kernel
theorem dL_step_211 : decode cL_step 211 = .ok (.iload 11, 2) := by decide +kernel
theorem dL_step_213 : decode cL_step 213 = .ok (.invokestatic 22, 3) := by decide +kernel
theorem dL_step_216 : decode cL_step 216 = .ok (.iastore, 1) := by decide +kernel
theorem dL_step_217 : decode cL_step 217 = .ok (.aload 8, 2) := by decide +kernel
theorem dL_step_219 : decode cL_step 219 = .ok (.aload 9, 2) := by decide +kernel
theorem dL_step_221 : decode cL_step 221 = .ok (.iload 10, 2) := by decide +kernel
theorem dL_step_223 : decode cL_step 223 = .ok (.iload 12, 2) := by decide +kernel
theorem dL_step_225 : decode cL_step 225 = .ok (.iload 13, 2) := by decide +kernel
theorem dL_step_227 : decode cL_step 227 = .ok (.aload_n 0, 1) := by decide +kernel
theorem dL_step_228 : decode cL_step 228 = .ok (.iconst 3, 1) := by decide +kernel
theorem dL_step_229 : decode cL_step 229 = .ok (.iaload, 1) := by decide +kernel
theorem dL_step_230 : decode cL_step 230 = .ok (.iadd, 1) := by decide +kernel
theorem dL_step_231 : decode cL_step 231 = .ok (.bipush 99, 2) := by decide +kernel
theorem dL_step_233 : decode cL_step 233 = .ok (.if_icmp .le 8, 3) := by decide +kernel
theorem dL_step_236 : decode cL_step 236 = .ok (.bipush 99, 2) := by decide +kernel
theorem dL_step_238 : decode cL_step 238 = .ok (.goto 9, 3) := by decide +kernel
theorem dL_step_241 : decode cL_step 241 = .ok (.iload 13, 2) := by decide +kernel
theorem dL_step_243 : decode cL_step 243 = .ok (.aload_n 0, 1) := by decide +kernel
theorem dL_step_244 : decode cL_step 244 = .ok (.iconst 3, 1) := by decide +kernel
theorem dL_step_245 : decode cL_step 245 = .ok (.iaload, 1) := by decide +kernel
theorem dL_step_246 : decode cL_step 246 = .ok (.iadd, 1) := by decide +kernel
theorem dL_step_247 : decode cL_step 247 = .ok (.invokestatic 25, 3) := by decide +kernel
theorem dL_step_250 : decode cL_step 250 = .ok (.aload 4, 2) := by decide +kernel
theorem dL_step_252 : decode cL_step 252 = .ok (.iload 10, 2) := by decide +kernel
theorem dL_step_254 : decode cL_step 254 = .ok (.iload 11, 2) := by decide +kernel
theorem dL_step_256 : decode cL_step 256 = .ok (.iastore, 1) := by decide +kernel
theorem dL_step_257 : decode cL_step 257 = .ok (.iconst 1, 1) := by decide +kernel
theorem dL_step_258 : decode cL_step 258 = .ok (.ireturn, 1) := by decide +kernel
theorem dL_cost_0 : decode cL_cost 0 = .ok (.iconst 0, 1) := by decide +kernel
theorem dL_cost_1 : decode cL_cost 1 = .ok (.istore 10, 2) := by decide +kernel
theorem dL_cost_3 : decode cL_cost 3 = .ok (.iconst 0, 1) := by decide +kernel
theorem dL_cost_4 : decode cL_cost 4 = .ok (.istore 11, 2) := by decide +kernel
theorem dL_cost_6 : decode cL_cost 6 = .ok (.aload_n 1, 1) := by decide +kernel
theorem dL_cost_7 : decode cL_cost 7 = .ok (.iload 6, 2) := by decide +kernel
theorem dL_cost_9 : decode cL_cost 9 = .ok (.iaload, 1) := by decide +kernel
theorem dL_cost_10 : decode cL_cost 10 = .ok (.istore 12, 2) := by decide +kernel
theorem dL_cost_12 : decode cL_cost 12 = .ok (.iload 12, 2) := by decide +kernel
theorem dL_cost_14 : decode cL_cost 14 = .ok (.iload 7, 2) := by decide +kernel
theorem dL_cost_16 : decode cL_cost 16 = .ok (.if_icmp .eq 76, 3) := by decide +kernel
theorem dL_cost_19 : decode cL_cost 19 = .ok (.iload 12, 2) := by decide +kernel
theorem dL_cost_21 : decode cL_cost 21 = .ok (.iload 8, 2) := by decide +kernel
theorem dL_cost_23 : decode cL_cost 23 = .ok (.invokestatic 8, 3) := by decide +kernel
theorem dL_cost_26 : decode cL_cost 26 = .ok (.istore 13, 2) := by decide +kernel
theorem dL_cost_28 : decode cL_cost 28 = .ok (.iload 10, 2) := by decide +kernel
theorem dL_cost_30 : decode cL_cost 30 = .ok (.aload_n 0, 1) := by decide +kernel
theorem dL_cost_31 : decode cL_cost 31 = .ok (.aload_n 2, 1) := by decide +kernel
theorem dL_cost_32 : decode cL_cost 32 = .ok (.iload 6, 2) := by decide +kernel
theorem dL_cost_34 : decode cL_cost 34 = .ok (.iaload, 1) := by decide +kernel
theorem dL_cost_35 : decode cL_cost 35 = .ok (.iload 13, 2) := by decide +kernel
theorem dL_cost_37 : decode cL_cost 37 = .ok (.iload 9, 2) := by decide +kernel
theorem dL_cost_39 : decode cL_cost 39 = .ok (.if_icmp .ne 7, 3) := by decide +kernel
theorem dL_cost_42 : decode cL_cost 42 = .ok (.iconst 0, 1) := by decide +kernel
theorem dL_cost_43 : decode cL_cost 43 = .ok (.goto 14, 3) := by decide +kernel
theorem dL_cost_46 : decode cL_cost 46 = .ok (.aload 4, 2) := by decide +kernel
theorem dL_cost_48 : decode cL_cost 48 = .ok (.aload 5, 2) := by decide +kernel
theorem dL_cost_50 : decode cL_cost 50 = .ok (.iload 6, 2) := by decide +kernel
theorem dL_cost_52 : decode cL_cost 52 = .ok (.iload 13, 2) := by decide +kernel
theorem dL_cost_54 : decode cL_cost 54 = .ok (.invokestatic 14, 3) := by decide +kernel
theorem dL_cost_57 : decode cL_cost 57 = .ok (.aload_n 3, 1) := by decide +kernel
theorem dL_cost_58 : decode cL_cost 58 = .ok (.iload 6, 2) := by decide +kernel
theorem dL_cost_60 : decode cL_cost 60 = .ok (.iaload, 1) := by decide +kernel
theorem dL_cost_61 : decode cL_cost 61 = .ok (.iload 11, 2) := by decide +kernel
theorem dL_cost_63 : decode cL_cost 63 = .ok (.if_icmp .le 7, 3) := by decide +kernel
theorem dL_cost_66 : decode cL_cost 66 = .ok (.iconst 1, 1) := by decide +kernel
theorem dL_cost_67 : decode cL_cost 67 = .ok (.goto 4, 3) := by decide +kernel
theorem dL_cost_70 : decode cL_cost 70 = .ok (.iconst 0, 1) := by decide +kernel
theorem dL_cost_71 : decode cL_cost 71 = .ok (.invokestatic 18, 3) := by decide +kernel
theorem dL_cost_74 : decode cL_cost 74 = .ok (.iadd, 1) := by decide +kernel
theorem dL_cost_75 : decode cL_cost 75 = .ok (.istore 10, 2) := by decide +kernel
theorem dL_cost_77 : decode cL_cost 77 = .ok (.iinc 11 1, 3) := by decide +kernel
theorem dL_cost_80 : decode cL_cost 80 = .ok (.iload 12, 2) := by decide +kernel
theorem dL_cost_82 : decode cL_cost 82 = .ok (.iload 8, 2) := by decide +kernel
theorem dL_cost_84 : decode cL_cost 84 = .ok (.invokestatic 22, 3) := by decide +kernel
theorem dL_cost_87 : decode cL_cost 87 = .ok (.istore 12, 2) := by decide +kernel
theorem dL_cost_89 : decode cL_cost 89 = .ok (.goto (-77), 3) := by decide +kernel
theorem dL_cost_92 : decode cL_cost 92 = .ok (.iload 10, 2) := by decide +kernel
theorem dL_cost_94 : decode cL_cost 94 = .ok (.ireturn, 1) := by decide +kernel
theorem dL_moves_0 : decode cL_moves 0 = .ok (.iload_n 1, 1) := by decide +kernel
theorem dL_moves_1 : decode cL_moves 1 = .ok (.iconst 5, 1) := by decide +kernel
theorem dL_moves_2 : decode cL_moves 2 = .ok (.invokestatic 29, 3) := by decide +kernel
theorem dL_moves_5 : decode cL_moves 5 = .ok (.istore 13, 2) := by decide +kernel
theorem dL_moves_7 : decode cL_moves 7 = .ok (.iload_n 1, 1) := by decide +kernel
theorem dL_moves_8 : decode cL_moves 8 = .ok (.iconst 4, 1) := by decide +kernel
theorem dL_moves_9 : decode cL_moves 9 = .ok (.ishr, 1) := by decide +kernel
theorem dL_moves_10 : decode cL_moves 10 = .ok (.iconst 4, 1) := by decide +kernel
theorem dL_moves_11 : decode cL_moves 11 = .ok (.invokestatic 29, 3) := by decide +kernel
theorem dL_moves_14 : decode cL_moves 14 = .ok (.istore 14, 2) := by decide +kernel
theorem dL_moves_16 : decode cL_moves 16 = .ok (.iload 13, 2) := by decide +kernel
theorem dL_moves_18 : decode cL_moves 18 = .ok (.iconst 2, 1) := by decide +kernel
theorem dL_moves_19 : decode cL_moves 19 = .ok (.if_icmp .ge 161, 3) := by decide +kernel
theorem dL_moves_22 : decode cL_moves 22 = .ok (.iload_n 2, 1) := by decide +kernel
theorem dL_moves_23 : decode cL_moves 23 = .ok (.iconst 2, 1) := by decide +kernel
theorem dL_moves_24 : decode cL_moves 24 = .ok (.invokestatic 29, 3) := by decide +kernel
theorem dL_moves_27 : decode cL_moves 27 = .ok (.ifCond .ne 7, 3) := by decide +kernel
theorem dL_moves_30 : decode cL_moves 30 = .ok (.iconst 1, 1) := by decide +kernel
theorem dL_moves_31 : decode cL_moves 31 = .ok (.goto 4, 3) := by decide +kernel
theorem dL_moves_34 : decode cL_moves 34 = .ok (.iconst (-1), 1) := by decide +kernel
theorem dL_moves_35 : decode cL_moves 35 = .ok (.istore 15, 2) := by decide +kernel
theorem dL_moves_37 : decode cL_moves 37 = .ok (.iconst 1, 1) := by decide +kernel
theorem dL_moves_38 : decode cL_moves 38 = .ok (.iload_n 2, 1) := by decide +kernel
theorem dL_moves_39 : decode cL_moves 39 = .ok (.iconst 2, 1) := by decide +kernel
theorem dL_moves_40 : decode cL_moves 40 = .ok (.ishr, 1) := by decide +kernel
theorem dL_moves_41 : decode cL_moves 41 = .ok (.bipush 24, 2) := by decide +kernel
theorem dL_moves_43 : decode cL_moves 43 = .ok (.invokestatic 29, 3) := by decide +kernel
theorem dL_moves_46 : decode cL_moves 46 = .ok (.iadd, 1) := by decide +kernel
theorem dL_moves_47 : decode cL_moves 47 = .ok (.istore 16, 2) := by decide +kernel
theorem dL_moves_49 : decode cL_moves 49 = .ok (.aload_n 3, 1) := by decide +kernel
theorem dL_moves_50 : decode cL_moves 50 = .ok (.iconst 0, 1) := by decide +kernel
theorem dL_moves_51 : decode cL_moves 51 = .ok (.iaload, 1) := by decide +kernel
theorem dL_moves_52 : decode cL_moves 52 = .ok (.aload_n 3, 1) := by decide +kernel
theorem dL_moves_53 : decode cL_moves 53 = .ok (.aload 6, 2) := by decide +kernel
theorem dL_moves_55 : decode cL_moves 55 = .ok (.iload 14, 2) := by decide +kernel
theorem dL_moves_57 : decode cL_moves 57 = .ok (.iaload, 1) := by decide +kernel
theorem dL_moves_58 : decode cL_moves 58 = .ok (.aload 11, 2) := by decide +kernel
theorem dL_moves_60 : decode cL_moves 60 = .ok (.aload 12, 2) := by decide +kernel
theorem dL_moves_62 : decode cL_moves 62 = .ok (.iload 14, 2) := by decide +kernel
theorem dL_moves_64 : decode cL_moves 64 = .ok (.aload 4, 2) := by decide +kernel
theorem dL_moves_66 : decode cL_moves 66 = .ok (.iload 14, 2) := by decide +kernel
theorem dL_moves_68 : decode cL_moves 68 = .ok (.iaload, 1) := by decide +kernel
theorem dL_moves_69 : decode cL_moves 69 = .ok (.iload 15, 2) := by decide +kernel
theorem dL_moves_71 : decode cL_moves 71 = .ok (.invokestatic 8, 3) := by decide +kernel
theorem dL_moves_74 : decode cL_moves 74 = .ok (.invokestatic 14, 3) := by decide +kernel
theorem dL_moves_77 : decode cL_moves 77 = .ok (.aload 9, 2) := by decide +kernel
theorem dL_moves_79 : decode cL_moves 79 = .ok (.iload 14, 2) := by decide +kernel
theorem dL_moves_81 : decode cL_moves 81 = .ok (.iaload, 1) := by decide +kernel
theorem dL_moves_82 : decode cL_moves 82 = .ok (.ifCond .le 7, 3) := by decide +kernel
theorem dL_moves_85 : decode cL_moves 85 = .ok (.iconst 1, 1) := by decide +kernel
theorem dL_moves_86 : decode cL_moves 86 = .ok (.goto 4, 3) := by decide +kernel
theorem dL_moves_89 : decode cL_moves 89 = .ok (.iconst 0, 1) := by decide +kernel
theorem dL_moves_90 : decode cL_moves 90 = .ok (.invokestatic 18, 3) := by decide +kernel
theorem dL_moves_93 : decode cL_moves 93 = .ok (.if_icmp .ge 5, 3) := by decide +kernel
theorem dL_moves_96 : decode cL_moves 96 = .ok (.iconst 1, 1) := by decide +kernel
theorem dL_moves_97 : decode cL_moves 97 = .ok (.ireturn, 1) := by decide +kernel
theorem dL_moves_98 : decode cL_moves 98 = .ok (.iconst 0, 1) := by decide +kernel
theorem dL_moves_99 : decode cL_moves 99 = .ok (.istore 17, 2) := by decide +kernel
theorem dL_moves_101 : decode cL_moves 101 = .ok (.iload 17, 2) := by decide +kernel
theorem dL_moves_103 : decode cL_moves 103 = .ok (.iload 16, 2) := by decide +kernel
theorem dL_moves_105 : decode cL_moves 105 = .ok (.if_icmp .ge 38, 3) := by decide +kernel
theorem dL_moves_108 : decode cL_moves 108 = .ok (.aload_n 3, 1) := by decide +kernel
theorem dL_moves_109 : decode cL_moves 109 = .ok (.aload 4, 2) := by decide +kernel
theorem dL_moves_111 : decode cL_moves 111 = .ok (.aload 5, 2) := by decide +kernel
theorem dL_moves_113 : decode cL_moves 113 = .ok (.aload 6, 2) := by decide +kernel
theorem dL_moves_115 : decode cL_moves 115 = .ok (.aload 7, 2) := by decide +kernel
theorem dL_moves_117 : decode cL_moves 117 = .ok (.aload 8, 2) := by decide +kernel
theorem dL_moves_119 : decode cL_moves 119 = .ok (.aload 9, 2) := by decide +kernel
theorem dL_moves_121 : decode cL_moves 121 = .ok (.aload 10, 2) := by decide +kernel
theorem dL_moves_123 : decode cL_moves 123 = .ok (.aload 11, 2) := by decide +kernel
theorem dL_moves_125 : decode cL_moves 125 = .ok (.aload 12, 2) := by decide +kernel
theorem dL_moves_127 : decode cL_moves 127 = .ok (.iload 14, 2) := by decide +kernel
theorem dL_moves_129 : decode cL_moves 129 = .ok (.iload 15, 2) := by decide +kernel
theorem dL_moves_131 : decode cL_moves 131 = .ok (.invokestatic 32, 3) := by decide +kernel
theorem dL_moves_134 : decode cL_moves 134 = .ok (.ifCond .eq 9, 3) := by decide +kernel
theorem dL_moves_137 : decode cL_moves 137 = .ok (.iinc 17 1, 3) := by decide +kernel
theorem dL_moves_140 : decode cL_moves 140 = .ok (.goto (-39), 3) := by decide +kernel
theorem dL_moves_143 : decode cL_moves 143 = .ok (.aload_n 3, 1) := by decide +kernel
theorem dL_moves_144 : decode cL_moves 144 = .ok (.iconst 2, 1) := by decide +kernel
theorem dL_moves_145 : decode cL_moves 145 = .ok (.iaload, 1) := by decide +kernel
theorem dL_moves_146 : decode cL_moves 146 = .ok (.bipush 6, 2) := by decide +kernel
theorem dL_moves_148 : decode cL_moves 148 = .ok (.if_icmp .ge 10, 3) := by decide +kernel
theorem dL_moves_151 : decode cL_moves 151 = .ok (.aload_n 3, 1) := by decide +kernel
theorem dL_moves_152 : decode cL_moves 152 = .ok (.iconst 2, 1) := by decide +kernel
theorem dL_moves_153 : decode cL_moves 153 = .ok (.dup2, 1) := by decide +kernel
theorem dL_moves_154 : decode cL_moves 154 = .ok (.iaload, 1) := by decide +kernel
theorem dL_moves_155 : decode cL_moves 155 = .ok (.iconst 1, 1) := by decide +kernel
theorem dL_moves_156 : decode cL_moves 156 = .ok (.iadd, 1) := by decide +kernel
theorem dL_moves_157 : decode cL_moves 157 = .ok (.iastore, 1) := by decide +kernel
theorem dL_moves_158 : decode cL_moves 158 = .ok (.aload_n 0, 1) := by decide +kernel
theorem dL_moves_159 : decode cL_moves 159 = .ok (.iload 14, 2) := by decide +kernel
theorem dL_moves_161 : decode cL_moves 161 = .ok (.iload 15, 2) := by decide +kernel
theorem dL_moves_163 : decode cL_moves 163 = .ok (.iload 16, 2) := by decide +kernel
theorem dL_moves_165 : decode cL_moves 165 = .ok (.imul, 1) := by decide +kernel
theorem dL_moves_166 : decode cL_moves 166 = .ok (.invokevirtual 36, 3) := by decide +kernel
theorem dL_moves_169 : decode cL_moves 169 = .ok (.iload 17, 2) := by decide +kernel
theorem dL_moves_171 : decode cL_moves 171 = .ok (.if_icmp .ne 7, 3) := by decide +kernel
theorem dL_moves_174 : decode cL_moves 174 = .ok (.iconst 1, 1) := by decide +kernel
theorem dL_moves_175 : decode cL_moves 175 = .ok (.goto 4, 3) := by decide +kernel
theorem dL_moves_178 : decode cL_moves 178 = .ok (.iconst 0, 1) := by decide +kernel
theorem dL_moves_179 : decode cL_moves 179 = .ok (.ireturn, 1) := by decide +kernel
theorem dL_moves_180 : decode cL_moves 180 = .ok (.iload 13, 2) := by decide +kernel
theorem dL_moves_182 : decode cL_moves 182 = .ok (.iconst 4, 1) := by decide +kernel
theorem dL_moves_183 : decode cL_moves 183 = .ok (.if_icmp .ge 262, 3) := by decide +kernel
theorem dL_moves_186 : decode cL_moves 186 = .ok (.iload_n 2, 1) := by decide +kernel
theorem dL_moves_187 : decode cL_moves 187 = .ok (.bipush 24, 2) := by decide +kernel
theorem dL_moves_189 : decode cL_moves 189 = .ok (.invokestatic 29, 3) := by decide +kernel
theorem dL_moves_192 : decode cL_moves 192 = .ok (.istore 15, 2) := by decide +kernel
theorem dL_moves_194 : decode cL_moves 194 = .ok (.aload_n 3, 1) := by decide +kernel
theorem dL_moves_195 : decode cL_moves 195 = .ok (.aload 5, 2) := by decide +kernel
theorem dL_moves_197 : decode cL_moves 197 = .ok (.aload 6, 2) := by decide +kernel
theorem dL_moves_199 : decode cL_moves 199 = .ok (.aload 9, 2) := by decide +kernel
theorem dL_moves_201 : decode cL_moves 201 = .ok (.aload 11, 2) := by decide +kernel
theorem dL_moves_203 : decode cL_moves 203 = .ok (.aload 12, 2) := by decide +kernel
theorem dL_moves_205 : decode cL_moves 205 = .ok (.iload 14, 2) := by decide +kernel
theorem dL_moves_207 : decode cL_moves 207 = .ok (.iload 15, 2) := by decide +kernel
theorem dL_moves_209 : decode cL_moves 209 = .ok (.iconst 1, 1) := by decide +kernel
theorem dL_moves_210 : decode cL_moves 210 = .ok (.iconst (-1), 1) := by decide +kernel
theorem dL_moves_211 : decode cL_moves 211 = .ok (.invokestatic 40, 3) := by decide +kernel
theorem dL_moves_214 : decode cL_moves 214 = .ok (.istore 16, 2) := by decide +kernel
theorem dL_moves_216 : decode cL_moves 216 = .ok (.aload_n 3, 1) := by decide +kernel
theorem dL_moves_217 : decode cL_moves 217 = .ok (.aload 5, 2) := by decide +kernel
theorem dL_moves_219 : decode cL_moves 219 = .ok (.aload 6, 2) := by decide +kernel
theorem dL_moves_221 : decode cL_moves 221 = .ok (.aload 9, 2) := by decide +kernel
theorem dL_moves_223 : decode cL_moves 223 = .ok (.aload 11, 2) := by decide +kernel
theorem dL_moves_225 : decode cL_moves 225 = .ok (.aload 12, 2) := by decide +kernel
theorem dL_moves_227 : decode cL_moves 227 = .ok (.iload 14, 2) := by decide +kernel
theorem dL_moves_229 : decode cL_moves 229 = .ok (.iload 15, 2) := by decide +kernel
theorem dL_moves_231 : decode cL_moves 231 = .ok (.iconst (-1), 1) := by decide +kernel
theorem dL_moves_232 : decode cL_moves 232 = .ok (.iconst (-1), 1) := by decide +kernel
theorem dL_moves_233 : decode cL_moves 233 = .ok (.invokestatic 40, 3) := by decide +kernel
theorem dL_moves_236 : decode cL_moves 236 = .ok (.istore 17, 2) := by decide +kernel
theorem dL_moves_238 : decode cL_moves 238 = .ok (.aload_n 0, 1) := by decide +kernel
theorem dL_moves_239 : decode cL_moves 239 = .ok (.iload 14, 2) := by decide +kernel
theorem dL_moves_241 : decode cL_moves 241 = .ok (.iload 15, 2) := by decide +kernel
theorem dL_moves_243 : decode cL_moves 243 = .ok (.iconst 1, 1) := by decide +kernel
theorem dL_moves_244 : decode cL_moves 244 = .ok (.invokevirtual 44, 3) := by decide +kernel
theorem dL_moves_247 : decode cL_moves 247 = .ok (.iload 16, 2) := by decide +kernel
theorem dL_moves_249 : decode cL_moves 249 = .ok (.if_icmp .ne 17, 3) := by decide +kernel
theorem dL_moves_252 : decode cL_moves 252 = .ok (.aload_n 0, 1) := by decide +kernel
theorem dL_moves_253 : decode cL_moves 253 = .ok (.iload 14, 2) := by decide +kernel
theorem dL_moves_255 : decode cL_moves 255 = .ok (.iload 15, 2) := by decide +kernel
theorem dL_moves_257 : decode cL_moves 257 = .ok (.iconst 0, 1) := by decide +kernel
theorem dL_moves_258 : decode cL_moves 258 = .ok (.invokevirtual 44, 3) := by decide +kernel
theorem dL_moves_261 : decode cL_moves 261 = .ok (.iload 17, 2) := by decide +kernel
theorem dL_moves_263 : decode cL_moves 263 = .ok (.if_icmp .eq 5, 3) := by decide +kernel
theorem dL_moves_266 : decode cL_moves 266 = .ok (.iconst 0, 1) := by decide +kernel
theorem dL_moves_267 : decode cL_moves 267 = .ok (.ireturn, 1) := by decide +kernel
theorem dL_moves_268 : decode cL_moves 268 = .ok (.iload 16, 2) := by decide +kernel
theorem dL_moves_270 : decode cL_moves 270 = .ok (.iload 17, 2) := by decide +kernel
theorem dL_moves_272 : decode cL_moves 272 = .ok (.if_icmp .gt 7, 3) := by decide +kernel
theorem dL_moves_275 : decode cL_moves 275 = .ok (.iconst 1, 1) := by decide +kernel
theorem dL_moves_276 : decode cL_moves 276 = .ok (.goto 4, 3) := by decide +kernel
theorem dL_moves_279 : decode cL_moves 279 = .ok (.iconst (-1), 1) := by decide +kernel
theorem dL_moves_280 : decode cL_moves 280 = .ok (.istore 18, 2) := by decide +kernel
theorem dL_moves_282 : decode cL_moves 282 = .ok (.aload 5, 2) := by decide +kernel
theorem dL_moves_284 : decode cL_moves 284 = .ok (.iload 14, 2) := by decide +kernel
theorem dL_moves_286 : decode cL_moves 286 = .ok (.iaload, 1) := by decide +kernel
theorem dL_moves_287 : decode cL_moves 287 = .ok (.iload 15, 2) := by decide +kernel
theorem dL_moves_289 : decode cL_moves 289 = .ok (.if_icmp .eq 52, 3) := by decide +kernel
theorem dL_moves_292 : decode cL_moves 292 = .ok (.aload_n 3, 1) := by decide +kernel
theorem dL_moves_293 : decode cL_moves 293 = .ok (.iconst 0, 1) := by decide +kernel
theorem dL_moves_294 : decode cL_moves 294 = .ok (.iaload, 1) := by decide +kernel
theorem dL_moves_295 : decode cL_moves 295 = .ok (.aload_n 3, 1) := by decide +kernel
theorem dL_moves_296 : decode cL_moves 296 = .ok (.aload 6, 2) := by decide +kernel
theorem dL_moves_298 : decode cL_moves 298 = .ok (.iload 14, 2) := by decide +kernel
theorem dL_moves_300 : decode cL_moves 300 = .ok (.iaload, 1) := by decide +kernel
theorem dL_moves_301 : decode cL_moves 301 = .ok (.aload 11, 2) := by decide +kernel
theorem dL_moves_303 : decode cL_moves 303 = .ok (.aload 12, 2) := by decide +kernel
theorem dL_moves_305 : decode cL_moves 305 = .ok (.iload 14, 2) := by decide +kernel
theorem dL_moves_307 : decode cL_moves 307 = .ok (.aload 4, 2) := by decide +kernel
theorem dL_moves_309 : decode cL_moves 309 = .ok (.iload 14, 2) := by decide +kernel
theorem dL_moves_311 : decode cL_moves 311 = .ok (.iaload, 1) := by decide +kernel
theorem dL_moves_312 : decode cL_moves 312 = .ok (.iload 18, 2) := by decide +kernel
theorem dL_moves_314 : decode cL_moves 314 = .ok (.invokestatic 8, 3) := by decide +kernel
theorem dL_moves_317 : decode cL_moves 317 = .ok (.invokestatic 14, 3) := by decide +kernel
theorem dL_moves_320 : decode cL_moves 320 = .ok (.aload 9, 2) := by decide +kernel
theorem dL_moves_322 : decode cL_moves 322 = .ok (.iload 14, 2) := by decide +kernel
theorem dL_moves_324 : decode cL_moves 324 = .ok (.iaload, 1) := by decide +kernel
theorem dL_moves_325 : decode cL_moves 325 = .ok (.ifCond .le 7, 3) := by decide +kernel
theorem dL_moves_328 : decode cL_moves 328 = .ok (.iconst 1, 1) := by decide +kernel
theorem dL_moves_329 : decode cL_moves 329 = .ok (.goto 4, 3) := by decide +kernel
theorem dL_moves_332 : decode cL_moves 332 = .ok (.iconst 0, 1) := by decide +kernel
theorem dL_moves_333 : decode cL_moves 333 = .ok (.invokestatic 18, 3) := by decide +kernel
theorem dL_moves_336 : decode cL_moves 336 = .ok (.if_icmp .ge 5, 3) := by decide +kernel
theorem dL_moves_339 : decode cL_moves 339 = .ok (.iconst 1, 1) := by decide +kernel
theorem dL_moves_340 : decode cL_moves 340 = .ok (.ireturn, 1) := by decide +kernel
theorem dL_moves_341 : decode cL_moves 341 = .ok (.aload 10, 2) := by decide +kernel
theorem dL_moves_343 : decode cL_moves 343 = .ok (.iconst 5, 1) := by decide +kernel
theorem dL_moves_344 : decode cL_moves 344 = .ok (.iload 14, 2) := by decide +kernel
theorem dL_moves_346 : decode cL_moves 346 = .ok (.imul, 1) := by decide +kernel
theorem dL_moves_347 : decode cL_moves 347 = .ok (.iconst 2, 1) := by decide +kernel
theorem dL_moves_348 : decode cL_moves 348 = .ok (.iadd, 1) := by decide +kernel
theorem dL_moves_349 : decode cL_moves 349 = .ok (.iaload, 1) := by decide +kernel
theorem dL_moves_350 : decode cL_moves 350 = .ok (.istore 19, 2) := by decide +kernel
theorem dL_moves_352 : decode cL_moves 352 = .ok (.iconst 1, 1) := by decide +kernel
theorem dL_moves_353 : decode cL_moves 353 = .ok (.istore 20, 2) := by decide +kernel
theorem dL_moves_355 : decode cL_moves 355 = .ok (.iload 20, 2) := by decide +kernel
theorem dL_moves_357 : decode cL_moves 357 = .ok (.ifCond .eq 44, 3) := by decide +kernel
theorem dL_moves_360 : decode cL_moves 360 = .ok (.aload 5, 2) := by decide +kernel
theorem dL_moves_362 : decode cL_moves 362 = .ok (.iload 14, 2) := by decide +kernel
theorem dL_moves_364 : decode cL_moves 364 = .ok (.iaload, 1) := by decide +kernel
theorem dL_moves_365 : decode cL_moves 365 = .ok (.iload 15, 2) := by decide +kernel
theorem dL_moves_367 : decode cL_moves 367 = .ok (.if_icmp .eq 34, 3) := by decide +kernel
theorem dL_moves_370 : decode cL_moves 370 = .ok (.aload_n 3, 1) := by decide +kernel
theorem dL_moves_371 : decode cL_moves 371 = .ok (.aload 4, 2) := by decide +kernel
theorem dL_moves_373 : decode cL_moves 373 = .ok (.aload 5, 2) := by decide +kernel
theorem dL_moves_375 : decode cL_moves 375 = .ok (.aload 6, 2) := by decide +kernel
theorem dL_moves_377 : decode cL_moves 377 = .ok (.aload 7, 2) := by decide +kernel
theorem dL_moves_379 : decode cL_moves 379 = .ok (.aload 8, 2) := by decide +kernel
theorem dL_moves_381 : decode cL_moves 381 = .ok (.aload 9, 2) := by decide +kernel
theorem dL_moves_383 : decode cL_moves 383 = .ok (.aload 10, 2) := by decide +kernel
theorem dL_moves_385 : decode cL_moves 385 = .ok (.aload 11, 2) := by decide +kernel
theorem dL_moves_387 : decode cL_moves 387 = .ok (.aload 12, 2) := by decide +kernel
theorem dL_moves_389 : decode cL_moves 389 = .ok (.iload 14, 2) := by decide +kernel
theorem dL_moves_391 : decode cL_moves 391 = .ok (.iload 18, 2) := by decide +kernel
theorem dL_moves_393 : decode cL_moves 393 = .ok (.invokestatic 32, 3) := by decide +kernel
theorem dL_moves_396 : decode cL_moves 396 = .ok (.istore 20, 2) := by decide +kernel
theorem dL_moves_398 : decode cL_moves 398 = .ok (.goto (-43), 3) := by decide +kernel
theorem dL_moves_401 : decode cL_moves 401 = .ok (.aload_n 3, 1) := by decide +kernel
theorem dL_moves_402 : decode cL_moves 402 = .ok (.iconst 2, 1) := by decide +kernel
theorem dL_moves_403 : decode cL_moves 403 = .ok (.iaload, 1) := by decide +kernel
theorem dL_moves_404 : decode cL_moves 404 = .ok (.bipush 6, 2) := by decide +kernel
theorem dL_moves_406 : decode cL_moves 406 = .ok (.if_icmp .ge 10, 3) := by decide +kernel
theorem dL_moves_409 : decode cL_moves 409 = .ok (.aload_n 3, 1) := by decide +kernel
theorem dL_moves_410 : decode cL_moves 410 = .ok (.iconst 2, 1) := by decide +kernel
theorem dL_moves_411 : decode cL_moves 411 = .ok (.dup2, 1) := by decide +kernel
theorem dL_moves_412 : decode cL_moves 412 = .ok (.iaload, 1) := by decide +kernel
theorem dL_moves_413 : decode cL_moves 413 = .ok (.iconst 1, 1) := by decide +kernel
theorem dL_moves_414 : decode cL_moves 414 = .ok (.iadd, 1) := by decide +kernel
theorem dL_moves_415 : decode cL_moves 415 = .ok (.iastore, 1) := by decide +kernel
theorem dL_moves_416 : decode cL_moves 416 = .ok (.aload_n 0, 1) := by decide +kernel
theorem dL_moves_417 : decode cL_moves 417 = .ok (.iload 14, 2) := by decide +kernel
theorem dL_moves_419 : decode cL_moves 419 = .ok (.iload 15, 2) := by decide +kernel
theorem dL_moves_421 : decode cL_moves 421 = .ok (.invokevirtual 47, 3) := by decide +kernel
theorem dL_moves_424 : decode cL_moves 424 = .ok (.aload 10, 2) := by decide +kernel
theorem dL_moves_426 : decode cL_moves 426 = .ok (.iconst 5, 1) := by decide +kernel
theorem dL_moves_427 : decode cL_moves 427 = .ok (.iload 14, 2) := by decide +kernel
theorem dL_moves_429 : decode cL_moves 429 = .ok (.imul, 1) := by decide +kernel
theorem dL_moves_430 : decode cL_moves 430 = .ok (.iconst 2, 1) := by decide +kernel
theorem dL_moves_431 : decode cL_moves 431 = .ok (.iadd, 1) := by decide +kernel
theorem dL_moves_432 : decode cL_moves 432 = .ok (.iaload, 1) := by decide +kernel
theorem dL_moves_433 : decode cL_moves 433 = .ok (.iload 19, 2) := by decide +kernel
theorem dL_moves_435 : decode cL_moves 435 = .ok (.isub, 1) := by decide +kernel
theorem dL_moves_436 : decode cL_moves 436 = .ok (.if_icmp .ne 7, 3) := by decide +kernel
theorem dL_moves_439 : decode cL_moves 439 = .ok (.iconst 1, 1) := by decide +kernel
theorem dL_moves_440 : decode cL_moves 440 = .ok (.goto 4, 3) := by decide +kernel
theorem dL_moves_443 : decode cL_moves 443 = .ok (.iconst 0, 1) := by decide +kernel
theorem dL_moves_444 : decode cL_moves 444 = .ok (.ireturn, 1) := by decide +kernel
theorem dL_moves_445 : decode cL_moves 445 = .ok (.aload_n 0, 1) := by decide +kernel
theorem dL_moves_446 : decode cL_moves 446 = .ok (.iload 14, 2) := by decide +kernel
theorem dL_moves_448 : decode cL_moves 448 = .ok (.iconst 0, 1) := by decide +kernel
theorem dL_moves_449 : decode cL_moves 449 = .ok (.invokevirtual 48, 3) := by decide +kernel
theorem dL_moves_452 : decode cL_moves 452 = .ok (.istore 15, 2) := by decide +kernel
theorem dL_moves_454 : decode cL_moves 454 = .ok (.iconst 0, 1) := by decide +kernel
theorem dL_moves_455 : decode cL_moves 455 = .ok (.istore 16, 2) := by decide +kernel
theorem dL_moves_457 : decode cL_moves 457 = .ok (.aload 4, 2) := by decide +kernel
theorem dL_moves_459 : decode cL_moves 459 = .ok (.iload 14, 2) := by decide +kernel
theorem dL_moves_461 : decode cL_moves 461 = .ok (.iaload, 1) := by decide +kernel
theorem dL_moves_462 : decode cL_moves 462 = .ok (.ifCond .eq 44, 3) := by decide +kernel
theorem dL_moves_465 : decode cL_moves 465 = .ok (.iload 16, 2) := by decide +kernel
theorem dL_moves_467 : decode cL_moves 467 = .ok (.bipush 40, 2) := by decide +kernel
theorem dL_moves_469 : decode cL_moves 469 = .ok (.if_icmp .ge 37, 3) := by decide +kernel
theorem dL_moves_472 : decode cL_moves 472 = .ok (.aload_n 3, 1) := by decide +kernel
theorem dL_moves_473 : decode cL_moves 473 = .ok (.aload 4, 2) := by decide +kernel
theorem dL_moves_475 : decode cL_moves 475 = .ok (.aload 5, 2) := by decide +kernel
theorem dL_moves_477 : decode cL_moves 477 = .ok (.aload 6, 2) := by decide +kernel
theorem dL_moves_479 : decode cL_moves 479 = .ok (.aload 7, 2) := by decide +kernel
theorem dL_moves_481 : decode cL_moves 481 = .ok (.aload 8, 2) := by decide +kernel
theorem dL_moves_483 : decode cL_moves 483 = .ok (.aload 9, 2) := by decide +kernel
theorem dL_moves_485 : decode cL_moves 485 = .ok (.aload 10, 2) := by decide +kernel
theorem dL_moves_487 : decode cL_moves 487 = .ok (.aload 11, 2) := by decide +kernel
theorem dL_moves_489 : decode cL_moves 489 = .ok (.aload 12, 2) := by decide +kernel
theorem dL_moves_491 : decode cL_moves 491 = .ok (.iload 14, 2) := by decide +kernel
theorem dL_moves_493 : decode cL_moves 493 = .ok (.iconst (-1), 1) := by decide +kernel
theorem dL_moves_494 : decode cL_moves 494 = .ok (.invokestatic 32, 3) := by decide +kernel
theorem dL_moves_497 : decode cL_moves 497 = .ok (.ifCond .eq 9, 3) := by decide +kernel
theorem dL_moves_500 : decode cL_moves 500 = .ok (.iinc 16 1, 3) := by decide +kernel
theorem dL_moves_503 : decode cL_moves 503 = .ok (.goto (-46), 3) := by decide +kernel
theorem dL_moves_506 : decode cL_moves 506 = .ok (.aload 4, 2) := by decide +kernel
theorem dL_moves_508 : decode cL_moves 508 = .ok (.iload 14, 2) := by decide +kernel
theorem dL_moves_510 : decode cL_moves 510 = .ok (.iaload, 1) := by decide +kernel
theorem dL_moves_511 : decode cL_moves 511 = .ok (.ifCond .ne 7, 3) := by decide +kernel
theorem dL_moves_514 : decode cL_moves 514 = .ok (.iconst 1, 1) := by decide +kernel
theorem dL_moves_515 : decode cL_moves 515 = .ok (.goto 4, 3) := by decide +kernel
theorem dL_moves_518 : decode cL_moves 518 = .ok (.iconst 0, 1) := by decide +kernel
theorem dL_moves_519 : decode cL_moves 519 = .ok (.istore 17, 2) := by decide +kernel
theorem dL_moves_521 : decode cL_moves 521 = .ok (.iload 17, 2) := by decide +kernel
theorem dL_moves_523 : decode cL_moves 523 = .ok (.ifCond .eq 34, 3) := by decide +kernel
theorem dL_moves_526 : decode cL_moves 526 = .ok (.aload 5, 2) := by decide +kernel
theorem dL_moves_528 : decode cL_moves 528 = .ok (.iload 14, 2) := by decide +kernel
theorem dL_moves_530 : decode cL_moves 530 = .ok (.iconst 0, 1) := by decide +kernel
theorem dL_moves_531 : decode cL_moves 531 = .ok (.iastore, 1) := by decide +kernel
theorem dL_moves_532 : decode cL_moves 532 = .ok (.aload 8, 2) := by decide +kernel
theorem dL_moves_534 : decode cL_moves 534 = .ok (.iload 14, 2) := by decide +kernel
theorem dL_moves_536 : decode cL_moves 536 = .ok (.iconst 0, 1) := by decide +kernel
theorem dL_moves_537 : decode cL_moves 537 = .ok (.iastore, 1) := by decide +kernel
theorem dL_moves_538 : decode cL_moves 538 = .ok (.aload 7, 2) := by decide +kernel
theorem dL_moves_540 : decode cL_moves 540 = .ok (.iload 14, 2) := by decide +kernel
theorem dL_moves_542 : decode cL_moves 542 = .ok (.iconst 0, 1) := by decide +kernel
theorem dL_moves_543 : decode cL_moves 543 = .ok (.iastore, 1) := by decide +kernel
theorem dL_moves_544 : decode cL_moves 544 = .ok (.aload 10, 2) := by decide +kernel
theorem dL_moves_546 : decode cL_moves 546 = .ok (.iconst 5, 1) := by decide +kernel
theorem dL_moves_547 : decode cL_moves 547 = .ok (.iload 14, 2) := by decide +kernel
theorem dL_moves_549 : decode cL_moves 549 = .ok (.imul, 1) := by decide +kernel
theorem dL_moves_550 : decode cL_moves 550 = .ok (.iconst 4, 1) := by decide +kernel
theorem dL_moves_551 : decode cL_moves 551 = .ok (.iadd, 1) := by decide +kernel
theorem dL_moves_552 : decode cL_moves 552 = .ok (.dup2, 1) := by decide +kernel
theorem dL_moves_553 : decode cL_moves 553 = .ok (.iaload, 1) := by decide +kernel
theorem dL_moves_554 : decode cL_moves 554 = .ok (.iconst 1, 1) := by decide +kernel
theorem dL_moves_555 : decode cL_moves 555 = .ok (.iadd, 1) := by decide +kernel
theorem dL_moves_556 : decode cL_moves 556 = .ok (.iastore, 1) := by decide +kernel
theorem dL_moves_557 : decode cL_moves 557 = .ok (.aload_n 3, 1) := by decide +kernel
theorem dL_moves_558 : decode cL_moves 558 = .ok (.iconst 2, 1) := by decide +kernel
theorem dL_moves_559 : decode cL_moves 559 = .ok (.iaload, 1) := by decide +kernel
theorem dL_moves_560 : decode cL_moves 560 = .ok (.bipush 6, 2) := by decide +kernel
theorem dL_moves_562 : decode cL_moves 562 = .ok (.if_icmp .ge 10, 3) := by decide +kernel
theorem dL_moves_565 : decode cL_moves 565 = .ok (.aload_n 3, 1) := by decide +kernel
theorem dL_moves_566 : decode cL_moves 566 = .ok (.iconst 2, 1) := by decide +kernel
theorem dL_moves_567 : decode cL_moves 567 = .ok (.dup2, 1) := by decide +kernel
theorem dL_moves_568 : decode cL_moves 568 = .ok (.iaload, 1) := by decide +kernel
theorem dL_moves_569 : decode cL_moves 569 = .ok (.iconst 1, 1) := by decide +kernel
theorem dL_moves_570 : decode cL_moves 570 = .ok (.iadd, 1) := by decide +kernel
theorem dL_moves_571 : decode cL_moves 571 = .ok (.iastore, 1) := by decide +kernel
theorem dL_moves_572 : decode cL_moves 572 = .ok (.iload 15, 2) := by decide +kernel
theorem dL_moves_574 : decode cL_moves 574 = .ok (.iload 16, 2) := by decide +kernel
theorem dL_moves_576 : decode cL_moves 576 = .ok (.if_icmp .ne 27, 3) := by decide +kernel
theorem dL_moves_579 : decode cL_moves 579 = .ok (.aload_n 0, 1) := by decide +kernel
theorem dL_moves_580 : decode cL_moves 580 = .ok (.iload 14, 2) := by decide +kernel
theorem dL_moves_582 : decode cL_moves 582 = .ok (.invokevirtual 51, 3) := by decide +kernel
theorem dL_moves_585 : decode cL_moves 585 = .ok (.iload 17, 2) := by decide +kernel
theorem dL_moves_587 : decode cL_moves 587 = .ok (.ifCond .eq 8, 3) := by decide +kernel
theorem dL_moves_590 : decode cL_moves 590 = .ok (.iload 16, 2) := by decide +kernel
theorem dL_moves_592 : decode cL_moves 592 = .ok (.goto 4, 3) := by decide +kernel
theorem dL_moves_595 : decode cL_moves 595 = .ok (.iconst (-1), 1) := by decide +kernel
theorem dL_moves_596 : decode cL_moves 596 = .ok (.if_icmp .ne 7, 3) := by decide +kernel
theorem dL_moves_599 : decode cL_moves 599 = .ok (.iconst 1, 1) := by decide +kernel
theorem dL_moves_600 : decode cL_moves 600 = .ok (.goto 4, 3) := by decide +kernel
theorem dL_moves_603 : decode cL_moves 603 = .ok (.iconst 0, 1) := by decide +kernel
theorem dL_moves_604 : decode cL_moves 604 = .ok (.ireturn, 1) := by decide +kernel
theorem dL_cares_0 : decode cL_cares 0 = .ok (.iload_n 1, 1) := by decide +kernel
theorem dL_cares_1 : decode cL_cares 1 = .ok (.iconst 5, 1) := by decide +kernel
theorem dL_cares_2 : decode cL_cares 2 = .ok (.invokestatic 29, 3) := by decide +kernel
theorem dL_cares_5 : decode cL_cares 5 = .ok (.istore 8, 2) := by decide +kernel
theorem dL_cares_7 : decode cL_cares 7 = .ok (.iload_n 1, 1) := by decide +kernel
theorem dL_cares_8 : decode cL_cares 8 = .ok (.iconst 4, 1) := by decide +kernel
theorem dL_cares_9 : decode cL_cares 9 = .ok (.ishr, 1) := by decide +kernel
theorem dL_cares_10 : decode cL_cares 10 = .ok (.iconst 4, 1) := by decide +kernel
theorem dL_cares_11 : decode cL_cares 11 = .ok (.invokestatic 29, 3) := by decide +kernel
theorem dL_cares_14 : decode cL_cares 14 = .ok (.istore 9, 2) := by decide +kernel
theorem dL_cares_16 : decode cL_cares 16 = .ok (.iload 8, 2) := by decide +kernel
theorem dL_cares_18 : decode cL_cares 18 = .ok (.ifCond .ne 55, 3) := by decide +kernel
theorem dL_cares_21 : decode cL_cares 21 = .ok (.iconst 1, 1) := by decide +kernel
theorem dL_cares_22 : decode cL_cares 22 = .ok (.iload_n 2, 1) := by decide +kernel
theorem dL_cares_23 : decode cL_cares 23 = .ok (.sipush 300, 3) := by decide +kernel
theorem dL_cares_26 : decode cL_cares 26 = .ok (.invokestatic 29, 3) := by decide +kernel
theorem dL_cares_29 : decode cL_cares 29 = .ok (.iadd, 1) := by decide +kernel
theorem dL_cares_30 : decode cL_cares 30 = .ok (.istore 10, 2) := by decide +kernel
theorem dL_cares_32 : decode cL_cares 32 = .ok (.aload_n 3, 1) := by decide +kernel
theorem dL_cares_33 : decode cL_cares 33 = .ok (.iconst 0, 1) := by decide +kernel
theorem dL_cares_34 : decode cL_cares 34 = .ok (.dup2, 1) := by decide +kernel
theorem dL_cares_35 : decode cL_cares 35 = .ok (.iaload, 1) := by decide +kernel
theorem dL_cares_36 : decode cL_cares 36 = .ok (.iload 10, 2) := by decide +kernel
theorem dL_cares_38 : decode cL_cares 38 = .ok (.iadd, 1) := by decide +kernel
theorem dL_cares_39 : decode cL_cares 39 = .ok (.iastore, 1) := by decide +kernel
theorem dL_cares_40 : decode cL_cares 40 = .ok (.aload_n 3, 1) := by decide +kernel
theorem dL_cares_41 : decode cL_cares 41 = .ok (.iconst 2, 1) := by decide +kernel
theorem dL_cares_42 : decode cL_cares 42 = .ok (.iaload, 1) := by decide +kernel
theorem dL_cares_43 : decode cL_cares 43 = .ok (.bipush 6, 2) := by decide +kernel
theorem dL_cares_45 : decode cL_cares 45 = .ok (.if_icmp .ge 10, 3) := by decide +kernel
theorem dL_cares_48 : decode cL_cares 48 = .ok (.aload_n 3, 1) := by decide +kernel
theorem dL_cares_49 : decode cL_cares 49 = .ok (.iconst 2, 1) := by decide +kernel
theorem dL_cares_50 : decode cL_cares 50 = .ok (.dup2, 1) := by decide +kernel
theorem dL_cares_51 : decode cL_cares 51 = .ok (.iaload, 1) := by decide +kernel
theorem dL_cares_52 : decode cL_cares 52 = .ok (.iconst 1, 1) := by decide +kernel
theorem dL_cares_53 : decode cL_cares 53 = .ok (.iadd, 1) := by decide +kernel
theorem dL_cares_54 : decode cL_cares 54 = .ok (.iastore, 1) := by decide +kernel
theorem dL_cares_55 : decode cL_cares 55 = .ok (.aload_n 0, 1) := by decide +kernel
theorem dL_cares_56 : decode cL_cares 56 = .ok (.iload 10, 2) := by decide +kernel
theorem dL_cares_58 : decode cL_cares 58 = .ok (.invokevirtual 55, 3) := by decide +kernel
theorem dL_cares_61 : decode cL_cares 61 = .ok (.aload_n 3, 1) := by decide +kernel
theorem dL_cares_62 : decode cL_cares 62 = .ok (.iconst 0, 1) := by decide +kernel
theorem dL_cares_63 : decode cL_cares 63 = .ok (.iaload, 1) := by decide +kernel
theorem dL_cares_64 : decode cL_cares 64 = .ok (.if_icmp .ne 7, 3) := by decide +kernel
theorem dL_cares_67 : decode cL_cares 67 = .ok (.iconst 1, 1) := by decide +kernel
theorem dL_cares_68 : decode cL_cares 68 = .ok (.goto 4, 3) := by decide +kernel
theorem dL_cares_71 : decode cL_cares 71 = .ok (.iconst 0, 1) := by decide +kernel
theorem dL_cares_72 : decode cL_cares 72 = .ok (.ireturn, 1) := by decide +kernel
theorem dL_cares_73 : decode cL_cares 73 = .ok (.iload 8, 2) := by decide +kernel
theorem dL_cares_75 : decode cL_cares 75 = .ok (.iconst 1, 1) := by decide +kernel
theorem dL_cares_76 : decode cL_cares 76 = .ok (.if_icmp .ne 58, 3) := by decide +kernel
theorem dL_cares_79 : decode cL_cares 79 = .ok (.aload 4, 2) := by decide +kernel
theorem dL_cares_81 : decode cL_cares 81 = .ok (.iload 9, 2) := by decide +kernel
theorem dL_cares_83 : decode cL_cares 83 = .ok (.iaload, 1) := by decide +kernel
theorem dL_cares_84 : decode cL_cares 84 = .ok (.istore 10, 2) := by decide +kernel
theorem dL_cares_86 : decode cL_cares 86 = .ok (.aload 4, 2) := by decide +kernel
theorem dL_cares_88 : decode cL_cares 88 = .ok (.iload 9, 2) := by decide +kernel
theorem dL_cares_90 : decode cL_cares 90 = .ok (.iload_n 2, 1) := by decide +kernel
theorem dL_cares_91 : decode cL_cares 91 = .ok (.bipush 6, 2) := by decide +kernel
theorem dL_cares_93 : decode cL_cares 93 = .ok (.invokestatic 29, 3) := by decide +kernel
theorem dL_cares_96 : decode cL_cares 96 = .ok (.iastore, 1) := by decide +kernel
theorem dL_cares_97 : decode cL_cares 97 = .ok (.aload_n 3, 1) := by decide +kernel
theorem dL_cares_98 : decode cL_cares 98 = .ok (.iconst 2, 1) := by decide +kernel
theorem dL_cares_99 : decode cL_cares 99 = .ok (.iaload, 1) := by decide +kernel
theorem dL_cares_100 : decode cL_cares 100 = .ok (.bipush 6, 2) := by decide +kernel
theorem dL_cares_102 : decode cL_cares 102 = .ok (.if_icmp .ge 10, 3) := by decide +kernel
theorem dL_cares_105 : decode cL_cares 105 = .ok (.aload_n 3, 1) := by decide +kernel
theorem dL_cares_106 : decode cL_cares 106 = .ok (.iconst 2, 1) := by decide +kernel
theorem dL_cares_107 : decode cL_cares 107 = .ok (.dup2, 1) := by decide +kernel
theorem dL_cares_108 : decode cL_cares 108 = .ok (.iaload, 1) := by decide +kernel
theorem dL_cares_109 : decode cL_cares 109 = .ok (.iconst 1, 1) := by decide +kernel
theorem dL_cares_110 : decode cL_cares 110 = .ok (.iadd, 1) := by decide +kernel
theorem dL_cares_111 : decode cL_cares 111 = .ok (.iastore, 1) := by decide +kernel
theorem dL_cares_112 : decode cL_cares 112 = .ok (.aload_n 0, 1) := by decide +kernel
theorem dL_cares_113 : decode cL_cares 113 = .ok (.iload 9, 2) := by decide +kernel
theorem dL_cares_115 : decode cL_cares 115 = .ok (.aload 4, 2) := by decide +kernel
theorem dL_cares_117 : decode cL_cares 117 = .ok (.iload 9, 2) := by decide +kernel
theorem dL_cares_119 : decode cL_cares 119 = .ok (.iaload, 1) := by decide +kernel
theorem dL_cares_120 : decode cL_cares 120 = .ok (.invokevirtual 58, 3) := by decide +kernel
theorem dL_cares_123 : decode cL_cares 123 = .ok (.iload 10, 2) := by decide +kernel
theorem dL_cares_125 : decode cL_cares 125 = .ok (.if_icmp .ne 7, 3) := by decide +kernel
theorem dL_cares_128 : decode cL_cares 128 = .ok (.iconst 1, 1) := by decide +kernel
theorem dL_cares_129 : decode cL_cares 129 = .ok (.goto 4, 3) := by decide +kernel
theorem dL_cares_132 : decode cL_cares 132 = .ok (.iconst 0, 1) := by decide +kernel
theorem dL_cares_133 : decode cL_cares 133 = .ok (.ireturn, 1) := by decide +kernel
theorem dL_cares_134 : decode cL_cares 134 = .ok (.iload 8, 2) := by decide +kernel
theorem dL_cares_136 : decode cL_cares 136 = .ok (.iconst 2, 1) := by decide +kernel
theorem dL_cares_137 : decode cL_cares 137 = .ok (.if_icmp .ne 77, 3) := by decide +kernel
theorem dL_cares_140 : decode cL_cares 140 = .ok (.aload_n 3, 1) := by decide +kernel
theorem dL_cares_141 : decode cL_cares 141 = .ok (.iconst 0, 1) := by decide +kernel
theorem dL_cares_142 : decode cL_cares 142 = .ok (.iaload, 1) := by decide +kernel
theorem dL_cares_143 : decode cL_cares 143 = .ok (.aload_n 3, 1) := by decide +kernel
theorem dL_cares_144 : decode cL_cares 144 = .ok (.bipush 8, 2) := by decide +kernel
theorem dL_cares_146 : decode cL_cares 146 = .ok (.iaload, 1) := by decide +kernel
theorem dL_cares_147 : decode cL_cares 147 = .ok (.if_icmp .ge 5, 3) := by decide +kernel
theorem dL_cares_150 : decode cL_cares 150 = .ok (.iconst 1, 1) := by decide +kernel
theorem dL_cares_151 : decode cL_cares 151 = .ok (.ireturn, 1) := by decide +kernel
theorem dL_cares_152 : decode cL_cares 152 = .ok (.aload_n 3, 1) := by decide +kernel
theorem dL_cares_153 : decode cL_cares 153 = .ok (.iconst 0, 1) := by decide +kernel
theorem dL_cares_154 : decode cL_cares 154 = .ok (.dup2, 1) := by decide +kernel
theorem dL_cares_155 : decode cL_cares 155 = .ok (.iaload, 1) := by decide +kernel
theorem dL_cares_156 : decode cL_cares 156 = .ok (.aload_n 3, 1) := by decide +kernel
theorem dL_cares_157 : decode cL_cares 157 = .ok (.bipush 8, 2) := by decide +kernel
theorem dL_cares_159 : decode cL_cares 159 = .ok (.iaload, 1) := by decide +kernel
theorem dL_cares_160 : decode cL_cares 160 = .ok (.isub, 1) := by decide +kernel
theorem dL_cares_161 : decode cL_cares 161 = .ok (.iastore, 1) := by decide +kernel
theorem dL_cares_162 : decode cL_cares 162 = .ok (.aload_n 3, 1) := by decide +kernel
theorem dL_cares_163 : decode cL_cares 163 = .ok (.iconst 1, 1) := by decide +kernel
theorem dL_cares_164 : decode cL_cares 164 = .ok (.dup2, 1) := by decide +kernel
theorem dL_cares_165 : decode cL_cares 165 = .ok (.iaload, 1) := by decide +kernel
theorem dL_cares_166 : decode cL_cares 166 = .ok (.aload_n 3, 1) := by decide +kernel
theorem dL_cares_167 : decode cL_cares 167 = .ok (.bipush 8, 2) := by decide +kernel
theorem dL_cares_169 : decode cL_cares 169 = .ok (.iaload, 1) := by decide +kernel
theorem dL_cares_170 : decode cL_cares 170 = .ok (.iadd, 1) := by decide +kernel
theorem dL_cares_171 : decode cL_cares 171 = .ok (.iastore, 1) := by decide +kernel
theorem dL_cares_172 : decode cL_cares 172 = .ok (.aload 5, 2) := by decide +kernel
theorem dL_cares_174 : decode cL_cares 174 = .ok (.iload 9, 2) := by decide +kernel
theorem dL_cares_176 : decode cL_cares 176 = .ok (.aload_n 3, 1) := by decide +kernel
theorem dL_cares_177 : decode cL_cares 177 = .ok (.bipush 7, 2) := by decide +kernel
theorem dL_cares_179 : decode cL_cares 179 = .ok (.iaload, 1) := by decide +kernel
theorem dL_cares_180 : decode cL_cares 180 = .ok (.iastore, 1) := by decide +kernel
theorem dL_cares_181 : decode cL_cares 181 = .ok (.aload_n 3, 1) := by decide +kernel
theorem dL_cares_182 : decode cL_cares 182 = .ok (.iconst 2, 1) := by decide +kernel
theorem dL_cares_183 : decode cL_cares 183 = .ok (.iaload, 1) := by decide +kernel
theorem dL_cares_184 : decode cL_cares 184 = .ok (.bipush 6, 2) := by decide +kernel
theorem dL_cares_186 : decode cL_cares 186 = .ok (.if_icmp .ge 10, 3) := by decide +kernel
theorem dL_cares_189 : decode cL_cares 189 = .ok (.aload_n 3, 1) := by decide +kernel
theorem dL_cares_190 : decode cL_cares 190 = .ok (.iconst 2, 1) := by decide +kernel
theorem dL_cares_191 : decode cL_cares 191 = .ok (.dup2, 1) := by decide +kernel
theorem dL_cares_192 : decode cL_cares 192 = .ok (.iaload, 1) := by decide +kernel
theorem dL_cares_193 : decode cL_cares 193 = .ok (.iconst 1, 1) := by decide +kernel
theorem dL_cares_194 : decode cL_cares 194 = .ok (.iadd, 1) := by decide +kernel
theorem dL_cares_195 : decode cL_cares 195 = .ok (.iastore, 1) := by decide +kernel
theorem dL_cares_196 : decode cL_cares 196 = .ok (.aload_n 0, 1) := by decide +kernel
theorem dL_cares_197 : decode cL_cares 197 = .ok (.iload 9, 2) := by decide +kernel
theorem dL_cares_199 : decode cL_cares 199 = .ok (.invokevirtual 61, 3) := by decide +kernel
theorem dL_cares_202 : decode cL_cares 202 = .ok (.aload_n 3, 1) := by decide +kernel
theorem dL_cares_203 : decode cL_cares 203 = .ok (.iconst 0, 1) := by decide +kernel
theorem dL_cares_204 : decode cL_cares 204 = .ok (.iaload, 1) := by decide +kernel
theorem dL_cares_205 : decode cL_cares 205 = .ok (.if_icmp .ne 7, 3) := by decide +kernel
theorem dL_cares_208 : decode cL_cares 208 = .ok (.iconst 1, 1) := by decide +kernel
theorem dL_cares_209 : decode cL_cares 209 = .ok (.goto 4, 3) := by decide +kernel
theorem dL_cares_212 : decode cL_cares 212 = .ok (.iconst 0, 1) := by decide +kernel
theorem dL_cares_213 : decode cL_cares 213 = .ok (.ireturn, 1) := by decide +kernel
theorem dL_cares_214 : decode cL_cares 214 = .ok (.iload 8, 2) := by decide +kernel
theorem dL_cares_216 : decode cL_cares 216 = .ok (.iconst 3, 1) := by decide +kernel
theorem dL_cares_217 : decode cL_cares 217 = .ok (.if_icmp .ne 101, 3) := by decide +kernel
theorem dL_cares_220 : decode cL_cares 220 = .ok (.iload_n 2, 1) := by decide +kernel
theorem dL_cares_221 : decode cL_cares 221 = .ok (.bipush 24, 2) := by decide +kernel
theorem dL_cares_223 : decode cL_cares 223 = .ok (.invokestatic 29, 3) := by decide +kernel
theorem dL_cares_226 : decode cL_cares 226 = .ok (.istore 10, 2) := by decide +kernel
theorem dL_cares_228 : decode cL_cares 228 = .ok (.aload 6, 2) := by decide +kernel
theorem dL_cares_230 : decode cL_cares 230 = .ok (.aload 7, 2) := by decide +kernel
theorem dL_cares_232 : decode cL_cares 232 = .ok (.iload 9, 2) := by decide +kernel
theorem dL_cares_234 : decode cL_cares 234 = .ok (.iload 10, 2) := by decide +kernel
theorem dL_cares_236 : decode cL_cares 236 = .ok (.invokestatic 14, 3) := by decide +kernel
theorem dL_cares_239 : decode cL_cares 239 = .ok (.aload_n 3, 1) := by decide +kernel
theorem dL_cares_240 : decode cL_cares 240 = .ok (.bipush 6, 2) := by decide +kernel
theorem dL_cares_242 : decode cL_cares 242 = .ok (.iaload, 1) := by decide +kernel
theorem dL_cares_243 : decode cL_cares 243 = .ok (.imul, 1) := by decide +kernel
theorem dL_cares_244 : decode cL_cares 244 = .ok (.istore 11, 2) := by decide +kernel
theorem dL_cares_246 : decode cL_cares 246 = .ok (.aload_n 3, 1) := by decide +kernel
theorem dL_cares_247 : decode cL_cares 247 = .ok (.iconst 0, 1) := by decide +kernel
theorem dL_cares_248 : decode cL_cares 248 = .ok (.iaload, 1) := by decide +kernel
theorem dL_cares_249 : decode cL_cares 249 = .ok (.iload 11, 2) := by decide +kernel
theorem dL_cares_251 : decode cL_cares 251 = .ok (.if_icmp .ge 5, 3) := by decide +kernel
theorem dL_cares_254 : decode cL_cares 254 = .ok (.iconst 1, 1) := by decide +kernel
theorem dL_cares_255 : decode cL_cares 255 = .ok (.ireturn, 1) := by decide +kernel
theorem dL_cares_256 : decode cL_cares 256 = .ok (.aload_n 3, 1) := by decide +kernel
theorem dL_cares_257 : decode cL_cares 257 = .ok (.iconst 0, 1) := by decide +kernel
theorem dL_cares_258 : decode cL_cares 258 = .ok (.dup2, 1) := by decide +kernel
theorem dL_cares_259 : decode cL_cares 259 = .ok (.iaload, 1) := by decide +kernel
theorem dL_cares_260 : decode cL_cares 260 = .ok (.iload 11, 2) := by decide +kernel
theorem dL_cares_262 : decode cL_cares 262 = .ok (.isub, 1) := by decide +kernel
theorem dL_cares_263 : decode cL_cares 263 = .ok (.iastore, 1) := by decide +kernel
theorem dL_cares_264 : decode cL_cares 264 = .ok (.aload_n 3, 1) := by decide +kernel
theorem dL_cares_265 : decode cL_cares 265 = .ok (.iconst 1, 1) := by decide +kernel
theorem dL_cares_266 : decode cL_cares 266 = .ok (.dup2, 1) := by decide +kernel
theorem dL_cares_267 : decode cL_cares 267 = .ok (.iaload, 1) := by decide +kernel
theorem dL_cares_268 : decode cL_cares 268 = .ok (.iload 11, 2) := by decide +kernel
theorem dL_cares_270 : decode cL_cares 270 = .ok (.iadd, 1) := by decide +kernel
theorem dL_cares_271 : decode cL_cares 271 = .ok (.iastore, 1) := by decide +kernel
theorem dL_cares_272 : decode cL_cares 272 = .ok (.aload 6, 2) := by decide +kernel
theorem dL_cares_274 : decode cL_cares 274 = .ok (.aload 7, 2) := by decide +kernel
theorem dL_cares_276 : decode cL_cares 276 = .ok (.iload 9, 2) := by decide +kernel
theorem dL_cares_278 : decode cL_cares 278 = .ok (.iload 10, 2) := by decide +kernel
theorem dL_cares_280 : decode cL_cares 280 = .ok (.iconst 0, 1) := by decide +kernel
theorem dL_cares_281 : decode cL_cares 281 = .ok (.invokestatic 25, 3) := by decide +kernel
theorem dL_cares_284 : decode cL_cares 284 = .ok (.aload_n 3, 1) := by decide +kernel
theorem dL_cares_285 : decode cL_cares 285 = .ok (.iconst 2, 1) := by decide +kernel
theorem dL_cares_286 : decode cL_cares 286 = .ok (.iaload, 1) := by decide +kernel
theorem dL_cares_287 : decode cL_cares 287 = .ok (.bipush 6, 2) := by decide +kernel
theorem dL_cares_289 : decode cL_cares 289 = .ok (.if_icmp .ge 10, 3) := by decide +kernel
theorem dL_cares_292 : decode cL_cares 292 = .ok (.aload_n 3, 1) := by decide +kernel
theorem dL_cares_293 : decode cL_cares 293 = .ok (.iconst 2, 1) := by decide +kernel
theorem dL_cares_294 : decode cL_cares 294 = .ok (.dup2, 1) := by decide +kernel
theorem dL_cares_295 : decode cL_cares 295 = .ok (.iaload, 1) := by decide +kernel
theorem dL_cares_296 : decode cL_cares 296 = .ok (.iconst 1, 1) := by decide +kernel
theorem dL_cares_297 : decode cL_cares 297 = .ok (.iadd, 1) := by decide +kernel
theorem dL_cares_298 : decode cL_cares 298 = .ok (.iastore, 1) := by decide +kernel
theorem dL_cares_299 : decode cL_cares 299 = .ok (.aload_n 0, 1) := by decide +kernel
theorem dL_cares_300 : decode cL_cares 300 = .ok (.iload 9, 2) := by decide +kernel
theorem dL_cares_302 : decode cL_cares 302 = .ok (.iload 10, 2) := by decide +kernel
theorem dL_cares_304 : decode cL_cares 304 = .ok (.invokevirtual 64, 3) := by decide +kernel
theorem dL_cares_307 : decode cL_cares 307 = .ok (.iload 11, 2) := by decide +kernel
theorem dL_cares_309 : decode cL_cares 309 = .ok (.if_icmp .ne 7, 3) := by decide +kernel
theorem dL_cares_312 : decode cL_cares 312 = .ok (.iconst 1, 1) := by decide +kernel
theorem dL_cares_313 : decode cL_cares 313 = .ok (.goto 4, 3) := by decide +kernel
theorem dL_cares_316 : decode cL_cares 316 = .ok (.iconst 0, 1) := by decide +kernel
theorem dL_cares_317 : decode cL_cares 317 = .ok (.ireturn, 1) := by decide +kernel
theorem dL_cares_318 : decode cL_cares 318 = .ok (.iload_n 2, 1) := by decide +kernel
theorem dL_cares_319 : decode cL_cares 319 = .ok (.bipush 6, 2) := by decide +kernel
theorem dL_cares_321 : decode cL_cares 321 = .ok (.invokestatic 29, 3) := by decide +kernel
theorem dL_cares_324 : decode cL_cares 324 = .ok (.istore 10, 2) := by decide +kernel
theorem dL_cares_326 : decode cL_cares 326 = .ok (.aload_n 3, 1) := by decide +kernel
theorem dL_cares_327 : decode cL_cares 327 = .ok (.iconst 3, 1) := by decide +kernel
theorem dL_cares_328 : decode cL_cares 328 = .ok (.iload 10, 2) := by decide +kernel
theorem dL_cares_330 : decode cL_cares 330 = .ok (.iadd, 1) := by decide +kernel
theorem dL_cares_331 : decode cL_cares 331 = .ok (.iaload, 1) := by decide +kernel
theorem dL_cares_332 : decode cL_cares 332 = .ok (.istore 11, 2) := by decide +kernel
theorem dL_cares_334 : decode cL_cares 334 = .ok (.aload_n 3, 1) := by decide +kernel
theorem dL_cares_335 : decode cL_cares 335 = .ok (.iconst 3, 1) := by decide +kernel
theorem dL_cares_336 : decode cL_cares 336 = .ok (.iload 10, 2) := by decide +kernel
theorem dL_cares_338 : decode cL_cares 338 = .ok (.iadd, 1) := by decide +kernel
theorem dL_cares_339 : decode cL_cares 339 = .ok (.iload 10, 2) := by decide +kernel
theorem dL_cares_341 : decode cL_cares 341 = .ok (.iconst 1, 1) := by decide +kernel
theorem dL_cares_342 : decode cL_cares 342 = .ok (.if_icmp .ne 16, 3) := by decide +kernel
theorem dL_cares_345 : decode cL_cares 345 = .ok (.iconst 1, 1) := by decide +kernel
theorem dL_cares_346 : decode cL_cares 346 = .ok (.iload_n 2, 1) := by decide +kernel
theorem dL_cares_347 : decode cL_cares 347 = .ok (.iconst 3, 1) := by decide +kernel
theorem dL_cares_348 : decode cL_cares 348 = .ok (.ishr, 1) := by decide +kernel
theorem dL_cares_349 : decode cL_cares 349 = .ok (.bipush 50, 2) := by decide +kernel
theorem dL_cares_351 : decode cL_cares 351 = .ok (.invokestatic 29, 3) := by decide +kernel
theorem dL_cares_354 : decode cL_cares 354 = .ok (.iadd, 1) := by decide +kernel
theorem dL_cares_355 : decode cL_cares 355 = .ok (.goto 30, 3) := by decide +kernel
theorem dL_cares_358 : decode cL_cares 358 = .ok (.iload 10, 2) := by decide +kernel
theorem dL_cares_360 : decode cL_cares 360 = .ok (.iconst 2, 1) := by decide +kernel
theorem dL_cares_361 : decode cL_cares 361 = .ok (.if_icmp .ne 16, 3) := by decide +kernel
theorem dL_cares_364 : decode cL_cares 364 = .ok (.iconst 1, 1) := by decide +kernel
theorem dL_cares_365 : decode cL_cares 365 = .ok (.iload_n 2, 1) := by decide +kernel
theorem dL_cares_366 : decode cL_cares 366 = .ok (.iconst 3, 1) := by decide +kernel
theorem dL_cares_367 : decode cL_cares 367 = .ok (.ishr, 1) := by decide +kernel
theorem dL_cares_368 : decode cL_cares 368 = .ok (.bipush 60, 2) := by decide +kernel
theorem dL_cares_370 : decode cL_cares 370 = .ok (.invokestatic 29, 3) := by decide +kernel
theorem dL_cares_373 : decode cL_cares 373 = .ok (.iadd, 1) := by decide +kernel
theorem dL_cares_374 : decode cL_cares 374 = .ok (.goto 11, 3) := by decide +kernel
theorem dL_cares_377 : decode cL_cares 377 = .ok (.iload_n 2, 1) := by decide +kernel
theorem dL_cares_378 : decode cL_cares 378 = .ok (.iconst 3, 1) := by decide +kernel
theorem dL_cares_379 : decode cL_cares 379 = .ok (.ishr, 1) := by decide +kernel
theorem dL_cares_380 : decode cL_cares 380 = .ok (.bipush 21, 2) := by decide +kernel
theorem dL_cares_382 : decode cL_cares 382 = .ok (.invokestatic 29, 3) := by decide +kernel
theorem dL_cares_385 : decode cL_cares 385 = .ok (.iastore, 1) := by decide +kernel
theorem dL_cares_386 : decode cL_cares 386 = .ok (.aload_n 3, 1) := by decide +kernel
theorem dL_cares_387 : decode cL_cares 387 = .ok (.iconst 2, 1) := by decide +kernel
theorem dL_cares_388 : decode cL_cares 388 = .ok (.iaload, 1) := by decide +kernel
theorem dL_cares_389 : decode cL_cares 389 = .ok (.bipush 6, 2) := by decide +kernel
theorem dL_cares_391 : decode cL_cares 391 = .ok (.if_icmp .ge 10, 3) := by decide +kernel
theorem dL_cares_394 : decode cL_cares 394 = .ok (.aload_n 3, 1) := by decide +kernel
theorem dL_cares_395 : decode cL_cares 395 = .ok (.iconst 2, 1) := by decide +kernel
theorem dL_cares_396 : decode cL_cares 396 = .ok (.dup2, 1) := by decide +kernel
theorem dL_cares_397 : decode cL_cares 397 = .ok (.iaload, 1) := by decide +kernel
theorem dL_cares_398 : decode cL_cares 398 = .ok (.iconst 1, 1) := by decide +kernel
theorem dL_cares_399 : decode cL_cares 399 = .ok (.iadd, 1) := by decide +kernel
theorem dL_cares_400 : decode cL_cares 400 = .ok (.iastore, 1) := by decide +kernel
theorem dL_cares_401 : decode cL_cares 401 = .ok (.aload_n 0, 1) := by decide +kernel
theorem dL_cares_402 : decode cL_cares 402 = .ok (.iload 10, 2) := by decide +kernel
theorem dL_cares_404 : decode cL_cares 404 = .ok (.aload_n 3, 1) := by decide +kernel
theorem dL_cares_405 : decode cL_cares 405 = .ok (.iconst 3, 1) := by decide +kernel
theorem dL_cares_406 : decode cL_cares 406 = .ok (.iload 10, 2) := by decide +kernel
theorem dL_cares_408 : decode cL_cares 408 = .ok (.iadd, 1) := by decide +kernel
theorem dL_cares_409 : decode cL_cares 409 = .ok (.iaload, 1) := by decide +kernel
theorem dL_cares_410 : decode cL_cares 410 = .ok (.invokevirtual 67, 3) := by decide +kernel
theorem dL_cares_413 : decode cL_cares 413 = .ok (.iload 11, 2) := by decide +kernel
theorem dL_cares_415 : decode cL_cares 415 = .ok (.if_icmp .ne 7, 3) := by decide +kernel
theorem dL_cares_418 : decode cL_cares 418 = .ok (.iconst 1, 1) := by decide +kernel
theorem dL_cares_419 : decode cL_cares 419 = .ok (.goto 4, 3) := by decide +kernel
theorem dL_cares_422 : decode cL_cares 422 = .ok (.iconst 0, 1) := by decide +kernel
theorem dL_cares_423 : decode cL_cares 423 = .ok (.ireturn, 1) := by decide +kernel
theorem dL_agree_0 : decode cL_agree 0 = .ok (.iconst 0, 1) := by decide +kernel
theorem dL_agree_1 : decode cL_agree 1 = .ok (.istore 11, 2) := by decide +kernel
theorem dL_agree_3 : decode cL_agree 3 = .ok (.iconst 0, 1) := by decide +kernel
theorem dL_agree_4 : decode cL_agree 4 = .ok (.istore 12, 2) := by decide +kernel
theorem dL_agree_6 : decode cL_agree 6 = .ok (.iconst 0, 1) := by decide +kernel
theorem dL_agree_7 : decode cL_agree 7 = .ok (.istore 13, 2) := by decide +kernel
theorem dL_agree_9 : decode cL_agree 9 = .ok (.iconst 0, 1) := by decide +kernel
theorem dL_agree_10 : decode cL_agree 10 = .ok (.istore 14, 2) := by decide +kernel
theorem dL_agree_12 : decode cL_agree 12 = .ok (.iconst 0, 1) := by decide +kernel
theorem dL_agree_13 : decode cL_agree 13 = .ok (.istore 15, 2) := by decide +kernel
theorem dL_agree_15 : decode cL_agree 15 = .ok (.iconst 0, 1) := by decide +kernel
theorem dL_agree_16 : decode cL_agree 16 = .ok (.istore 16, 2) := by decide +kernel
theorem dL_agree_18 : decode cL_agree 18 = .ok (.iconst 0, 1) := by decide +kernel
theorem dL_agree_19 : decode cL_agree 19 = .ok (.istore 17, 2) := by decide +kernel
theorem dL_agree_21 : decode cL_agree 21 = .ok (.iload 17, 2) := by decide +kernel
theorem dL_agree_23 : decode cL_agree 23 = .ok (.iconst 4, 1) := by decide +kernel
theorem dL_agree_24 : decode cL_agree 24 = .ok (.if_icmp .ge 360, 3) := by decide +kernel
theorem dL_agree_27 : decode cL_agree 27 = .ok (.aload_n 3, 1) := by decide +kernel
theorem dL_agree_28 : decode cL_agree 28 = .ok (.iload 17, 2) := by decide +kernel
theorem dL_agree_30 : decode cL_agree 30 = .ok (.iaload, 1) := by decide +kernel
theorem dL_agree_31 : decode cL_agree 31 = .ok (.aload_n 2, 1) := by decide +kernel
theorem dL_agree_32 : decode cL_agree 32 = .ok (.iload 17, 2) := by decide +kernel
theorem dL_agree_34 : decode cL_agree 34 = .ok (.iaload, 1) := by decide +kernel
theorem dL_agree_35 : decode cL_agree 35 = .ok (.isub, 1) := by decide +kernel
theorem dL_agree_36 : decode cL_agree 36 = .ok (.bipush 24, 2) := by decide +kernel
theorem dL_agree_38 : decode cL_agree 38 = .ok (.iadd, 1) := by decide +kernel
theorem dL_agree_39 : decode cL_agree 39 = .ok (.bipush 24, 2) := by decide +kernel
theorem dL_agree_41 : decode cL_agree 41 = .ok (.irem, 1) := by decide +kernel
theorem dL_agree_42 : decode cL_agree 42 = .ok (.istore 18, 2) := by decide +kernel
theorem dL_agree_44 : decode cL_agree 44 = .ok (.aload_n 0, 1) := by decide +kernel
theorem dL_agree_45 : decode cL_agree 45 = .ok (.iload 17, 2) := by decide +kernel
theorem dL_agree_47 : decode cL_agree 47 = .ok (.iconst 0, 1) := by decide +kernel
theorem dL_agree_48 : decode cL_agree 48 = .ok (.invokevirtual 70, 3) := by decide +kernel
theorem dL_agree_51 : decode cL_agree 51 = .ok (.aload_n 2, 1) := by decide +kernel
theorem dL_agree_52 : decode cL_agree 52 = .ok (.iload 17, 2) := by decide +kernel
theorem dL_agree_54 : decode cL_agree 54 = .ok (.iaload, 1) := by decide +kernel
theorem dL_agree_55 : decode cL_agree 55 = .ok (.if_icmp .ne 105, 3) := by decide +kernel
theorem dL_agree_58 : decode cL_agree 58 = .ok (.aload_n 0, 1) := by decide +kernel
theorem dL_agree_59 : decode cL_agree 59 = .ok (.iload 17, 2) := by decide +kernel
theorem dL_agree_61 : decode cL_agree 61 = .ok (.iconst 1, 1) := by decide +kernel
theorem dL_agree_62 : decode cL_agree 62 = .ok (.invokevirtual 70, 3) := by decide +kernel
theorem dL_agree_65 : decode cL_agree 65 = .ok (.aload_n 3, 1) := by decide +kernel
theorem dL_agree_66 : decode cL_agree 66 = .ok (.iload 17, 2) := by decide +kernel
theorem dL_agree_68 : decode cL_agree 68 = .ok (.iaload, 1) := by decide +kernel
theorem dL_agree_69 : decode cL_agree 69 = .ok (.if_icmp .ne 91, 3) := by decide +kernel
theorem dL_agree_72 : decode cL_agree 72 = .ok (.aload_n 0, 1) := by decide +kernel
theorem dL_agree_73 : decode cL_agree 73 = .ok (.iload 17, 2) := by decide +kernel
theorem dL_agree_75 : decode cL_agree 75 = .ok (.iconst 2, 1) := by decide +kernel
theorem dL_agree_76 : decode cL_agree 76 = .ok (.invokevirtual 70, 3) := by decide +kernel
theorem dL_agree_79 : decode cL_agree 79 = .ok (.aload 4, 2) := by decide +kernel
theorem dL_agree_81 : decode cL_agree 81 = .ok (.iload 17, 2) := by decide +kernel
theorem dL_agree_83 : decode cL_agree 83 = .ok (.iaload, 1) := by decide +kernel
theorem dL_agree_84 : decode cL_agree 84 = .ok (.if_icmp .ne 76, 3) := by decide +kernel
theorem dL_agree_87 : decode cL_agree 87 = .ok (.aload_n 0, 1) := by decide +kernel
theorem dL_agree_88 : decode cL_agree 88 = .ok (.iload 17, 2) := by decide +kernel
theorem dL_agree_90 : decode cL_agree 90 = .ok (.iconst 3, 1) := by decide +kernel
theorem dL_agree_91 : decode cL_agree 91 = .ok (.invokevirtual 70, 3) := by decide +kernel
theorem dL_agree_94 : decode cL_agree 94 = .ok (.aload 5, 2) := by decide +kernel
theorem dL_agree_96 : decode cL_agree 96 = .ok (.iload 17, 2) := by decide +kernel
theorem dL_agree_98 : decode cL_agree 98 = .ok (.iaload, 1) := by decide +kernel
theorem dL_agree_99 : decode cL_agree 99 = .ok (.if_icmp .ne 61, 3) := by decide +kernel
theorem dL_agree_102 : decode cL_agree 102 = .ok (.aload_n 0, 1) := by decide +kernel
theorem dL_agree_103 : decode cL_agree 103 = .ok (.iload 17, 2) := by decide +kernel
theorem dL_agree_105 : decode cL_agree 105 = .ok (.iconst 4, 1) := by decide +kernel
theorem dL_agree_106 : decode cL_agree 106 = .ok (.invokevirtual 70, 3) := by decide +kernel
theorem dL_agree_109 : decode cL_agree 109 = .ok (.aload 6, 2) := by decide +kernel
theorem dL_agree_111 : decode cL_agree 111 = .ok (.iload 17, 2) := by decide +kernel
theorem dL_agree_113 : decode cL_agree 113 = .ok (.iaload, 1) := by decide +kernel
theorem dL_agree_114 : decode cL_agree 114 = .ok (.if_icmp .ne 46, 3) := by decide +kernel
theorem dL_agree_117 : decode cL_agree 117 = .ok (.aload_n 0, 1) := by decide +kernel
theorem dL_agree_118 : decode cL_agree 118 = .ok (.iload 17, 2) := by decide +kernel
theorem dL_agree_120 : decode cL_agree 120 = .ok (.iconst 5, 1) := by decide +kernel
theorem dL_agree_121 : decode cL_agree 121 = .ok (.invokevirtual 70, 3) := by decide +kernel
theorem dL_agree_124 : decode cL_agree 124 = .ok (.aload 7, 2) := by decide +kernel
theorem dL_agree_126 : decode cL_agree 126 = .ok (.iload 17, 2) := by decide +kernel
theorem dL_agree_128 : decode cL_agree 128 = .ok (.iaload, 1) := by decide +kernel
theorem dL_agree_129 : decode cL_agree 129 = .ok (.if_icmp .ne 31, 3) := by decide +kernel
theorem dL_agree_132 : decode cL_agree 132 = .ok (.aload_n 0, 1) := by decide +kernel
theorem dL_agree_133 : decode cL_agree 133 = .ok (.iload 17, 2) := by decide +kernel
theorem dL_agree_135 : decode cL_agree 135 = .ok (.bipush 9, 2) := by decide +kernel
theorem dL_agree_137 : decode cL_agree 137 = .ok (.invokevirtual 70, 3) := by decide +kernel
theorem dL_agree_140 : decode cL_agree 140 = .ok (.iload 18, 2) := by decide +kernel
theorem dL_agree_142 : decode cL_agree 142 = .ok (.bipush 12, 2) := by decide +kernel
theorem dL_agree_144 : decode cL_agree 144 = .ok (.if_icmp .le 11, 3) := by decide +kernel
theorem dL_agree_147 : decode cL_agree 147 = .ok (.bipush 24, 2) := by decide +kernel
end
section
theorem dL_agree_149 : decode cL_agree 149 = .ok (.iload 18, 2) := by decide +kernel
theorem dL_agree_151 : decode cL_agree 151 = .ok (.isub, 1) := by decide +kernel
theorem dL_agree_152 : decode cL_agree 152 = .ok (.goto 5, 3) := by decide +kernel
theorem dL_agree_155 : decode cL_agree 155 = .ok (.iload 18, 2) := by decide +kernel
theorem dL_agree_157 : decode cL_agree 157 = .ok (.if_icmp .eq 5, 3) := by decide +kernel
theorem dL_agree_160 : decode cL_agree 160 = .ok (.iconst 0, 1) := by decide +kernel
theorem dL_agree_161 : decode cL_agree 161 = .ok (.ireturn, 1) := by decide +kernel
theorem dL_agree_162 : decode cL_agree 162 = .ok (.aload_n 0, 1) := by decide +kernel
theorem dL_agree_163 : decode cL_agree 163 = .ok (.iload 17, 2) := by decide +kernel
theorem dL_agree_165 : decode cL_agree 165 = .ok (.bipush 6, 2) := by decide +kernel
theorem dL_agree_167 : decode cL_agree 167 = .ok (.invokevirtual 70, 3) := by decide +kernel
theorem dL_agree_170 : decode cL_agree 170 = .ok (.aload 8, 2) := by decide +kernel
theorem dL_agree_172 : decode cL_agree 172 = .ok (.iconst 5, 1) := by decide +kernel
theorem dL_agree_173 : decode cL_agree 173 = .ok (.iload 17, 2) := by decide +kernel
theorem dL_agree_175 : decode cL_agree 175 = .ok (.imul, 1) := by decide +kernel
theorem dL_agree_176 : decode cL_agree 176 = .ok (.iaload, 1) := by decide +kernel
theorem dL_agree_177 : decode cL_agree 177 = .ok (.if_icmp .ne 83, 3) := by decide +kernel
theorem dL_agree_180 : decode cL_agree 180 = .ok (.aload_n 0, 1) := by decide +kernel
theorem dL_agree_181 : decode cL_agree 181 = .ok (.iload 17, 2) := by decide +kernel
theorem dL_agree_183 : decode cL_agree 183 = .ok (.bipush 7, 2) := by decide +kernel
theorem dL_agree_185 : decode cL_agree 185 = .ok (.invokevirtual 70, 3) := by decide +kernel
theorem dL_agree_188 : decode cL_agree 188 = .ok (.aload 8, 2) := by decide +kernel
theorem dL_agree_190 : decode cL_agree 190 = .ok (.iconst 5, 1) := by decide +kernel
theorem dL_agree_191 : decode cL_agree 191 = .ok (.iload 17, 2) := by decide +kernel
theorem dL_agree_193 : decode cL_agree 193 = .ok (.imul, 1) := by decide +kernel
theorem dL_agree_194 : decode cL_agree 194 = .ok (.iconst 1, 1) := by decide +kernel
theorem dL_agree_195 : decode cL_agree 195 = .ok (.iadd, 1) := by decide +kernel
theorem dL_agree_196 : decode cL_agree 196 = .ok (.iaload, 1) := by decide +kernel
theorem dL_agree_197 : decode cL_agree 197 = .ok (.if_icmp .ne 63, 3) := by decide +kernel
theorem dL_agree_200 : decode cL_agree 200 = .ok (.aload_n 0, 1) := by decide +kernel
theorem dL_agree_201 : decode cL_agree 201 = .ok (.iload 17, 2) := by decide +kernel
theorem dL_agree_203 : decode cL_agree 203 = .ok (.bipush 8, 2) := by decide +kernel
theorem dL_agree_205 : decode cL_agree 205 = .ok (.invokevirtual 70, 3) := by decide +kernel
theorem dL_agree_208 : decode cL_agree 208 = .ok (.aload 8, 2) := by decide +kernel
theorem dL_agree_210 : decode cL_agree 210 = .ok (.iconst 5, 1) := by decide +kernel
theorem dL_agree_211 : decode cL_agree 211 = .ok (.iload 17, 2) := by decide +kernel
theorem dL_agree_213 : decode cL_agree 213 = .ok (.imul, 1) := by decide +kernel
theorem dL_agree_214 : decode cL_agree 214 = .ok (.iconst 2, 1) := by decide +kernel
theorem dL_agree_215 : decode cL_agree 215 = .ok (.iadd, 1) := by decide +kernel
theorem dL_agree_216 : decode cL_agree 216 = .ok (.iaload, 1) := by decide +kernel
theorem dL_agree_217 : decode cL_agree 217 = .ok (.if_icmp .ne 43, 3) := by decide +kernel
theorem dL_agree_220 : decode cL_agree 220 = .ok (.aload_n 0, 1) := by decide +kernel
theorem dL_agree_221 : decode cL_agree 221 = .ok (.iload 17, 2) := by decide +kernel
theorem dL_agree_223 : decode cL_agree 223 = .ok (.bipush 10, 2) := by decide +kernel
theorem dL_agree_225 : decode cL_agree 225 = .ok (.invokevirtual 70, 3) := by decide +kernel
theorem dL_agree_228 : decode cL_agree 228 = .ok (.aload 8, 2) := by decide +kernel
theorem dL_agree_230 : decode cL_agree 230 = .ok (.iconst 5, 1) := by decide +kernel
theorem dL_agree_231 : decode cL_agree 231 = .ok (.iload 17, 2) := by decide +kernel
theorem dL_agree_233 : decode cL_agree 233 = .ok (.imul, 1) := by decide +kernel
theorem dL_agree_234 : decode cL_agree 234 = .ok (.iconst 3, 1) := by decide +kernel
theorem dL_agree_235 : decode cL_agree 235 = .ok (.iadd, 1) := by decide +kernel
theorem dL_agree_236 : decode cL_agree 236 = .ok (.iaload, 1) := by decide +kernel
theorem dL_agree_237 : decode cL_agree 237 = .ok (.if_icmp .ne 23, 3) := by decide +kernel
theorem dL_agree_240 : decode cL_agree 240 = .ok (.aload_n 0, 1) := by decide +kernel
theorem dL_agree_241 : decode cL_agree 241 = .ok (.iload 17, 2) := by decide +kernel
theorem dL_agree_243 : decode cL_agree 243 = .ok (.bipush 11, 2) := by decide +kernel
theorem dL_agree_245 : decode cL_agree 245 = .ok (.invokevirtual 70, 3) := by decide +kernel
theorem dL_agree_248 : decode cL_agree 248 = .ok (.aload 8, 2) := by decide +kernel
theorem dL_agree_250 : decode cL_agree 250 = .ok (.iconst 5, 1) := by decide +kernel
theorem dL_agree_251 : decode cL_agree 251 = .ok (.iload 17, 2) := by decide +kernel
theorem dL_agree_253 : decode cL_agree 253 = .ok (.imul, 1) := by decide +kernel
theorem dL_agree_254 : decode cL_agree 254 = .ok (.iconst 4, 1) := by decide +kernel
theorem dL_agree_255 : decode cL_agree 255 = .ok (.iadd, 1) := by decide +kernel
theorem dL_agree_256 : decode cL_agree 256 = .ok (.iaload, 1) := by decide +kernel
theorem dL_agree_257 : decode cL_agree 257 = .ok (.if_icmp .eq 5, 3) := by decide +kernel
theorem dL_agree_260 : decode cL_agree 260 = .ok (.iconst 0, 1) := by decide +kernel
theorem dL_agree_261 : decode cL_agree 261 = .ok (.ireturn, 1) := by decide +kernel
theorem dL_agree_262 : decode cL_agree 262 = .ok (.iconst 0, 1) := by decide +kernel
theorem dL_agree_263 : decode cL_agree 263 = .ok (.istore 19, 2) := by decide +kernel
theorem dL_agree_265 : decode cL_agree 265 = .ok (.iload 19, 2) := by decide +kernel
theorem dL_agree_267 : decode cL_agree 267 = .ok (.bipush 24, 2) := by decide +kernel
theorem dL_agree_269 : decode cL_agree 269 = .ok (.if_icmp .ge 55, 3) := by decide +kernel
theorem dL_agree_272 : decode cL_agree 272 = .ok (.aload 9, 2) := by decide +kernel
theorem dL_agree_274 : decode cL_agree 274 = .ok (.aload 10, 2) := by decide +kernel
theorem dL_agree_276 : decode cL_agree 276 = .ok (.iload 17, 2) := by decide +kernel
theorem dL_agree_278 : decode cL_agree 278 = .ok (.iload 19, 2) := by decide +kernel
theorem dL_agree_280 : decode cL_agree 280 = .ok (.invokestatic 14, 3) := by decide +kernel
theorem dL_agree_283 : decode cL_agree 283 = .ok (.istore 20, 2) := by decide +kernel
theorem dL_agree_285 : decode cL_agree 285 = .ok (.aload_n 0, 1) := by decide +kernel
theorem dL_agree_286 : decode cL_agree 286 = .ok (.iload 17, 2) := by decide +kernel
theorem dL_agree_288 : decode cL_agree 288 = .ok (.iload 19, 2) := by decide +kernel
theorem dL_agree_290 : decode cL_agree 290 = .ok (.invokevirtual 73, 3) := by decide +kernel
theorem dL_agree_293 : decode cL_agree 293 = .ok (.iload 20, 2) := by decide +kernel
theorem dL_agree_295 : decode cL_agree 295 = .ok (.if_icmp .eq 5, 3) := by decide +kernel
theorem dL_agree_298 : decode cL_agree 298 = .ok (.iconst 0, 1) := by decide +kernel
theorem dL_agree_299 : decode cL_agree 299 = .ok (.ireturn, 1) := by decide +kernel
theorem dL_agree_300 : decode cL_agree 300 = .ok (.iload 11, 2) := by decide +kernel
theorem dL_agree_302 : decode cL_agree 302 = .ok (.iload 20, 2) := by decide +kernel
theorem dL_agree_304 : decode cL_agree 304 = .ok (.iadd, 1) := by decide +kernel
theorem dL_agree_305 : decode cL_agree 305 = .ok (.istore 11, 2) := by decide +kernel
theorem dL_agree_307 : decode cL_agree 307 = .ok (.iload 20, 2) := by decide +kernel
theorem dL_agree_309 : decode cL_agree 309 = .ok (.aload_n 1, 1) := by decide +kernel
theorem dL_agree_310 : decode cL_agree 310 = .ok (.iconst 5, 1) := by decide +kernel
theorem dL_agree_311 : decode cL_agree 311 = .ok (.iaload, 1) := by decide +kernel
theorem dL_agree_312 : decode cL_agree 312 = .ok (.if_icmp .lt 6, 3) := by decide +kernel
theorem dL_agree_315 : decode cL_agree 315 = .ok (.iinc 12 1, 3) := by decide +kernel
theorem dL_agree_318 : decode cL_agree 318 = .ok (.iinc 19 1, 3) := by decide +kernel
theorem dL_agree_321 : decode cL_agree 321 = .ok (.goto (-56), 3) := by decide +kernel
theorem dL_agree_324 : decode cL_agree 324 = .ok (.aload_n 2, 1) := by decide +kernel
theorem dL_agree_325 : decode cL_agree 325 = .ok (.iload 17, 2) := by decide +kernel
theorem dL_agree_327 : decode cL_agree 327 = .ok (.iaload, 1) := by decide +kernel
theorem dL_agree_328 : decode cL_agree 328 = .ok (.aload_n 3, 1) := by decide +kernel
theorem dL_agree_329 : decode cL_agree 329 = .ok (.iload 17, 2) := by decide +kernel
theorem dL_agree_331 : decode cL_agree 331 = .ok (.iaload, 1) := by decide +kernel
theorem dL_agree_332 : decode cL_agree 332 = .ok (.if_icmp .ne 6, 3) := by decide +kernel
theorem dL_agree_335 : decode cL_agree 335 = .ok (.iinc 13 1, 3) := by decide +kernel
theorem dL_agree_338 : decode cL_agree 338 = .ok (.iload 14, 2) := by decide +kernel
theorem dL_agree_340 : decode cL_agree 340 = .ok (.aload 8, 2) := by decide +kernel
theorem dL_agree_342 : decode cL_agree 342 = .ok (.iconst 5, 1) := by decide +kernel
theorem dL_agree_343 : decode cL_agree 343 = .ok (.iload 17, 2) := by decide +kernel
theorem dL_agree_345 : decode cL_agree 345 = .ok (.imul, 1) := by decide +kernel
theorem dL_agree_346 : decode cL_agree 346 = .ok (.iaload, 1) := by decide +kernel
theorem dL_agree_347 : decode cL_agree 347 = .ok (.iadd, 1) := by decide +kernel
theorem dL_agree_348 : decode cL_agree 348 = .ok (.istore 14, 2) := by decide +kernel
theorem dL_agree_350 : decode cL_agree 350 = .ok (.iload 16, 2) := by decide +kernel
theorem dL_agree_352 : decode cL_agree 352 = .ok (.aload 8, 2) := by decide +kernel
theorem dL_agree_354 : decode cL_agree 354 = .ok (.iconst 5, 1) := by decide +kernel
theorem dL_agree_355 : decode cL_agree 355 = .ok (.iload 17, 2) := by decide +kernel
theorem dL_agree_357 : decode cL_agree 357 = .ok (.imul, 1) := by decide +kernel
theorem dL_agree_358 : decode cL_agree 358 = .ok (.iconst 1, 1) := by decide +kernel
theorem dL_agree_359 : decode cL_agree 359 = .ok (.iadd, 1) := by decide +kernel
theorem dL_agree_360 : decode cL_agree 360 = .ok (.iaload, 1) := by decide +kernel
theorem dL_agree_361 : decode cL_agree 361 = .ok (.iadd, 1) := by decide +kernel
theorem dL_agree_362 : decode cL_agree 362 = .ok (.istore 16, 2) := by decide +kernel
theorem dL_agree_364 : decode cL_agree 364 = .ok (.iload 15, 2) := by decide +kernel
theorem dL_agree_366 : decode cL_agree 366 = .ok (.aload 8, 2) := by decide +kernel
theorem dL_agree_368 : decode cL_agree 368 = .ok (.iconst 5, 1) := by decide +kernel
theorem dL_agree_369 : decode cL_agree 369 = .ok (.iload 17, 2) := by decide +kernel
theorem dL_agree_371 : decode cL_agree 371 = .ok (.imul, 1) := by decide +kernel
theorem dL_agree_372 : decode cL_agree 372 = .ok (.iconst 2, 1) := by decide +kernel
theorem dL_agree_373 : decode cL_agree 373 = .ok (.iadd, 1) := by decide +kernel
theorem dL_agree_374 : decode cL_agree 374 = .ok (.iaload, 1) := by decide +kernel
theorem dL_agree_375 : decode cL_agree 375 = .ok (.iadd, 1) := by decide +kernel
theorem dL_agree_376 : decode cL_agree 376 = .ok (.istore 15, 2) := by decide +kernel
theorem dL_agree_378 : decode cL_agree 378 = .ok (.iinc 17 1, 3) := by decide +kernel
theorem dL_agree_381 : decode cL_agree 381 = .ok (.goto (-360), 3) := by decide +kernel
theorem dL_agree_384 : decode cL_agree 384 = .ok (.aload_n 0, 1) := by decide +kernel
theorem dL_agree_385 : decode cL_agree 385 = .ok (.iconst 0, 1) := by decide +kernel
theorem dL_agree_386 : decode cL_agree 386 = .ok (.invokevirtual 75, 3) := by decide +kernel
theorem dL_agree_389 : decode cL_agree 389 = .ok (.aload_n 1, 1) := by decide +kernel
theorem dL_agree_390 : decode cL_agree 390 = .ok (.iconst 0, 1) := by decide +kernel
theorem dL_agree_391 : decode cL_agree 391 = .ok (.iaload, 1) := by decide +kernel
theorem dL_agree_392 : decode cL_agree 392 = .ok (.if_icmp .ne 92, 3) := by decide +kernel
theorem dL_agree_395 : decode cL_agree 395 = .ok (.aload_n 0, 1) := by decide +kernel
theorem dL_agree_396 : decode cL_agree 396 = .ok (.iconst 1, 1) := by decide +kernel
theorem dL_agree_397 : decode cL_agree 397 = .ok (.invokevirtual 75, 3) := by decide +kernel
theorem dL_agree_400 : decode cL_agree 400 = .ok (.iload 14, 2) := by decide +kernel
theorem dL_agree_402 : decode cL_agree 402 = .ok (.if_icmp .ne 82, 3) := by decide +kernel
theorem dL_agree_405 : decode cL_agree 405 = .ok (.aload_n 0, 1) := by decide +kernel
theorem dL_agree_406 : decode cL_agree 406 = .ok (.iconst 2, 1) := by decide +kernel
theorem dL_agree_407 : decode cL_agree 407 = .ok (.invokevirtual 75, 3) := by decide +kernel
theorem dL_agree_410 : decode cL_agree 410 = .ok (.iload 15, 2) := by decide +kernel
theorem dL_agree_412 : decode cL_agree 412 = .ok (.if_icmp .ne 72, 3) := by decide +kernel
theorem dL_agree_415 : decode cL_agree 415 = .ok (.aload_n 0, 1) := by decide +kernel
theorem dL_agree_416 : decode cL_agree 416 = .ok (.iconst 3, 1) := by decide +kernel
theorem dL_agree_417 : decode cL_agree 417 = .ok (.invokevirtual 75, 3) := by decide +kernel
theorem dL_agree_420 : decode cL_agree 420 = .ok (.iload 16, 2) := by decide +kernel
theorem dL_agree_422 : decode cL_agree 422 = .ok (.if_icmp .ne 62, 3) := by decide +kernel
theorem dL_agree_425 : decode cL_agree 425 = .ok (.aload_n 0, 1) := by decide +kernel
theorem dL_agree_426 : decode cL_agree 426 = .ok (.iconst 4, 1) := by decide +kernel
theorem dL_agree_427 : decode cL_agree 427 = .ok (.invokevirtual 75, 3) := by decide +kernel
theorem dL_agree_430 : decode cL_agree 430 = .ok (.aload_n 1, 1) := by decide +kernel
theorem dL_agree_431 : decode cL_agree 431 = .ok (.iconst 1, 1) := by decide +kernel
theorem dL_agree_432 : decode cL_agree 432 = .ok (.iaload, 1) := by decide +kernel
theorem dL_agree_433 : decode cL_agree 433 = .ok (.if_icmp .ne 51, 3) := by decide +kernel
theorem dL_agree_436 : decode cL_agree 436 = .ok (.aload_n 0, 1) := by decide +kernel
theorem dL_agree_437 : decode cL_agree 437 = .ok (.iconst 5, 1) := by decide +kernel
theorem dL_agree_438 : decode cL_agree 438 = .ok (.invokevirtual 75, 3) := by decide +kernel
theorem dL_agree_441 : decode cL_agree 441 = .ok (.iload 11, 2) := by decide +kernel
theorem dL_agree_443 : decode cL_agree 443 = .ok (.if_icmp .ne 41, 3) := by decide +kernel
theorem dL_agree_446 : decode cL_agree 446 = .ok (.aload_n 0, 1) := by decide +kernel
theorem dL_agree_447 : decode cL_agree 447 = .ok (.bipush 6, 2) := by decide +kernel
theorem dL_agree_449 : decode cL_agree 449 = .ok (.invokevirtual 75, 3) := by decide +kernel
theorem dL_agree_452 : decode cL_agree 452 = .ok (.iload 12, 2) := by decide +kernel
theorem dL_agree_454 : decode cL_agree 454 = .ok (.if_icmp .ne 30, 3) := by decide +kernel
theorem dL_agree_457 : decode cL_agree 457 = .ok (.aload_n 0, 1) := by decide +kernel
theorem dL_agree_458 : decode cL_agree 458 = .ok (.bipush 7, 2) := by decide +kernel
theorem dL_agree_460 : decode cL_agree 460 = .ok (.invokevirtual 75, 3) := by decide +kernel
theorem dL_agree_463 : decode cL_agree 463 = .ok (.iload 13, 2) := by decide +kernel
theorem dL_agree_465 : decode cL_agree 465 = .ok (.if_icmp .ne 19, 3) := by decide +kernel
theorem dL_agree_468 : decode cL_agree 468 = .ok (.aload_n 0, 1) := by decide +kernel
theorem dL_agree_469 : decode cL_agree 469 = .ok (.bipush 8, 2) := by decide +kernel
theorem dL_agree_471 : decode cL_agree 471 = .ok (.invokevirtual 75, 3) := by decide +kernel
theorem dL_agree_474 : decode cL_agree 474 = .ok (.aload_n 1, 1) := by decide +kernel
theorem dL_agree_475 : decode cL_agree 475 = .ok (.iconst 2, 1) := by decide +kernel
theorem dL_agree_476 : decode cL_agree 476 = .ok (.iaload, 1) := by decide +kernel
theorem dL_agree_477 : decode cL_agree 477 = .ok (.if_icmp .ne 7, 3) := by decide +kernel
theorem dL_agree_480 : decode cL_agree 480 = .ok (.iconst 1, 1) := by decide +kernel
theorem dL_agree_481 : decode cL_agree 481 = .ok (.goto 4, 3) := by decide +kernel
theorem dL_agree_484 : decode cL_agree 484 = .ok (.iconst 0, 1) := by decide +kernel
theorem dL_agree_485 : decode cL_agree 485 = .ok (.ireturn, 1) := by decide +kernel
theorem dL_law_0 : decode cL_law 0 = .ok (.new 37, 3) := by decide +kernel
theorem dL_law_3 : decode cL_law 3 = .ok (.dup, 1) := by decide +kernel
theorem dL_law_4 : decode cL_law 4 = .ok (.invokespecial 78, 3) := by decide +kernel
theorem dL_law_7 : decode cL_law 7 = .ok (.astore_n 1, 1) := by decide +kernel
theorem dL_law_8 : decode cL_law 8 = .ok (.bipush 9, 2) := by decide +kernel
theorem dL_law_10 : decode cL_law 10 = .ok (.newarray .int, 2) := by decide +kernel
theorem dL_law_12 : decode cL_law 12 = .ok (.astore_n 2, 1) := by decide +kernel
theorem dL_law_13 : decode cL_law 13 = .ok (.iconst 4, 1) := by decide +kernel
theorem dL_law_14 : decode cL_law 14 = .ok (.newarray .int, 2) := by decide +kernel
theorem dL_law_16 : decode cL_law 16 = .ok (.astore_n 3, 1) := by decide +kernel
theorem dL_law_17 : decode cL_law 17 = .ok (.iconst 4, 1) := by decide +kernel
theorem dL_law_18 : decode cL_law 18 = .ok (.newarray .int, 2) := by decide +kernel
theorem dL_law_20 : decode cL_law 20 = .ok (.astore 4, 2) := by decide +kernel
theorem dL_law_22 : decode cL_law 22 = .ok (.iconst 4, 1) := by decide +kernel
theorem dL_law_23 : decode cL_law 23 = .ok (.newarray .int, 2) := by decide +kernel
theorem dL_law_25 : decode cL_law 25 = .ok (.astore 5, 2) := by decide +kernel
theorem dL_law_27 : decode cL_law 27 = .ok (.iconst 4, 1) := by decide +kernel
theorem dL_law_28 : decode cL_law 28 = .ok (.newarray .int, 2) := by decide +kernel
theorem dL_law_30 : decode cL_law 30 = .ok (.astore 6, 2) := by decide +kernel
theorem dL_law_32 : decode cL_law 32 = .ok (.iconst 4, 1) := by decide +kernel
theorem dL_law_33 : decode cL_law 33 = .ok (.newarray .int, 2) := by decide +kernel
theorem dL_law_35 : decode cL_law 35 = .ok (.astore 7, 2) := by decide +kernel
theorem dL_law_37 : decode cL_law 37 = .ok (.iconst 4, 1) := by decide +kernel
theorem dL_law_38 : decode cL_law 38 = .ok (.newarray .int, 2) := by decide +kernel
theorem dL_law_40 : decode cL_law 40 = .ok (.astore 8, 2) := by decide +kernel
theorem dL_law_42 : decode cL_law 42 = .ok (.bipush 20, 2) := by decide +kernel
theorem dL_law_44 : decode cL_law 44 = .ok (.newarray .int, 2) := by decide +kernel
theorem dL_law_46 : decode cL_law 46 = .ok (.astore 9, 2) := by decide +kernel
theorem dL_law_48 : decode cL_law 48 = .ok (.bipush 48, 2) := by decide +kernel
theorem dL_law_50 : decode cL_law 50 = .ok (.newarray .int, 2) := by decide +kernel
theorem dL_law_52 : decode cL_law 52 = .ok (.astore 10, 2) := by decide +kernel
theorem dL_law_54 : decode cL_law 54 = .ok (.bipush 48, 2) := by decide +kernel
theorem dL_law_56 : decode cL_law 56 = .ok (.newarray .int, 2) := by decide +kernel
theorem dL_law_58 : decode cL_law 58 = .ok (.astore 11, 2) := by decide +kernel
theorem dL_law_60 : decode cL_law 60 = .ok (.aload_n 2, 1) := by decide +kernel
theorem dL_law_61 : decode cL_law 61 = .ok (.iconst 0, 1) := by decide +kernel
theorem dL_law_62 : decode cL_law 62 = .ok (.sipush 1000, 3) := by decide +kernel
theorem dL_law_65 : decode cL_law 65 = .ok (.iastore, 1) := by decide +kernel
theorem dL_law_66 : decode cL_law 66 = .ok (.aload_n 2, 1) := by decide +kernel
theorem dL_law_67 : decode cL_law 67 = .ok (.iconst 3, 1) := by decide +kernel
theorem dL_law_68 : decode cL_law 68 = .ok (.iconst 3, 1) := by decide +kernel
theorem dL_law_69 : decode cL_law 69 = .ok (.iastore, 1) := by decide +kernel
theorem dL_law_70 : decode cL_law 70 = .ok (.aload_n 2, 1) := by decide +kernel
theorem dL_law_71 : decode cL_law 71 = .ok (.iconst 4, 1) := by decide +kernel
theorem dL_law_72 : decode cL_law 72 = .ok (.bipush 10, 2) := by decide +kernel
theorem dL_law_74 : decode cL_law 74 = .ok (.iastore, 1) := by decide +kernel
theorem dL_law_75 : decode cL_law 75 = .ok (.aload_n 2, 1) := by decide +kernel
theorem dL_law_76 : decode cL_law 76 = .ok (.iconst 5, 1) := by decide +kernel
theorem dL_law_77 : decode cL_law 77 = .ok (.bipush 40, 2) := by decide +kernel
theorem dL_law_79 : decode cL_law 79 = .ok (.iastore, 1) := by decide +kernel
theorem dL_law_80 : decode cL_law 80 = .ok (.aload_n 2, 1) := by decide +kernel
theorem dL_law_81 : decode cL_law 81 = .ok (.bipush 6, 2) := by decide +kernel
theorem dL_law_83 : decode cL_law 83 = .ok (.iconst 1, 1) := by decide +kernel
theorem dL_law_84 : decode cL_law 84 = .ok (.iastore, 1) := by decide +kernel
theorem dL_law_85 : decode cL_law 85 = .ok (.aload_n 2, 1) := by decide +kernel
theorem dL_law_86 : decode cL_law 86 = .ok (.bipush 7, 2) := by decide +kernel
theorem dL_law_88 : decode cL_law 88 = .ok (.bipush 12, 2) := by decide +kernel
theorem dL_law_90 : decode cL_law 90 = .ok (.iastore, 1) := by decide +kernel
theorem dL_law_91 : decode cL_law 91 = .ok (.aload_n 2, 1) := by decide +kernel
theorem dL_law_92 : decode cL_law 92 = .ok (.bipush 8, 2) := by decide +kernel
theorem dL_law_94 : decode cL_law 94 = .ok (.bipush 15, 2) := by decide +kernel
theorem dL_law_96 : decode cL_law 96 = .ok (.iastore, 1) := by decide +kernel
theorem dL_law_97 : decode cL_law 97 = .ok (.iconst 0, 1) := by decide +kernel
theorem dL_law_98 : decode cL_law 98 = .ok (.istore 12, 2) := by decide +kernel
theorem dL_law_100 : decode cL_law 100 = .ok (.iload 12, 2) := by decide +kernel
theorem dL_law_102 : decode cL_law 102 = .ok (.bipush 60, 2) := by decide +kernel
theorem dL_law_104 : decode cL_law 104 = .ok (.if_icmp .ge 123, 3) := by decide +kernel
theorem dL_law_107 : decode cL_law 107 = .ok (.aload_n 0, 1) := by decide +kernel
theorem dL_law_108 : decode cL_law 108 = .ok (.iconst 2, 1) := by decide +kernel
theorem dL_law_109 : decode cL_law 109 = .ok (.iload 12, 2) := by decide +kernel
theorem dL_law_111 : decode cL_law 111 = .ok (.imul, 1) := by decide +kernel
theorem dL_law_112 : decode cL_law 112 = .ok (.invokestatic 79, 3) := by decide +kernel
theorem dL_law_115 : decode cL_law 115 = .ok (.istore 13, 2) := by decide +kernel
theorem dL_law_117 : decode cL_law 117 = .ok (.aload_n 0, 1) := by decide +kernel
theorem dL_law_118 : decode cL_law 118 = .ok (.iconst 2, 1) := by decide +kernel
theorem dL_law_119 : decode cL_law 119 = .ok (.iload 12, 2) := by decide +kernel
theorem dL_law_121 : decode cL_law 121 = .ok (.imul, 1) := by decide +kernel
theorem dL_law_122 : decode cL_law 122 = .ok (.iconst 1, 1) := by decide +kernel
theorem dL_law_123 : decode cL_law 123 = .ok (.iadd, 1) := by decide +kernel
theorem dL_law_124 : decode cL_law 124 = .ok (.invokestatic 79, 3) := by decide +kernel
theorem dL_law_127 : decode cL_law 127 = .ok (.istore 14, 2) := by decide +kernel
theorem dL_law_129 : decode cL_law 129 = .ok (.iload 13, 2) := by decide +kernel
theorem dL_law_131 : decode cL_law 131 = .ok (.bipush 20, 2) := by decide +kernel
theorem dL_law_133 : decode cL_law 133 = .ok (.ishr, 1) := by decide +kernel
theorem dL_law_134 : decode cL_law 134 = .ok (.iconst 4, 1) := by decide +kernel
theorem dL_law_135 : decode cL_law 135 = .ok (.invokestatic 29, 3) := by decide +kernel
theorem dL_law_138 : decode cL_law 138 = .ok (.ifCond .ne 23, 3) := by decide +kernel
theorem dL_law_141 : decode cL_law 141 = .ok (.aload_n 1, 1) := by decide +kernel
theorem dL_law_142 : decode cL_law 142 = .ok (.iload 13, 2) := by decide +kernel
theorem dL_law_144 : decode cL_law 144 = .ok (.iload 14, 2) := by decide +kernel
theorem dL_law_146 : decode cL_law 146 = .ok (.aload_n 2, 1) := by decide +kernel
theorem dL_law_147 : decode cL_law 147 = .ok (.aload 5, 2) := by decide +kernel
theorem dL_law_149 : decode cL_law 149 = .ok (.aload 8, 2) := by decide +kernel
theorem dL_law_151 : decode cL_law 151 = .ok (.aload 10, 2) := by decide +kernel
theorem dL_law_153 : decode cL_law 153 = .ok (.aload 11, 2) := by decide +kernel
theorem dL_law_155 : decode cL_law 155 = .ok (.invokestatic 83, 3) := by decide +kernel
theorem dL_law_158 : decode cL_law 158 = .ok (.goto 29, 3) := by decide +kernel
theorem dL_law_161 : decode cL_law 161 = .ok (.aload_n 1, 1) := by decide +kernel
theorem dL_law_162 : decode cL_law 162 = .ok (.iload 13, 2) := by decide +kernel
theorem dL_law_164 : decode cL_law 164 = .ok (.iload 14, 2) := by decide +kernel
theorem dL_law_166 : decode cL_law 166 = .ok (.aload_n 2, 1) := by decide +kernel
theorem dL_law_167 : decode cL_law 167 = .ok (.aload_n 3, 1) := by decide +kernel
theorem dL_law_168 : decode cL_law 168 = .ok (.aload 4, 2) := by decide +kernel
theorem dL_law_170 : decode cL_law 170 = .ok (.aload 5, 2) := by decide +kernel
theorem dL_law_172 : decode cL_law 172 = .ok (.aload 6, 2) := by decide +kernel
theorem dL_law_174 : decode cL_law 174 = .ok (.aload 7, 2) := by decide +kernel
theorem dL_law_176 : decode cL_law 176 = .ok (.aload 8, 2) := by decide +kernel
theorem dL_law_178 : decode cL_law 178 = .ok (.aload 9, 2) := by decide +kernel
theorem dL_law_180 : decode cL_law 180 = .ok (.aload 10, 2) := by decide +kernel
theorem dL_law_182 : decode cL_law 182 = .ok (.aload 11, 2) := by decide +kernel
theorem dL_law_184 : decode cL_law 184 = .ok (.invokestatic 87, 3) := by decide +kernel
theorem dL_law_187 : decode cL_law 187 = .ok (.istore 15, 2) := by decide +kernel
theorem dL_law_189 : decode cL_law 189 = .ok (.iload 15, 2) := by decide +kernel
theorem dL_law_191 : decode cL_law 191 = .ok (.ifCond .eq 28, 3) := by decide +kernel
theorem dL_law_194 : decode cL_law 194 = .ok (.aload_n 1, 1) := by decide +kernel
theorem dL_law_195 : decode cL_law 195 = .ok (.aload_n 2, 1) := by decide +kernel
theorem dL_law_196 : decode cL_law 196 = .ok (.aload_n 3, 1) := by decide +kernel
theorem dL_law_197 : decode cL_law 197 = .ok (.aload 4, 2) := by decide +kernel
theorem dL_law_199 : decode cL_law 199 = .ok (.aload 5, 2) := by decide +kernel
theorem dL_law_201 : decode cL_law 201 = .ok (.aload 6, 2) := by decide +kernel
theorem dL_law_203 : decode cL_law 203 = .ok (.aload 7, 2) := by decide +kernel
theorem dL_law_205 : decode cL_law 205 = .ok (.aload 8, 2) := by decide +kernel
theorem dL_law_207 : decode cL_law 207 = .ok (.aload 9, 2) := by decide +kernel
theorem dL_law_209 : decode cL_law 209 = .ok (.aload 10, 2) := by decide +kernel
theorem dL_law_211 : decode cL_law 211 = .ok (.aload 11, 2) := by decide +kernel
theorem dL_law_213 : decode cL_law 213 = .ok (.invokestatic 91, 3) := by decide +kernel
theorem dL_law_216 : decode cL_law 216 = .ok (.ifCond .ne 5, 3) := by decide +kernel
theorem dL_law_219 : decode cL_law 219 = .ok (.iconst 0, 1) := by decide +kernel
theorem dL_law_220 : decode cL_law 220 = .ok (.ireturn, 1) := by decide +kernel
theorem dL_law_221 : decode cL_law 221 = .ok (.iinc 12 1, 3) := by decide +kernel
theorem dL_law_224 : decode cL_law 224 = .ok (.goto (-124), 3) := by decide +kernel
theorem dL_law_227 : decode cL_law 227 = .ok (.iconst 1, 1) := by decide +kernel
theorem dL_law_228 : decode cL_law 228 = .ok (.ireturn, 1) := by decide +kernel
end
section
/-! the shapes of this proof's contracts, and their calls: over the kit's rows -/
section BASE
variable {p : Program} {l : Launch} {e : Env} {R : Room} {s : State} {m : MethodId} {args : Array Value} {below : List Frame} {meth : Method} {c : Code} {H : Heap} {locs : List Loc} {cells slots : Nat} {Q : State → Prop}
variable {pc : Nat} {ls : Array Slot} {rest st0 : List Value} {a : Array Value} {A0 : Nat → Prop} {H0 : Heap} {D : va_G} {tys : List (ClassId × FieldType)}
/-- the addresses of a world -/
def Aw (ws : va_W) : Nat → Prop := fun q => ∃ (k : Nat) (e : va_E), ws[k]? = some (q, e)
/-- a start: the arguments, and a world -/
def Pz (av : List Value) (D : va_G) (tys : List (ClassId × FieldType)) (ws : va_W) : Array Value → State → Prop := fun v U => v = av.toArray ∧ va_P D vwCl ws U.heap ∧ va_K D vwCl tys U ∧ va_D (fun _ => True) ws
/-- an end of a method that only reads -/
def pQ (v : Option Value) : Array Value → State → Outcome → State → Prop := fun _ st oc t => oc = .returned v ∧ t.heap = st.heap
/-- an end of a method that makes nothing: its answer, its world, and nothing else changed -/
def fQ (v : Option Value) (D : va_G) (ws ws' : va_W) : Array Value → State → Outcome → State → Prop := fun _ st oc t => oc = .returned v ∧ va_P D vwCl ws' t.heap ∧ va_F (Aw ws) st t
theorem Pz.blind {av : List Value} {ws : va_W} : FrameBlind (Pz av D tys ws) := fun _ U g mk q => ⟨q.1, q.2.1, va_K.moved (u := U) (U := U.calling g mk _) (Vm.Alike.refl U.vm) q.2.2.1, q.2.2.2⟩
theorem Pz.pre {av : List Value} {ws : va_W} {A : Nat → Prop} (hP : va_P D vwCl ws H) (hK : va_K D vwCl tys s) (hD : va_D A ws) : ∀ U : State, U.heap = H → s.WarmedH U.vm → Pz av D tys ws av.toArray U :=
  fun U hU hW => ⟨rfl, by rw [hU]; exact hP, va_K.moved hW.alike hK, hD.weaken (fun _ _ _ _ => trivial)⟩
theorem gAW {y : MethodName} {bytes : ByteArray} {maxL : Nat} {ret : Option FieldType} (h5 : Cond.code y bytes maxL ret ∈ AW) : GoodIn AW (Cond.code y bytes maxL ret :: AW) := fun w hw => by
  rcases List.mem_cons.mp hw with h | h
  · rw [h]; exact ⟨h5, aw_good h5⟩
  · exact ⟨h, aw_good h⟩
theorem cs_p {v : Value} (hr : va_Run p l e R s m args below meth c H locs cells slots 0 0 (F0 m pc ls st0) rest (pQ (some v) a) (fun _ => False))
    (kk : W p l e R s m args below meth c H locs cells slots Q (F0 m (pc + 3) ls (v :: rest))) : W p l e R s m args below meth c H locs cells slots Q (F0 m pc ls st0) := by
  intro T hT X
  obtain ⟨v', st₀, t, T', L, h0, X', hL, e1, -, ⟨hv, hh⟩, st⟩ := hr T hT X
  cases hv
  obtain ⟨t2, a1, b1⟩ := kk T' (by rw [e1, hh, h0]) (Stand.forget X' (fun q h => (hL q h).elim))
  exact ⟨t2, st t2 a1, b1⟩
theorem cs_f {v : Option Value} {ws ws' : va_W} (hr : va_Run p l e R s m args below meth c H locs cells slots 0 0 (F0 m pc ls st0) rest (fQ v D ws ws' a) (Aw ws)) (hS : va_S A0 H0 H locs) (hA : ∀ q, Aw ws q → A0 q)
    (kk : ∀ (H1 : Heap) (locs1 : List Loc), va_P D vwCl ws' H1 → (∀ q : Nat, q < H.size → ¬ Aw ws q → H1[q]? = H[q]?) → va_S A0 H0 H1 locs1 → W p l e R s m args below meth c H1 locs1 cells slots Q (F0 m (pc + 3) ls (v.toList ++ rest))) : W p l e R s m args below meth c H locs cells slots Q (F0 m pc ls st0) := by
  intro T hT X
  obtain ⟨v', st₀, t, T', L, h0, X', hL, e1, -, ⟨hv, hp, hz, hk⟩, st⟩ := hr T hT X
  cases hv
  rw [h0] at hz hk
  obtain ⟨t2, a1, b1⟩ := kk T'.heap (locs ++ L) (by rw [e1]; exact hp) (fun q h1 h2 => by rw [e1]; exact hk q h1 h2)
    ⟨Nat.le_trans hS.1 (by rw [e1]; exact hz), fun q h1 h2 => by rw [e1, hk q (Nat.lt_of_lt_of_le h1 hS.1) (fun z => h2 (hA q z))]; exact hS.2.1 q h1 h2, fun q hq => by
      rcases List.mem_append.mp hq with h | h
      · exact hS.2.2 q h
      · exact hA _ (hL q h)⟩ T' rfl X'
  exact ⟨t2, st t2 a1, b1⟩
theorem cs_fs {v : Value} {ws ws' : va_W} (hr : va_Run p l e R s m args below meth c H locs cells slots 0 0 (F0 m pc ls st0) rest (fQ (some v) D ws ws' a) (Aw ws)) (hS : va_S A0 H0 H locs) (hA : ∀ q, Aw ws q → A0 q)
    (kk : ∀ (H1 : Heap) (locs1 : List Loc), va_P D vwCl ws' H1 → (∀ q : Nat, q < H.size → ¬ Aw ws q → H1[q]? = H[q]?) → va_S A0 H0 H1 locs1 → W p l e R s m args below meth c H1 locs1 cells slots Q (F0 m (pc + 3) ls (v :: rest))) : W p l e R s m args below meth c H locs cells slots Q (F0 m pc ls st0) := cs_f hr hS hA kk
theorem cs_fn {ws ws' : va_W} (hr : va_Run p l e R s m args below meth c H locs cells slots 0 0 (F0 m pc ls st0) rest (fQ none D ws ws' a) (Aw ws)) (hS : va_S A0 H0 H locs) (hA : ∀ q, Aw ws q → A0 q)
    (kk : ∀ (H1 : Heap) (locs1 : List Loc), va_P D vwCl ws' H1 → (∀ q : Nat, q < H.size → ¬ Aw ws q → H1[q]? = H[q]?) → va_S A0 H0 H1 locs1 → W p l e R s m args below meth c H1 locs1 cells slots Q (F0 m (pc + 3) ls rest)) : W p l e R s m args below meth c H locs cells slots Q (F0 m pc ls st0) := cs_f hr hS hA kk
section CALLS
variable {y : MethodName} {bytes cc : ByteArray} {maxL nL n idx ci N : Nat} {ret : Option FieldType} {rm : Room} {own C host : String} {T : u_T} {b : Addr} {fs As : List Value} {ws ws' : va_W} {A : Nat → Prop}
theorem runV {Qc : Array Value → State → Outcome → State → Prop} {free : Addr → Prop} {mc ms : Nat} (S : CallFix p m c cc nL s args AW own) (hM : Met l y (Cond.code y bytes maxL ret :: AW) rm (Pz (.ref b :: As) D tys ws) Qc mc ms free)
    (h1 : Cond.methodLink own idx y ∈ AW) (h2 : Cond.instanceMethod y ∈ AW) (h3 : Cond.selects C y y ∈ AW) (h4 : Cond.initialized y.cls ∈ AW) (h5 : Cond.code y bytes maxL ret ∈ AW)
    (hd : y.cls ≠ "java/lang/invoke/MethodHandle" ∧ y.cls ≠ "java/lang/invoke/VarHandle" ∧ (parseMethodDescriptor y.desc).map (fun d => d.parameters.length) = some n) (hrm : rm.cells = mc ∧ rm.slots = ms) (hR : rm.frames + 1 ≤ R.frames ∧ 8 + (maxL + 11) + rm.locals ≤ R.locals)
    (hK : va_K D vwCl tys s) (hP : va_P D vwCl ws H) (hD : va_D A ws) (q0 : Nat) (hc : vwCl[ci]? = some (C, T, N)) (he : ws[q0]? = some (b, .inr (ci, fs)))
    (hn : As.length = n) (hsize : ls.size = nL) (hst : st0 = As.reverse ++ .ref b :: rest) (hW : (rest.map fun v => v.category).sum ≤ 8) (hdg : decode cc pc = .ok (.invokevirtual idx, 3)) (hf : cells + mc ≤ R.cells ∧ slots + ms ≤ R.slots) :
    va_Run p l e R s m args below meth c H locs cells slots mc ms (F0 m pc ls st0) rest (Qc (Value.ref b :: As).toArray) free :=
  va_runV S hM ⟨callB_of n S.2.2.2.2 (gAW h5) rfl hrm.1 hrm.2 (S.2.2.2.2 _ h4) (S.2.2.2.2 _ h1) hd hR, S.2.2.2.2 _ h2, S.2.2.2.2 _ h3⟩ ⟨Pz.blind, va_recv hK hP hc he, Pz.pre hP hK hD⟩ rfl hn hsize hst (lv_room hW) hdg hf
theorem runS {Qc : Array Value → State → Outcome → State → Prop} {free : Addr → Prop} {mc ms : Nat} (S : CallFix p m c cc nL s args AW own) (hM : Met l y (Cond.code y bytes maxL ret :: AW) rm (Pz As D tys ws) Qc mc ms free)
    (h1 : Cond.methodLink own idx y ∈ AW) (h2 : Cond.static y ∈ AW) (h4 : Cond.initialized y.cls ∈ AW) (h5 : Cond.code y bytes maxL ret ∈ AW)
    (hd : y.cls ≠ "java/lang/invoke/MethodHandle" ∧ y.cls ≠ "java/lang/invoke/VarHandle" ∧ (parseMethodDescriptor y.desc).map (fun d => d.parameters.length) = some n) (hrm : rm.cells = mc ∧ rm.slots = ms) (hR : rm.frames + 1 ≤ R.frames ∧ 8 + (maxL + 11) + rm.locals ≤ R.locals)
    (hK : va_K D vwCl tys s) (hP : va_P D vwCl ws H) (hD : va_D A ws)
    (hn : As.length = n) (hsize : ls.size = nL) (hst : st0 = As.reverse ++ rest) (hW : (rest.map fun v => v.category).sum ≤ 8) (hdg : decode cc pc = .ok (.invokestatic idx, 3)) (hf : cells + mc ≤ R.cells ∧ slots + ms ≤ R.slots) :
    va_Run p l e R s m args below meth c H locs cells slots mc ms (F0 m pc ls st0) rest (Qc As.toArray) free :=
  va_runS S hM ⟨callB_of n S.2.2.2.2 (gAW h5) rfl hrm.1 hrm.2 (S.2.2.2.2 _ h4) (S.2.2.2.2 _ h1) hd hR, S.2.2.2.2 _ h2⟩ ⟨Pz.blind, Pz.pre hP hK hD⟩ rfl hn hsize hst (lv_room hW) hdg hf
end CALLS
/-- as the kit's Met.ofW, the method plainly named for itself -/
theorem Met.ofF {y : MethodName} {ws ws' : List Cond} {rm : Room} {Pc : Array Value → State → Prop} {Qc : Array Value → State → Outcome → State → Prop} {mc ms : Nat} {free : Addr → Prop} {cc : ByteArray} {maxL : Nat} {ret : Option FieldType}
    (hy : plainFor y = true) (hw : ws = Cond.code y cc maxL ret :: ws')
    (body : ∀ p e s m args below meth c s₁, BodyLoose p l y (headSpec ws rm) cc maxL ret e s m args below meth c s₁ → c.maxLocals = maxL → Pc args s →
      W p l e (headSpec ws rm).room s m args below meth c s.heap [] 0 0 (MQ below Qc args s mc ms free) (entryFrame m args maxL)) : Met l y ws rm Pc Qc mc ms free := by
  refine MetFree.of_bodySF (code := cc) (maxLocals := maxL) (ret := ret) hy ?_ ?_
  · intro args s m h hn
    obtain ⟨meth, c, h1, h2, h3, h4, h5, h6, -, -⟩ := Cond.code_spec hn (atoms_spec (ws := ws) h _ (by rw [hw]; exact List.mem_cons_self))
    exact ⟨meth, c, h1, h2, h3, h4, h5, h6⟩
  · intro p e s m args below meth c s₁ B hml hP _
    have hh0 : s₁.heap = s.heap := by rw [B.state]; rfl
    obtain ⟨t, a1, o, b1, b2, b3⟩ := body p e s m args below meth c s₁ B hml hP s₁ hh0 (Stand.of_body B)
    exact ⟨t, o, a1, b1, b2, ⟨b3.1, b3.2⟩⟩
/-- a method of such a shape, from its entry -/
theorem MetZ {y : MethodName} {cc : ByteArray} {maxL : Nat} {ret : Option FieldType} {rm : Room} {av : List Value} {ws : va_W} {Qc : Array Value → State → Outcome → State → Prop} {free : Addr → Prop} {mc ms : Nat} (hy : plainFor y = true) (hlen : (lg_sl av).length ≤ maxL)
    (body : ∀ (p : Program) (e : Env) (s : State) (m : MethodId) (below : List Frame) (meth : Method) (c : Code) (ls : Array Slot), p.tables.exec = Jvm.exec → c.code = cc → meth.sig.returnType = ret → (∀ w ∈ AW, w.before av.toArray s = true) → s.vm.findClass y.cls = some m.cls → c.maxLocals = maxL → meth.locks = false → meth.name = y.name → va_P D vwCl ws s.heap → va_K D vwCl tys s → va_D (Aw ws) ws → va_S (Aw ws) s.heap s.heap [] → lv_has ls maxL (lv_args 0 av) →
      W p l e rm s m av.toArray below meth c s.heap [] 0 0 (MQ below Qc av.toArray s mc ms free) (F0 m 0 ls [])) : Met l y (Cond.code y cc maxL ret :: AW) rm (Pz av D tys ws) Qc mc ms free := by
  refine Met.ofF (cc := cc) (maxL := maxL) (ret := ret) hy rfl ?_
  intro p e s m args below meth c s₁ B hml hv
  obtain ⟨rfl, hP, hK, hD⟩ := hv
  have hts := atoms_spec (ws := Cond.code y cc maxL ret :: AW) B.pre
  have hin := (name_of_methodNamed B.named B.method).1
  have hl := lv_entry av (n := maxL) hlen
  rw [lg_entry_eq]
  exact body p e s m below meth c _ B.exec B.bytes B.returns (fun w h => hts w (List.mem_cons_of_mem _ h)) (findClass_of_methodNamed B.named) hml B.notSynchronized hin hP hK ⟨hD.1, fun k q hk => ⟨k, q.2, hk⟩⟩ va_S.rf hl
theorem va_D.congr {A : Nat → Prop} {ws ws' : va_W} (h : ws'.map (fun q => q.1) = ws.map (fun q => q.1)) (hD : va_D A ws) : va_D A ws' := by
  have at' : ∀ (k : Nat) (q : Nat × va_E), ws'[k]? = some q → ∃ e, ws[k]? = some (q.1, e) := by
    intro k q hq
    have h1 : (ws'.map (fun q => q.1))[k]? = some q.1 := by rw [List.getElem?_map, hq]; rfl
    rw [h, List.getElem?_map] at h1
    cases hk : ws[k]? with
    | none => rw [hk] at h1; cases h1
    | some z => rw [hk] at h1; exact ⟨z.2, by rw [← Option.some.inj h1]⟩
  refine ⟨fun i j x y hx hy hxy => ?_, fun k q hq => ?_⟩
  · obtain ⟨ex, h1⟩ := at' i x hx
    obtain ⟨ey, h2⟩ := at' j y hy
    exact hD.1 i j _ _ h1 h2 hxy
  · obtain ⟨ex, h1⟩ := at' k q hq
    exact (hD.2 k (q.1, ex) h1 : A q.1)
/-- behind a call that made nothing: the caller's other cells, and the callee's world -/
theorem jn {cl : List vw_C} {ws wc wr w1 : va_W} {H1 : Heap} (hP : va_P D cl ws H) (hD : va_D A0 ws) (isC isR : List Nat) (hC : isC.map (fun i => ws[i]?) = wc.map some) (hR : isR.map (fun i => ws[i]?) = wr.map some) (hn : va_nd (isR ++ isC) = true)
    (hk : ∀ q : Nat, q < H.size → ¬ Aw wc q → H1[q]? = H[q]?) (hP1 : va_P D cl w1 H1) (ha : w1.map (fun q => q.1) = wc.map (fun q => q.1)) : va_P D cl (wr ++ w1) H1 ∧ va_D A0 (wr ++ w1) := by
  have hRC : (isR ++ isC).map (fun i => ws[i]?) = (wr ++ wc).map some := by rw [List.map_append, List.map_append, hC, hR]
  have hD2 : va_D A0 (wr ++ wc) := hD.sub (isR ++ isC) hn hRC
  refine ⟨va_P.app (fun k q hq => ?_) hP1, hD2.congr (by rw [List.map_append, List.map_append, ha])⟩
  have h1 : (isR.map (fun i => ws[i]?))[k]? = some (some q) := by rw [hR, List.getElem?_map, hq]; rfl
  rw [List.getElem?_map] at h1
  cases hi : isR[k]? with
  | none => rw [hi] at h1; cases h1
  | some i =>
    rw [hi] at h1
    have hwi : ws[i]? = some q := Option.some.inj h1
    have hat := hP i q hwi
    refine hat.kept (hk q.1 hat.lt (fun hz => ?_))
    obtain ⟨j, e, hj⟩ := hz
    have hklt : k < wr.length := (List.getElem?_eq_some_iff.mp hq).1
    have g1 : (wr ++ wc)[k]? = some q := by rw [List.getElem?_append_left hklt]; exact hq
    have g2 : (wr ++ wc)[wr.length + j]? = some (q.1, e) := by rw [List.getElem?_append_right (by omega), Nat.add_sub_cancel_left]; exact hj
    have := hD2.1 k (wr.length + j) q (q.1, e) g1 g2 rfl
    omega
theorem aw_sub {ws wc : va_W} {isC : List Nat} (hD : va_D A0 ws) (hC : isC.map (fun i => ws[i]?) = wc.map some) : ∀ q, Aw wc q → A0 q := by
  intro q hq
  obtain ⟨k, e, h⟩ := hq
  have h1 : (isC.map (fun i => ws[i]?))[k]? = some (some (q, e)) := by rw [hC, List.getElem?_map, h]; rfl
  rw [List.getElem?_map] at h1
  cases hi : isC[k]? with
  | none => rw [hi] at h1; cases h1
  | some i => rw [hi] at h1; exact hD.2 i (q, e) (Option.some.inj h1)
section ENDS
variable {cc : ByteArray} {free : Addr → Prop} {ws ws1 ws' : va_W}
theorem end_pi {v w : Int32} (hx : p.tables.exec = Jvm.exec) (hb : c.code = cc) (hr : meth.sig.returnType = some .int) (hlocks : meth.locks = false) (hv : v = w) (hdg : decode cc pc = .ok (.ireturn, 1)) : W p l e R s m args below meth c s.heap [] cells slots (MQ below (pQ (some (.int w))) args s cells slots free) (F0 m pc ls [.int v]) := by
  subst hv
  exact W.iret hx hb hr (fun t ht _ => ⟨rfl, ht⟩) (fun _ h => absurd h List.not_mem_nil) hdg
theorem end_pz {v w : Int32} (hx : p.tables.exec = Jvm.exec) (hb : c.code = cc) (hr : meth.sig.returnType = some .boolean) (hlocks : meth.locks = false) (hn : narrow .boolean (.int v) = .int v) (hv : v = w) (hdg : decode cc pc = .ok (.ireturn, 1)) : W p l e R s m args below meth c s.heap [] cells slots (MQ below (pQ (some (.int w))) args s cells slots free) (F0 m pc ls [.int v]) := by
  subst hv
  exact W.zret hx hb hr hn (fun t ht _ => ⟨rfl, ht⟩) (fun _ h => absurd h List.not_mem_nil) hdg
theorem end_pl {v w : Int64} (hx : p.tables.exec = Jvm.exec) (hb : c.code = cc) (hr : meth.sig.returnType = some .long) (hlocks : meth.locks = false) (hv : v = w) (hdg : decode cc pc = .ok (.lreturn, 1)) : W p l e R s m args below meth c s.heap [] cells slots (MQ below (pQ (some (.long w))) args s cells slots free) (F0 m pc ls [.long v]) := by
  subst hv
  exact W.lret hx hb hr (fun t ht _ => ⟨rfl, ht⟩) (fun _ h => absurd h List.not_mem_nil) hdg
theorem end_pd {v w : UInt64} (hx : p.tables.exec = Jvm.exec) (hb : c.code = cc) (hr : meth.sig.returnType = some .double) (hlocks : meth.locks = false) (hv : v = w) (hdg : decode cc pc = .ok (.dreturn, 1)) : W p l e R s m args below meth c s.heap [] cells slots (MQ below (pQ (some (.double w))) args s cells slots free) (F0 m pc ls [.double v]) := by
  subst hv
  exact W.dret hx hb hr (fun t ht _ => ⟨rfl, ht⟩) (fun _ h => absurd h List.not_mem_nil) hdg
theorem end_pa {v w : Value} {C : String} (hx : p.tables.exec = Jvm.exec) (hb : c.code = cc) (hr : meth.sig.returnType = some (.object C)) (hlocks : meth.locks = false) (hn : v = .null ∨ ∃ a, v = .ref a) (hv : v = w) (hdg : decode cc pc = .ok (.areturn, 1)) : W p l e R s m args below meth c s.heap [] cells slots (MQ below (pQ (some w)) args s cells slots free) (F0 m pc ls [v]) := by
  subst hv
  exact W.aret hx hb hr (Or.inl ⟨_, rfl⟩) hn (fun t ht _ => ⟨rfl, ht⟩) (fun _ h => absurd h List.not_mem_nil) hdg
theorem end_pv (hx : p.tables.exec = Jvm.exec) (hb : c.code = cc) (hr : meth.sig.returnType = none) (hlocks : meth.locks = false) (hdg : decode cc pc = .ok (.return_, 1)) : W p l e R s m args below meth c s.heap [] cells slots (MQ below (pQ none) args s cells slots free) (F0 m pc ls []) := by
  exact W.vret hx hb hr (fun t ht _ => ⟨rfl, ht⟩) (fun _ h => absurd h List.not_mem_nil) hdg
theorem end_fi {v w : Int32} (hx : p.tables.exec = Jvm.exec) (hb : c.code = cc) (hr : meth.sig.returnType = some .int) (hlocks : meth.locks = false) (hP : va_P D vwCl ws1 H) (hS : va_S (Aw ws) s.heap H locs) (hv : v = w) (hw : va_P D vwCl ws1 H → va_P D vwCl ws' H) (hdg : decode cc pc = .ok (.ireturn, 1)) : W p l e R s m args below meth c H locs cells slots (MQ below (fQ (some (.int w)) D ws ws') args s cells slots (Aw ws)) (F0 m pc ls [.int v]) := by
  subst hv
  exact W.iret hx hb hr (fun t ht _ => ⟨rfl, by rw [ht]; exact hw hP, hS.F ht⟩) hS.2.2 hdg
theorem end_fz {v w : Int32} (hx : p.tables.exec = Jvm.exec) (hb : c.code = cc) (hr : meth.sig.returnType = some .boolean) (hlocks : meth.locks = false) (hn : narrow .boolean (.int v) = .int v) (hP : va_P D vwCl ws1 H) (hS : va_S (Aw ws) s.heap H locs) (hv : v = w) (hw : va_P D vwCl ws1 H → va_P D vwCl ws' H) (hdg : decode cc pc = .ok (.ireturn, 1)) : W p l e R s m args below meth c H locs cells slots (MQ below (fQ (some (.int w)) D ws ws') args s cells slots (Aw ws)) (F0 m pc ls [.int v]) := by
  subst hv
  exact W.zret hx hb hr hn (fun t ht _ => ⟨rfl, by rw [ht]; exact hw hP, hS.F ht⟩) hS.2.2 hdg
theorem end_fl {v w : Int64} (hx : p.tables.exec = Jvm.exec) (hb : c.code = cc) (hr : meth.sig.returnType = some .long) (hlocks : meth.locks = false) (hP : va_P D vwCl ws1 H) (hS : va_S (Aw ws) s.heap H locs) (hv : v = w) (hw : va_P D vwCl ws1 H → va_P D vwCl ws' H) (hdg : decode cc pc = .ok (.lreturn, 1)) : W p l e R s m args below meth c H locs cells slots (MQ below (fQ (some (.long w)) D ws ws') args s cells slots (Aw ws)) (F0 m pc ls [.long v]) := by
  subst hv
  exact W.lret hx hb hr (fun t ht _ => ⟨rfl, by rw [ht]; exact hw hP, hS.F ht⟩) hS.2.2 hdg
theorem end_fv (hx : p.tables.exec = Jvm.exec) (hb : c.code = cc) (hr : meth.sig.returnType = none) (hlocks : meth.locks = false) (hP : va_P D vwCl ws1 H) (hS : va_S (Aw ws) s.heap H locs) (hw : va_P D vwCl ws1 H → va_P D vwCl ws' H) (hdg : decode cc pc = .ok (.return_, 1)) : W p l e R s m args below meth c H locs cells slots (MQ below (fQ none D ws ws') args s cells slots (Aw ws)) (F0 m pc ls []) := by
  exact W.vret hx hb hr (fun t ht _ => ⟨rfl, by rw [ht]; exact hw hP, hS.F ht⟩) hS.2.2 hdg
end ENDS
end BASE
/-- the array classes, by their places: int[], Gear[], State[] -/
abbrev TY (kA : Nat → Nat) : List (ClassId × FieldType) := [(kA 0, .int), (kA 1, .object "ArmTolls$Gear"), (kA 2, .object "ArmTolls$State")]
def bI : Bool → Int32
  | true => 1
  | false => 0
theorem nz_bI (b : Bool) : narrow .boolean (.int (bI b)) = .int (bI b) := by cases b <;> decide
theorem bI_0 {b : Bool} : bI b = 0 ↔ b = false := by cases b <;> decide
theorem sw_out {x : Int32} (lo hi : Int) (h : ∀ k : Int, lo ≤ k → k ≤ hi → x.toInt ≠ k) : x.toInt < lo ∨ hi < x.toInt := by
  rcases Int.lt_or_le x.toInt lo with h1 | h1
  · exact Or.inl h1
  · rcases Int.lt_or_le hi x.toInt with h2 | h2
    · exact Or.inr h2
    · exact absurd rfl (h x.toInt h1 h2)
theorem ge_n {x y : Int32} (h : y ≤ x) : ¬ x < y := fun h2 => by rw [Int32.lt_iff_toInt_lt] at h2; rw [Int32.le_iff_toInt_le] at h; omega
theorem nge_l {x y : Int32} (h : ¬ y ≤ x) : x < y := by rw [Int32.lt_iff_toInt_lt]; rw [Int32.le_iff_toInt_le] at h; omega
theorem in_of {x : Int32} {n : Int32} {N : Nat} (h0 : ¬ x < 0) (h1 : x < n) (hn : n.toInt = N) : vp_in x N := vp_in_iff.mpr ⟨by rw [Int32.lt_iff_toInt_lt] at h0; have : (0 : Int32).toInt = 0 := rfl; omega, by rw [Int32.lt_iff_toInt_lt] at h1; omega⟩
section TOP
variable {p : Program} {l : Launch} {e : Env} {R : Room} {s : State} {m : MethodId} {args : Array Value} {below : List Frame} {meth : Method} {c : Code} {H : Heap} {locs : List Loc} {cells slots : Nat} {Q : State → Prop} {pc : Nat} {ls : Array Slot} {rest : List Value}
theorem W_top {v v' : Value} (h : v = v') (k : W p l e R s m args below meth c H locs cells slots Q (F0 m pc ls (v' :: rest))) : W p l e R s m args below meth c H locs cells slots Q (F0 m pc ls (v :: rest)) := by subst h; exact k
end TOP
end
section
/-! what the methods of a gear answer and do, in the words of its own numbers: G 0 .. G 10 the fields, G (t + 11) the wear of the tooth t; R the rules -/
def gC (hw : Nat) (G : Nat → Int32) : va_E := .inr (0, [.ref hw, .int (G 0), .int (G 1), .int (G 2), .int (G 3), .int (G 4), .int (G 5), .int (G 6), .int (G 7), .int (G 8), .int (G 9), .int (G 10)])
def wC (kA : Nat → Nat) (G : Nat → Int32) : va_E := .inl (kA 0, 24, .inl (fun t => G (t + 11)))
def rC (R : Nat → Int32) : va_E := .inr (3, [.int (R 0), .int (R 1), .int (R 2), .int (R 3), .int (R 4), .int (R 5)])
def mkG (f0 f1 f2 f3 f4 f5 f6 f7 f8 f9 f10 : Int32) (w : Nat → Int32) : Nat → Int32
  | 0 => f0
  | 1 => f1
  | 2 => f2
  | 3 => f3
  | 4 => f4
  | 5 => f5
  | 6 => f6
  | 7 => f7
  | 8 => f8
  | 9 => f9
  | 10 => f10
  | t + 11 => w t
def nW (q w : Int32) : Int32 := if q + w < 0 then 23 else if q + w < 24 then q + w else 0
def tW (q w : Int32) : Int32 := if w = 1 then q else if 0 < q then q - 1 else 23
def fM (x y : Int32) : Int32 := if (x ^^^ y) < 0 then (if x - x / y * y = 0 then x - x / y * y else (x - x / y * y) + y) else x - x / y * y
def dist (x y : Int32) : Int32 := if 24 - fM (y - x) 24 < fM (y - x) 24 then 24 - fM (y - x) 24 else fM (y - x) 24
def wrF (f : Nat → Int32) (t : Int32) : Int32 := if t < 0 then 0 else if t < 24 then f t.toNatClampNeg else 0
def wsF (f : Nat → Int32) (t v : Int32) : Nat → Int32 := if t < 0 then f else if t < 24 then upd f t.toNatClampNeg v else f
def tlF (ld we gl pt : Int32) : Int32 := if 0 < gl then ((if 0 < pt then 1 + ld + we / pt else 1 + ld) + 1) / 2 else (if 0 < pt then 1 + ld + we / pt else 1 + ld)
def gwr (G : Nat → Int32) (t : Int32) : Int32 := wrF (fun k => G (k + 11)) t
def tollG (G R : Nat → Int32) (w : Int32) : Int32 := tlF (G 2) (gwr G (tW (G 0) w)) (G 5) (R 1)
def turnG (G : Nat → Int32) (w : Int32) : Bool := decide (G 3 = -w)
/-- one step of a gear, its toll being there -/
def stepG (G R : Nat → Int32) (w : Int32) : Nat → Int32 :=
  mkG (if turnG G w = true then (if gwr G (tW (G 0) w) < R 2 then nW (G 0) w else G 0) else nW (G 0) w) (nW (G 1) w) (G 2) w
    (if turnG G w = true then (if 12 < G 4 + 1 then 12 else G 4 + 1) else G 4) (if G 5 - 1 < 0 then 0 else G 5 - 1) (G 6 + 1)
    (if turnG G w = true then (if gwr G (tW (G 0) w) < R 2 then G 7 else G 7 + 1) else G 7) (G 8 + tollG G R w) (if turnG G w = true then G 9 + 1 else G 9) (G 10)
    (wsF (fun k => G (k + 11)) (tW (G 0) w) (if 99 < gwr G (tW (G 0) w) + R 0 then 99 else gwr G (tW (G 0) w) + R 0))
/-- a step as the class makes it: its answer, and the gear behind it -/
def msR (G R : Nat → Int32) (w pu : Int32) : Int32 := if pu < tollG G R w then 0 else tollG G R w
def msG (G R : Nat → Int32) (w pu : Int32) : Nat → Int32 := if pu < tollG G R w then G else stepG G R w
def hm1 (G : Nat → Int32) : Nat → Int32 := mkG (G 0) 0 (G 2) 0 0 (G 5) (G 6) (G 7) (G 8) (G 9) (G 10 + 1) (fun t => G (t + 11))
def hmL (R : Nat → Int32) (pu : Int32) : Nat → (Nat → Int32) → Int32 → Int32 × (Nat → Int32)
  | 0, G, pd => (pd, G)
  | k + 1, G, pd => if G 0 = 0 then (pd, G) else if msR G R (-1) (pu - pd) = 0 then (pd, msG G R (-1) (pu - pd)) else hmL R pu k (msG G R (-1) (pu - pd)) (pd + msR G R (-1) (pu - pd))
def hmP (G R : Nat → Int32) (pu : Int32) : Int32 := (hmL R pu 40 G 0).1
def hmG (G R : Nat → Int32) (pu : Int32) : Nat → Int32 := if (hmL R pu 40 G 0).2 0 = 0 then hm1 (hmL R pu 40 G 0).2 else (hmL R pu 40 G 0).2
def coL (G R : Nat → Int32) (tg w wo : Int32) : Nat → Int32 → Int32 → Int32 → Int32
  | 0, _, _, sm => sm
  | k + 1, q, md, sm => if q = tg then sm else coL G R tg w wo k (nW q w) (md + 1) (sm + tlF (G 2) (if tW q w = wo then 0 else gwr G (tW q w)) (G 5 - md) (R 1))
def costG (G R : Nat → Int32) (tg w wo : Int32) : Int32 := coL G R tg w wo 24 (G 1) 0 0
def ppL (G : Nat → Int32) : Nat → Int32 → Int32 → Int32
  | 0, _, bm => bm
  | k + 1, cd, bm => ppL G k (cd + 1) (if G 4 < dist cd (G 1) then bm else bm ||| (1 <<< (cd &&& 31)))
def possG (G : Nat → Int32) : Int32 := ppL G 24 0 0
def propG (G : Nat → Int32) (w : Int32) : Int32 :=
  if w = 0 then G 0 else if w = 1 then G 1 else if w = 2 then G 2 else if w = 3 then G 3 else if w = 4 then G 4 else if w = 5 then G 5 else if w = 6 then G 6 else if w = 7 then G 7 else if w = 8 then G 8 else if w = 9 then dist (G 0) (G 1) else if w = 10 then G 9 else G 10
theorem cnt_nge {x k : Int32} {j N : Nat} (e : x = nI j) (hk : nI N = k) (hN : N < 2 ^ 31) (h : j < N) : ¬ k ≤ x := by
  subst e; subst hk
  exact nI_ge h hN
theorem cnt_ge {x k : Int32} {j N : Nat} (e : x = nI j) (hk : nI N = k) (hj : j < 2 ^ 31) (h : N ≤ j) : k ≤ x := by
  subst e; subst hk
  exact nI_le h hj
theorem bI_n0 {b : Bool} (h : ¬ bI b = 0) : b = true := by
  cases b
  · exact absurd rfl h
  · rfl
theorem bI_n (b : Bool) {r : Bool} (h : b = r) (hr : r = true) : ¬ bI b = 0 := by subst h; subst hr; decide
theorem arrV_congr {c N : Nat} {f g : Nat → Value} (h : ∀ j, j < N → f j = g j) : arrV c N f = arrV c N g := by
  have e : (Array.ofFn (n := N) fun j => f j.val) = Array.ofFn (n := N) fun j => g j.val := congrArg Array.ofFn (funext fun j => h j.val j.isLt)
  show ({ cls := c, slots := Array.ofFn (n := N) fun j => f j.val, vm := .none } : Cell) = { cls := c, slots := Array.ofFn (n := N) fun j => g j.val, vm := .none }
  rw [e]
/-- the contents of an array of ints matter below its length alone -/
theorem va_P.ints {D : va_G} {cl : List vw_C} {ws : va_W} {H : Heap} (h : va_P D cl ws H) (k : Nat) {a c n : Nat} {f : Nat → Int32} (g : Nat → Int32) (hk : ws[k]? = some (a, .inl (c, n, .inl f))) (hfg : ∀ j, j < n → f j = g j) : va_P D cl (ws.set k (a, .inl (c, n, .inl g))) H := by
  intro i q hq
  by_cases hi : i = k
  · subst hi
    have hl := (List.getElem?_eq_some_iff.mp hk).1
    rw [List.getElem?_set_self hl] at hq
    cases hq
    have h1 := h i _ hk
    show H[a]? = some (vp_cell c (n, .inl g))
    have h2 : H[a]? = some (vp_cell c (n, .inl f)) := h1
    rw [h2]
    exact congrArg some (show arrV c n (fun j => .int (f j)) = arrV c n (fun j => .int (g j)) from arrV_congr (fun j hj => congrArg Value.int (hfg j hj)))
  · rw [List.getElem?_set_ne (fun h => hi h.symm)] at hq
    exact h i q hq
end
section
theorem hd_X0_nextPlace : yX0_nextPlace.cls ≠ "java/lang/invoke/MethodHandle" ∧ yX0_nextPlace.cls ≠ "java/lang/invoke/VarHandle" ∧ (parseMethodDescriptor yX0_nextPlace.desc).map (fun d => d.parameters.length) = some 2 := by decide +kernel
set_option maxRecDepth 100000 in
set_option maxHeartbeats 4000000 in
theorem m_X0_nextPlace (l : Launch) (D : va_G) (kA : Nat → Nat) (p0 : Int32) (p1 : Int32) : Met l yX0_nextPlace (Cond.code yX0_nextPlace cX0_nextPlace 3 (some .int) :: AW) ({ frames := 0, cells := 0, slots := 0, locals := 0 } : Room) (Pz [.int p0, .int p1] D (TY kA) []) (pQ (some (.int (nW p0 p1)))) 0 0 (fun _ => False) := by
  refine MetZ (by decide +kernel) (Nat.le_of_ble_eq_true rfl) ?_
  intro p e s m below meth c ls hx hb hrt hts hown hml hlk hnm hP hK hD hS hl
  have hl : lv_has ls 3 [(0, .int p0), (1, .int p1)] := hl
  refine lv_iload_n hx hb dX0_nextPlace_0 rfl (lv_at hl 0 rfl) ?_
  refine lv_iload_n hx hb dX0_nextPlace_1 rfl (lv_at hl 1 rfl) ?_
  refine lv_iadd hx hb dX0_nextPlace_2 ?_
  refine lv_istore_n (lv' := [(2, .int (p0 + p1)), (0, .int p0), (1, .int p1)]) hx hb dX0_nextPlace_3 rfl hl (by decide) rfl (fun ls hl => ?_)
  refine lv_iload_n hx hb dX0_nextPlace_4 rfl (lv_at hl 0 rfl) ?_
  refine lv_if_ge (tgt := 11) hx hb dX0_nextPlace_5 (by decide) (fun c_1 => ?_) (fun c_1 => ?_)
  · skip
    replace c_1 := ge_n c_1
    refine lv_iload_n hx hb dX0_nextPlace_11 rfl (lv_at hl 0 rfl) ?_
    refine lv_bipush (v := 24) hx hb dX0_nextPlace_12 (by decide) ?_
    refine lv_icmp_ge (tgt := 21) hx hb dX0_nextPlace_14 (by decide) (fun c_2 => ?_) (fun c_2 => ?_)
    · skip
      replace c_2 := ge_n c_2
      refine lv_iconst (v := 0) hx hb dX0_nextPlace_21 (by decide) ?_
      exact end_pi hx hb hrt hlk (by first | rfl | (simp only [nW, c_1, c_2, ↓reduceIte, bI]; done) | (simp only [nW, c_1, c_2, ↓reduceIte, bI]; rfl) | (simp [nW, c_1, c_2, bI]; done)) dX0_nextPlace_22
    · skip
      replace c_2 := nge_l c_2
      refine lv_iload_n hx hb dX0_nextPlace_17 rfl (lv_at hl 0 rfl) ?_
      refine lv_goto (tgt := 22) hx hb dX0_nextPlace_18 (by decide) ?_
      exact end_pi hx hb hrt hlk (by first | rfl | (simp only [nW, c_1, c_2, ↓reduceIte, bI]; done) | (simp only [nW, c_1, c_2, ↓reduceIte, bI]; rfl) | (simp [nW, c_1, c_2, bI]; done)) dX0_nextPlace_22
  · skip
    replace c_1 := nge_l c_1
    refine lv_bipush (v := 23) hx hb dX0_nextPlace_8 (by decide) ?_
    exact end_pi hx hb hrt hlk (by first | rfl | (simp only [nW, c_1, ↓reduceIte, bI]; done) | (simp only [nW, c_1, ↓reduceIte, bI]; rfl) | (simp [nW, c_1, bI]; done)) dX0_nextPlace_10

theorem hd_X0_toothBy : yX0_toothBy.cls ≠ "java/lang/invoke/MethodHandle" ∧ yX0_toothBy.cls ≠ "java/lang/invoke/VarHandle" ∧ (parseMethodDescriptor yX0_toothBy.desc).map (fun d => d.parameters.length) = some 2 := by decide +kernel
set_option maxRecDepth 100000 in
set_option maxHeartbeats 4000000 in
theorem m_X0_toothBy (l : Launch) (D : va_G) (kA : Nat → Nat) (p0 : Int32) (p1 : Int32) : Met l yX0_toothBy (Cond.code yX0_toothBy cX0_toothBy 2 (some .int) :: AW) ({ frames := 0, cells := 0, slots := 0, locals := 0 } : Room) (Pz [.int p0, .int p1] D (TY kA) []) (pQ (some (.int (tW p0 p1)))) 0 0 (fun _ => False) := by
  refine MetZ (by decide +kernel) (Nat.le_of_ble_eq_true rfl) ?_
  intro p e s m below meth c ls hx hb hrt hts hown hml hlk hnm hP hK hD hS hl
  have hl : lv_has ls 2 [(0, .int p0), (1, .int p1)] := hl
  refine lv_iload_n hx hb dX0_toothBy_0 rfl (lv_at hl 1 rfl) ?_
  refine lv_iconst (v := 1) hx hb dX0_toothBy_1 (by decide) ?_
  refine lv_icmp_ne (tgt := 7) hx hb dX0_toothBy_2 (by decide) (fun c_1 => ?_) (fun c_1 => ?_)
  · skip
    refine lv_iload_n hx hb dX0_toothBy_7 rfl (lv_at hl 0 rfl) ?_
    refine lv_if_le (tgt := 17) hx hb dX0_toothBy_8 (by decide) (fun c_2 => ?_) (fun c_2 => ?_)
    · skip
      replace c_2 := ge_n c_2
      refine lv_bipush (v := 23) hx hb dX0_toothBy_17 (by decide) ?_
      exact end_pi hx hb hrt hlk (by first | rfl | (simp only [tW, c_1, c_2, ↓reduceIte, bI]; done) | (simp only [tW, c_1, c_2, ↓reduceIte, bI]; rfl) | (simp [tW, c_1, c_2, bI]; done)) dX0_toothBy_19
    · skip
      replace c_2 := nge_l c_2
      refine lv_iload_n hx hb dX0_toothBy_11 rfl (lv_at hl 0 rfl) ?_
      refine lv_iconst (v := 1) hx hb dX0_toothBy_12 (by decide) ?_
      refine lv_isub hx hb dX0_toothBy_13 ?_
      refine lv_goto (tgt := 19) hx hb dX0_toothBy_14 (by decide) ?_
      exact end_pi hx hb hrt hlk (by first | rfl | (simp only [tW, c_1, c_2, ↓reduceIte, bI]; done) | (simp only [tW, c_1, c_2, ↓reduceIte, bI]; rfl) | (simp [tW, c_1, c_2, bI]; done)) dX0_toothBy_19
  · skip
    refine lv_iload_n hx hb dX0_toothBy_5 rfl (lv_at hl 0 rfl) ?_
    exact end_pi hx hb hrt hlk (by first | rfl | (simp only [tW, c_1, ↓reduceIte, bI]; done) | (simp only [tW, c_1, ↓reduceIte, bI]; rfl) | (simp [tW, c_1, bI]; done)) dX0_toothBy_6

theorem hd_J9_floorMod_7cf53 : yJ9_floorMod_7cf53.cls ≠ "java/lang/invoke/MethodHandle" ∧ yJ9_floorMod_7cf53.cls ≠ "java/lang/invoke/VarHandle" ∧ (parseMethodDescriptor yJ9_floorMod_7cf53.desc).map (fun d => d.parameters.length) = some 2 := by decide +kernel
set_option maxRecDepth 100000 in
set_option maxHeartbeats 4000000 in
theorem m_J9_floorMod_7cf53 (l : Launch) (D : va_G) (kA : Nat → Nat) (p0 : Int32) (p1 : Int32) (hne : ¬ p1 = 0) : Met l yJ9_floorMod_7cf53 (Cond.code yJ9_floorMod_7cf53 cJ9_floorMod_7cf53 3 (some .int) :: AW) ({ frames := 0, cells := 0, slots := 0, locals := 0 } : Room) (Pz [.int p0, .int p1] D (TY kA) []) (pQ (some (.int (fM p0 p1)))) 0 0 (fun _ => False) := by
  refine MetZ (by decide +kernel) (Nat.le_of_ble_eq_true rfl) ?_
  intro p e s m below meth c ls hx hb hrt hts hown hml hlk hnm hP hK hD hS hl
  have hl : lv_has ls 3 [(0, .int p0), (1, .int p1)] := hl
  refine lv_iload_n hx hb dJ9_floorMod_7cf53_0 rfl (lv_at hl 0 rfl) ?_
  refine lv_iload_n hx hb dJ9_floorMod_7cf53_1 rfl (lv_at hl 1 rfl) ?_
  refine lv_irem hx hb dJ9_floorMod_7cf53_2 (hne) ?_
  refine lv_istore_n (lv' := [(2, .int (p0 - p0 / p1 * p1)), (0, .int p0), (1, .int p1)]) hx hb dJ9_floorMod_7cf53_3 rfl hl (by decide) rfl (fun ls hl => ?_)
  refine lv_iload_n hx hb dJ9_floorMod_7cf53_4 rfl (lv_at hl 1 rfl) ?_
  refine lv_iload_n hx hb dJ9_floorMod_7cf53_5 rfl (lv_at hl 2 rfl) ?_
  refine lv_ixor hx hb dJ9_floorMod_7cf53_6 ?_
  refine lv_if_ge (tgt := 18) hx hb dJ9_floorMod_7cf53_7 (by decide) (fun c_1 => ?_) (fun c_1 => ?_)
  · skip
    replace c_1 := ge_n c_1
    refine lv_iload_n hx hb dJ9_floorMod_7cf53_18 rfl (lv_at hl 0 rfl) ?_
    exact end_pi hx hb hrt hlk (by first | rfl | (simp only [fM, c_1, ↓reduceIte, bI]; done) | (simp only [fM, c_1, ↓reduceIte, bI]; rfl) | (simp [fM, c_1, bI]; done)) dJ9_floorMod_7cf53_19
  · skip
    replace c_1 := nge_l c_1
    refine lv_iload_n hx hb dJ9_floorMod_7cf53_10 rfl (lv_at hl 0 rfl) ?_
    refine lv_if_eq (tgt := 18) hx hb dJ9_floorMod_7cf53_11 (by decide) (fun c_2 => ?_) (fun c_2 => ?_)
    · skip
      refine lv_iload_n hx hb dJ9_floorMod_7cf53_18 rfl (lv_at hl 0 rfl) ?_
      exact end_pi hx hb hrt hlk (by first | rfl | (simp only [fM, c_1, c_2, ↓reduceIte, bI]; done) | (simp only [fM, c_1, c_2, ↓reduceIte, bI]; rfl) | (simp [fM, c_1, c_2, bI]; done)) dJ9_floorMod_7cf53_19
    · skip
      refine lv_iload_n hx hb dJ9_floorMod_7cf53_14 rfl (lv_at hl 0 rfl) ?_
      refine lv_iload_n hx hb dJ9_floorMod_7cf53_15 rfl (lv_at hl 2 rfl) ?_
      refine lv_iadd hx hb dJ9_floorMod_7cf53_16 ?_
      exact end_pi hx hb hrt hlk (by first | rfl | (simp only [fM, c_1, c_2, ↓reduceIte, bI]; done) | (simp only [fM, c_1, c_2, ↓reduceIte, bI]; rfl) | (simp [fM, c_1, c_2, bI]; done)) dJ9_floorMod_7cf53_17

theorem hd_X0_distance : yX0_distance.cls ≠ "java/lang/invoke/MethodHandle" ∧ yX0_distance.cls ≠ "java/lang/invoke/VarHandle" ∧ (parseMethodDescriptor yX0_distance.desc).map (fun d => d.parameters.length) = some 2 := by decide +kernel
set_option maxRecDepth 100000 in
set_option maxHeartbeats 4000000 in
theorem m_X0_distance (l : Launch) (D : va_G) (kA : Nat → Nat) (p0 : Int32) (p1 : Int32) : Met l yX0_distance (Cond.code yX0_distance cX0_distance 3 (some .int) :: AW) ({ frames := 1, cells := 0, slots := 0, locals := 22 } : Room) (Pz [.int p0, .int p1] D (TY kA) []) (pQ (some (.int (dist p0 p1)))) 0 0 (fun _ => False) := by
  refine MetZ (by decide +kernel) (Nat.le_of_ble_eq_true rfl) ?_
  intro p e s m below meth c ls hx hb hrt hts hown hml hlk hnm hP hK hD hS hl
  have hl : lv_has ls 3 [(0, .int p0), (1, .int p1)] := hl
  refine lv_iload_n hx hb dX0_distance_0 rfl (lv_at hl 1 rfl) ?_
  refine lv_iload_n hx hb dX0_distance_1 rfl (lv_at hl 0 rfl) ?_
  refine lv_isub hx hb dX0_distance_2 ?_
  refine lv_bipush (v := 24) hx hb dX0_distance_3 (by decide) ?_
  refine cs_p (runS (As := [.int (p1 - p0), .int 24]) (rest := []) ⟨hx, hb, hml, hown, hts⟩ (m_J9_floorMod_7cf53 l D kA (p1 - p0) 24 (by decide)) q_537 q_538 q_12 q_539 hd_J9_floorMod_7cf53 ⟨rfl, rfl⟩ ⟨Nat.le_of_ble_eq_true rfl, Nat.le_of_ble_eq_true rfl⟩ hK (ws := []) (hP.sub [] rfl) (hD.sub [] (by decide) rfl) rfl hl.1 rfl (Nat.le_of_ble_eq_true rfl) dX0_distance_5 ⟨Nat.zero_le _, Nat.zero_le _⟩) ?_
  refine lv_istore_n (lv' := [(2, .int (fM (p1 - p0) 24)), (0, .int p0), (1, .int p1)]) hx hb dX0_distance_8 rfl hl (by decide) rfl (fun ls hl => ?_)
  refine lv_iload_n hx hb dX0_distance_9 rfl (lv_at hl 0 rfl) ?_
  refine lv_bipush (v := 24) hx hb dX0_distance_10 (by decide) ?_
  refine lv_iload_n hx hb dX0_distance_12 rfl (lv_at hl 0 rfl) ?_
  refine lv_isub hx hb dX0_distance_13 ?_
  refine va_mmin hx hb (hml.trans hl.1.symm) hown (hts _ q_375) (hts _ q_356) (hts _ q_12) (hts _ q_357) (Nat.le_of_ble_eq_true rfl) (Nat.le_of_ble_eq_true rfl) (Nat.zero_le _) (Nat.zero_le _) dX0_distance_14 ?_
  exact end_pi hx hb hrt hlk (by first | rfl | (simp only [dist, ↓reduceIte, bI]; done) | (simp only [dist, ↓reduceIte, bI]; rfl) | (simp [dist, bI]; done)) dX0_distance_17

theorem hd_X0_wearOf : yX0_wearOf.cls ≠ "java/lang/invoke/MethodHandle" ∧ yX0_wearOf.cls ≠ "java/lang/invoke/VarHandle" ∧ (parseMethodDescriptor yX0_wearOf.desc).map (fun d => d.parameters.length) = some 1 := by decide +kernel
set_option maxRecDepth 100000 in
set_option maxHeartbeats 4000000 in
theorem m_X0_wearOf (l : Launch) (D : va_G) (kA : Nat → Nat) (h0 : Nat) (hw : Nat) (f0 : Int32) (f1 : Int32) (f2 : Int32) (f3 : Int32) (f4 : Int32) (f5 : Int32) (f6 : Int32) (f7 : Int32) (f8 : Int32) (f9 : Int32) (f10 : Int32) (fw : Nat → Int32) (p0 : Int32) : Met l yX0_wearOf (Cond.code yX0_wearOf cX0_wearOf 2 (some .int) :: AW) ({ frames := 0, cells := 0, slots := 0, locals := 0 } : Room) (Pz [.ref h0, .int p0] D (TY kA) [(h0, .inr (0, [.ref hw, .int f0, .int f1, .int f2, .int f3, .int f4, .int f5, .int f6, .int f7, .int f8, .int f9, .int f10])), (hw, .inl (kA 0, 24, .inl fw))]) (pQ (some (.int (wrF fw p0)))) 0 0 (fun _ => False) := by
  refine MetZ (by decide +kernel) (Nat.le_of_ble_eq_true rfl) ?_
  intro p e s m below meth c ls hx hb hrt hts hown hml hlk hnm hP hK hD hS hl
  have hl : lv_has ls 2 [(0, .ref h0), (1, .int p0)] := hl
  refine lv_iload_n hx hb dX0_wearOf_0 rfl (lv_at hl 1 rfl) ?_
  refine lv_if_lt (tgt := 22) hx hb dX0_wearOf_1 (by decide) (fun c_1 => ?_) (fun c_1 => ?_)
  · skip
    refine lv_iconst (v := 0) hx hb dX0_wearOf_22 (by decide) ?_
    exact end_pi hx hb hrt hlk (by first | rfl | (simp only [wrF, c_1, ↓reduceIte, bI]; done) | (simp only [wrF, c_1, ↓reduceIte, bI]; rfl) | (simp [wrF, c_1, bI]; done)) dX0_wearOf_23
  · skip
    refine lv_iload_n hx hb dX0_wearOf_4 rfl (lv_at hl 1 rfl) ?_
    refine lv_aload_n hx hb dX0_wearOf_5 rfl (lv_at hl 0 rfl) ?_
    refine va_get (ci := 0) (v := .ref hw) (C := RX0) (T := TX0) (N := 12) hx hb hts inX0 hown hK hP 0 rfl rfl 0 (by decide) (hts _ q_68) (fun _ h9 => h9) rfl dX0_wearOf_6 ?_
    refine va_alen (v := 24) hx hb hK hP 1 0 rfl rfl rfl dX0_wearOf_9 ?_
    refine lv_icmp_ge (tgt := 22) hx hb dX0_wearOf_10 (by decide) (fun c_2 => ?_) (fun c_2 => ?_)
    · skip
      replace c_2 := ge_n c_2
      refine lv_iconst (v := 0) hx hb dX0_wearOf_22 (by decide) ?_
      exact end_pi hx hb hrt hlk (by first | rfl | (simp only [wrF, c_1, c_2, ↓reduceIte, bI]; done) | (simp only [wrF, c_1, c_2, ↓reduceIte, bI]; rfl) | (simp [wrF, c_1, c_2, bI]; done)) dX0_wearOf_23
    · skip
      replace c_2 := nge_l c_2
      refine lv_aload_n hx hb dX0_wearOf_13 rfl (lv_at hl 0 rfl) ?_
      refine va_get (ci := 0) (v := .ref hw) (C := RX0) (T := TX0) (N := 12) hx hb hts inX0 hown hK hP 0 rfl rfl 0 (by decide) (hts _ q_68) (fun _ h9 => h9) rfl dX0_wearOf_14 ?_
      refine lv_iload_n hx hb dX0_wearOf_17 rfl (lv_at hl 1 rfl) ?_
      refine va_iald (f := fw) hx hb hK hP 1 0 rfl rfl (in_of c_1 c_2 rfl) dX0_wearOf_18 ?_
      refine lv_goto (tgt := 23) hx hb dX0_wearOf_19 (by decide) ?_
      exact end_pi hx hb hrt hlk (by first | rfl | (simp only [wrF, c_1, c_2, ↓reduceIte, bI]; done) | (simp only [wrF, c_1, c_2, ↓reduceIte, bI]; rfl) | (simp [wrF, c_1, c_2, bI]; done)) dX0_wearOf_23

theorem hd_X0_setWear : yX0_setWear.cls ≠ "java/lang/invoke/MethodHandle" ∧ yX0_setWear.cls ≠ "java/lang/invoke/VarHandle" ∧ (parseMethodDescriptor yX0_setWear.desc).map (fun d => d.parameters.length) = some 2 := by decide +kernel
set_option maxRecDepth 100000 in
set_option maxHeartbeats 4000000 in
theorem m_X0_setWear (l : Launch) (D : va_G) (kA : Nat → Nat) (h0 : Nat) (hw : Nat) (f0 : Int32) (f1 : Int32) (f2 : Int32) (f3 : Int32) (f4 : Int32) (f5 : Int32) (f6 : Int32) (f7 : Int32) (f8 : Int32) (f9 : Int32) (f10 : Int32) (fw : Nat → Int32) (p0 : Int32) (p1 : Int32) : Met l yX0_setWear (Cond.code yX0_setWear cX0_setWear 3 none :: AW) ({ frames := 0, cells := 0, slots := 0, locals := 0 } : Room) (Pz [.ref h0, .int p0, .int p1] D (TY kA) [(h0, .inr (0, [.ref hw, .int f0, .int f1, .int f2, .int f3, .int f4, .int f5, .int f6, .int f7, .int f8, .int f9, .int f10])), (hw, .inl (kA 0, 24, .inl fw))]) (fQ none D [(h0, .inr (0, [.ref hw, .int f0, .int f1, .int f2, .int f3, .int f4, .int f5, .int f6, .int f7, .int f8, .int f9, .int f10])), (hw, .inl (kA 0, 24, .inl fw))] [(h0, .inr (0, [.ref hw, .int f0, .int f1, .int f2, .int f3, .int f4, .int f5, .int f6, .int f7, .int f8, .int f9, .int f10])), (hw, .inl (kA 0, 24, .inl (wsF fw p0 p1)))]) 0 0 (Aw [(h0, .inr (0, [.ref hw, .int f0, .int f1, .int f2, .int f3, .int f4, .int f5, .int f6, .int f7, .int f8, .int f9, .int f10])), (hw, .inl (kA 0, 24, .inl fw))]) := by
  refine MetZ (by decide +kernel) (Nat.le_of_ble_eq_true rfl) ?_
  intro p e s m below meth c ls hx hb hrt hts hown hml hlk hnm hP hK hD hS hl
  have hl : lv_has ls 3 [(0, .ref h0), (1, .int p0), (2, .int p1)] := hl
  refine lv_iload_n hx hb dX0_setWear_0 rfl (lv_at hl 1 rfl) ?_
  refine lv_if_lt (tgt := 20) hx hb dX0_setWear_1 (by decide) (fun c_1 => ?_) (fun c_1 => ?_)
  · skip
    have hP : va_P D vwCl [(h0, .inr (0, [.ref hw, .int f0, .int f1, .int f2, .int f3, .int f4, .int f5, .int f6, .int f7, .int f8, .int f9, .int f10])), (hw, .inl (kA 0, 24, .inl fw))] _ := hP.sub [0, 1] rfl
    exact end_fv hx hb hrt hlk hP hS (by intro h; simpa only [wsF, c_1, ↓reduceIte] using h) dX0_setWear_20
  · skip
    refine lv_iload_n hx hb dX0_setWear_4 rfl (lv_at hl 1 rfl) ?_
    refine lv_aload_n hx hb dX0_setWear_5 rfl (lv_at hl 0 rfl) ?_
    refine va_get (ci := 0) (v := .ref hw) (C := RX0) (T := TX0) (N := 12) hx hb hts inX0 hown hK hP 0 rfl rfl 0 (by decide) (hts _ q_68) (fun _ h9 => h9) rfl dX0_setWear_6 ?_
    refine va_alen (v := 24) hx hb hK hP 1 0 rfl rfl rfl dX0_setWear_9 ?_
    refine lv_icmp_ge (tgt := 20) hx hb dX0_setWear_10 (by decide) (fun c_2 => ?_) (fun c_2 => ?_)
    · skip
      replace c_2 := ge_n c_2
      have hP : va_P D vwCl [(h0, .inr (0, [.ref hw, .int f0, .int f1, .int f2, .int f3, .int f4, .int f5, .int f6, .int f7, .int f8, .int f9, .int f10])), (hw, .inl (kA 0, 24, .inl fw))] _ := hP.sub [0, 1] rfl
      exact end_fv hx hb hrt hlk hP hS (by intro h; simpa only [wsF, c_1, c_2, ↓reduceIte] using h) dX0_setWear_20
    · skip
      replace c_2 := nge_l c_2
      refine lv_aload_n hx hb dX0_setWear_13 rfl (lv_at hl 0 rfl) ?_
      refine va_get (ci := 0) (v := .ref hw) (C := RX0) (T := TX0) (N := 12) hx hb hts inX0 hown hK hP 0 rfl rfl 0 (by decide) (hts _ q_68) (fun _ h9 => h9) rfl dX0_setWear_14 ?_
      refine lv_iload_n hx hb dX0_setWear_17 rfl (lv_at hl 1 rfl) ?_
      refine lv_iload_n hx hb dX0_setWear_18 rfl (lv_at hl 2 rfl) ?_
      refine va_iast (f := fw) hx hb hK hP hD hS 1 0 rfl rfl (in_of c_1 c_2 rfl) dX0_setWear_19 (fun H locs hP hD hS => ?_)
      have hP : va_P D vwCl [(h0, .inr (0, [.ref hw, .int f0, .int f1, .int f2, .int f3, .int f4, .int f5, .int f6, .int f7, .int f8, .int f9, .int f10])), (hw, .inl (kA 0, 24, .inl (upd fw p0.toNatClampNeg p1)))] H := hP
      have hD : va_D (Aw [(h0, .inr (0, [.ref hw, .int f0, .int f1, .int f2, .int f3, .int f4, .int f5, .int f6, .int f7, .int f8, .int f9, .int f10])), (hw, .inl (kA 0, 24, .inl fw))]) [(h0, .inr (0, [.ref hw, .int f0, .int f1, .int f2, .int f3, .int f4, .int f5, .int f6, .int f7, .int f8, .int f9, .int f10])), (hw, .inl (kA 0, 24, .inl (upd fw p0.toNatClampNeg p1)))] := hD
      have hP : va_P D vwCl [(h0, .inr (0, [.ref hw, .int f0, .int f1, .int f2, .int f3, .int f4, .int f5, .int f6, .int f7, .int f8, .int f9, .int f10])), (hw, .inl (kA 0, 24, .inl (upd fw p0.toNatClampNeg p1)))] _ := hP.sub [0, 1] rfl
      exact end_fv hx hb hrt hlk hP hS (by intro h; simpa only [wsF, c_1, c_2, ↓reduceIte] using h) dX0_setWear_20

theorem hd_X0_tollWith : yX0_tollWith.cls ≠ "java/lang/invoke/MethodHandle" ∧ yX0_tollWith.cls ≠ "java/lang/invoke/VarHandle" ∧ (parseMethodDescriptor yX0_tollWith.desc).map (fun d => d.parameters.length) = some 3 := by decide +kernel
set_option maxRecDepth 100000 in
set_option maxHeartbeats 4000000 in
theorem m_X0_tollWith (l : Launch) (D : va_G) (kA : Nat → Nat) (h0 : Nat) (hw : Nat) (f0 : Int32) (f1 : Int32) (f2 : Int32) (f3 : Int32) (f4 : Int32) (f5 : Int32) (f6 : Int32) (f7 : Int32) (f8 : Int32) (f9 : Int32) (f10 : Int32) (h9 : Nat) (r0 : Int32) (r1 : Int32) (r2 : Int32) (r3 : Int32) (r4 : Int32) (r5 : Int32) (p0 : Int32) (p1 : Int32) : Met l yX0_tollWith (Cond.code yX0_tollWith cX0_tollWith 5 (some .int) :: AW) ({ frames := 0, cells := 0, slots := 0, locals := 0 } : Room) (Pz [.ref h0, .int p0, .int p1, .ref h9] D (TY kA) [(h0, .inr (0, [.ref hw, .int f0, .int f1, .int f2, .int f3, .int f4, .int f5, .int f6, .int f7, .int f8, .int f9, .int f10])), (h9, .inr (3, [.int r0, .int r1, .int r2, .int r3, .int r4, .int r5]))]) (pQ (some (.int (tlF f2 p0 p1 r1)))) 0 0 (fun _ => False) := by
  refine MetZ (by decide +kernel) (Nat.le_of_ble_eq_true rfl) ?_
  intro p e s m below meth c ls hx hb hrt hts hown hml hlk hnm hP hK hD hS hl
  have hl : lv_has ls 5 [(0, .ref h0), (1, .int p0), (2, .int p1), (3, .ref h9)] := hl
  refine lv_iconst (v := 1) hx hb dX0_tollWith_0 (by decide) ?_
  refine lv_aload_n hx hb dX0_tollWith_1 rfl (lv_at hl 0 rfl) ?_
  refine va_get (ci := 0) (v := .int f2) (C := RX0) (T := TX0) (N := 12) hx hb hts inX0 hown hK hP 0 rfl rfl 3 (by decide) (hts _ q_74) (fun _ h9 => h9) rfl dX0_tollWith_2 ?_
  refine lv_iadd hx hb dX0_tollWith_5 ?_
  refine lv_istore (lv' := [(4, .int (1 + f2)), (0, .ref h0), (1, .int p0), (2, .int p1), (3, .ref h9)]) hx hb dX0_tollWith_6 hl (by decide) rfl (fun ls hl => ?_)
  refine lv_aload_n hx hb dX0_tollWith_8 rfl (lv_at hl 4 rfl) ?_
  refine va_get (ci := 3) (v := .int r1) (C := RX3) (T := TX3) (N := 6) hx hb hts inX3 hown hK hP 1 rfl rfl 1 (by decide) (hts _ q_38) (fun _ h9 => h9) rfl dX0_tollWith_9 ?_
  refine lv_if_le (tgt := 26) hx hb dX0_tollWith_12 (by decide) (fun c_1 => ?_) (fun c_1 => ?_)
  · skip
    replace c_1 := ge_n c_1
    refine lv_iload_n hx hb dX0_tollWith_26 rfl (lv_at hl 3 rfl) ?_
    refine lv_if_le (tgt := 39) hx hb dX0_tollWith_27 (by decide) (fun c_2 => ?_) (fun c_2 => ?_)
    · skip
      replace c_2 := ge_n c_2
      refine lv_iload hx hb dX0_tollWith_39 (lv_at hl 0 rfl) ?_
      exact end_pi hx hb hrt hlk (by first | rfl | (simp only [tlF, c_1, c_2, ↓reduceIte, bI]; done) | (simp only [tlF, c_1, c_2, ↓reduceIte, bI]; rfl) | (simp [tlF, c_1, c_2, bI]; done)) dX0_tollWith_41
    · skip
      replace c_2 := nge_l c_2
      refine lv_iload hx hb dX0_tollWith_30 (lv_at hl 0 rfl) ?_
      refine lv_iconst (v := 1) hx hb dX0_tollWith_32 (by decide) ?_
      refine lv_iadd hx hb dX0_tollWith_33 ?_
      refine lv_iconst (v := 2) hx hb dX0_tollWith_34 (by decide) ?_
      refine lv_idiv hx hb dX0_tollWith_35 (by decide) ?_
      refine lv_goto (tgt := 41) hx hb dX0_tollWith_36 (by decide) ?_
      exact end_pi hx hb hrt hlk (by first | rfl | (simp only [tlF, c_1, c_2, ↓reduceIte, bI]; done) | (simp only [tlF, c_1, c_2, ↓reduceIte, bI]; rfl) | (simp [tlF, c_1, c_2, bI]; done)) dX0_tollWith_41
  · skip
    replace c_1 := nge_l c_1
    refine lv_iload hx hb dX0_tollWith_15 (lv_at hl 0 rfl) ?_
    refine lv_iload_n hx hb dX0_tollWith_17 rfl (lv_at hl 2 rfl) ?_
    refine lv_aload_n hx hb dX0_tollWith_18 rfl (lv_at hl 4 rfl) ?_
    refine va_get (ci := 3) (v := .int r1) (C := RX3) (T := TX3) (N := 6) hx hb hts inX3 hown hK hP 1 rfl rfl 1 (by decide) (hts _ q_38) (fun _ h9 => h9) rfl dX0_tollWith_19 ?_
    refine lv_idiv hx hb dX0_tollWith_22 (fun h => by rw [h] at c_1; exact absurd c_1 (by decide)) ?_
    refine lv_iadd hx hb dX0_tollWith_23 ?_
    refine lv_istore (lv' := [(4, .int ((1 + f2) + (p0 / r1))), (0, .ref h0), (1, .int p0), (2, .int p1), (3, .ref h9)]) hx hb dX0_tollWith_24 hl (by decide) rfl (fun ls hl => ?_)
    refine lv_iload_n hx hb dX0_tollWith_26 rfl (lv_at hl 3 rfl) ?_
    refine lv_if_le (tgt := 39) hx hb dX0_tollWith_27 (by decide) (fun c_3 => ?_) (fun c_3 => ?_)
    · skip
      replace c_3 := ge_n c_3
      refine lv_iload hx hb dX0_tollWith_39 (lv_at hl 0 rfl) ?_
      exact end_pi hx hb hrt hlk (by first | rfl | (simp only [tlF, c_1, c_3, ↓reduceIte, bI]; done) | (simp only [tlF, c_1, c_3, ↓reduceIte, bI]; rfl) | (simp [tlF, c_1, c_3, bI]; done)) dX0_tollWith_41
    · skip
      replace c_3 := nge_l c_3
      refine lv_iload hx hb dX0_tollWith_30 (lv_at hl 0 rfl) ?_
      refine lv_iconst (v := 1) hx hb dX0_tollWith_32 (by decide) ?_
      refine lv_iadd hx hb dX0_tollWith_33 ?_
      refine lv_iconst (v := 2) hx hb dX0_tollWith_34 (by decide) ?_
      refine lv_idiv hx hb dX0_tollWith_35 (by decide) ?_
      refine lv_goto (tgt := 41) hx hb dX0_tollWith_36 (by decide) ?_
      exact end_pi hx hb hrt hlk (by first | rfl | (simp only [tlF, c_1, c_3, ↓reduceIte, bI]; done) | (simp only [tlF, c_1, c_3, ↓reduceIte, bI]; rfl) | (simp [tlF, c_1, c_3, bI]; done)) dX0_tollWith_41

theorem hd_X0_tollOfStep : yX0_tollOfStep.cls ≠ "java/lang/invoke/MethodHandle" ∧ yX0_tollOfStep.cls ≠ "java/lang/invoke/VarHandle" ∧ (parseMethodDescriptor yX0_tollOfStep.desc).map (fun d => d.parameters.length) = some 2 := by decide +kernel
set_option maxRecDepth 100000 in
set_option maxHeartbeats 4000000 in
theorem m_X0_tollOfStep (l : Launch) (D : va_G) (kA : Nat → Nat) (h0 : Nat) (hw : Nat) (G : Nat → Int32) (h9 : Nat) (R : Nat → Int32) (p0 : Int32) : Met l yX0_tollOfStep (Cond.code yX0_tollOfStep cX0_tollOfStep 3 (some .int) :: AW) ({ frames := 1, cells := 0, slots := 0, locals := 24 } : Room) (Pz [.ref h0, .int p0, .ref h9] D (TY kA) [(h0, gC hw G), (hw, wC kA G), (h9, rC R)]) (pQ (some (.int (tollG G R p0)))) 0 0 (fun _ => False) := by
  refine MetZ (by decide +kernel) (Nat.le_of_ble_eq_true rfl) ?_
  intro p e s m below meth c ls hx hb hrt hts hown hml hlk hnm hP hK hD hS hl
  have hl : lv_has ls 3 [(0, .ref h0), (1, .int p0), (2, .ref h9)] := hl
  refine lv_aload_n hx hb dX0_tollOfStep_0 rfl (lv_at hl 0 rfl) ?_
  refine lv_aload_n hx hb dX0_tollOfStep_1 rfl (lv_at hl 0 rfl) ?_
  refine lv_aload_n hx hb dX0_tollOfStep_2 rfl (lv_at hl 0 rfl) ?_
  refine va_get (ci := 0) (v := .int (G 0)) (C := RX0) (T := TX0) (N := 12) hx hb hts inX0 hown hK hP 0 rfl rfl 1 (by decide) (hts _ q_69) (fun _ h9 => h9) rfl dX0_tollOfStep_3 ?_
  refine lv_iload_n hx hb dX0_tollOfStep_6 rfl (lv_at hl 1 rfl) ?_
  refine cs_p (runS (As := [.int (G 0), .int p0]) (rest := [.ref h0, .ref h0]) ⟨hx, hb, hml, hown, hts⟩ (m_X0_toothBy l D kA (G 0) p0 ) q_324 q_325 q_4 q_326 hd_X0_toothBy ⟨rfl, rfl⟩ ⟨Nat.le_of_ble_eq_true rfl, Nat.le_of_ble_eq_true rfl⟩ hK (ws := []) (hP.sub [] rfl) (hD.sub [] (by decide) rfl) rfl hl.1 rfl (Nat.le_of_ble_eq_true rfl) dX0_tollOfStep_7 ⟨Nat.zero_le _, Nat.zero_le _⟩) ?_
  refine cs_p (runV (As := [.int (tW (G 0) p0)]) (rest := [.ref h0]) ⟨hx, hb, hml, hown, hts⟩ (m_X0_wearOf l D kA h0 hw (G 0) (G 1) (G 2) (G 3) (G 4) (G 5) (G 6) (G 7) (G 8) (G 9) (G 10) (fun t => G (t + 11)) (tW (G 0) p0) ) q_327 q_328 q_329 q_4 q_330 hd_X0_wearOf ⟨rfl, rfl⟩ ⟨Nat.le_of_ble_eq_true rfl, Nat.le_of_ble_eq_true rfl⟩ hK (ws := [(h0, .inr (0, [.ref hw, .int (G 0), .int (G 1), .int (G 2), .int (G 3), .int (G 4), .int (G 5), .int (G 6), .int (G 7), .int (G 8), .int (G 9), .int (G 10)])), (hw, .inl (kA 0, 24, .inl (fun t => G (t + 11))))]) (hP.sub [0, 1] rfl) (hD.sub [0, 1] (by decide) rfl) 0 (ci := 0) (C := RX0) (T := TX0) (N := 12) rfl rfl rfl hl.1 rfl (Nat.le_of_ble_eq_true rfl) dX0_tollOfStep_10 ⟨Nat.zero_le _, Nat.zero_le _⟩) ?_
  refine lv_aload_n hx hb dX0_tollOfStep_13 rfl (lv_at hl 0 rfl) ?_
  refine va_get (ci := 0) (v := .int (G 5)) (C := RX0) (T := TX0) (N := 12) hx hb hts inX0 hown hK hP 0 rfl rfl 6 (by decide) (hts _ q_78) (fun _ h9 => h9) rfl dX0_tollOfStep_14 ?_
  refine lv_aload_n hx hb dX0_tollOfStep_17 rfl (lv_at hl 2 rfl) ?_
  refine cs_p (runV (As := [.int (wrF (fun t => G (t + 11)) (tW (G 0) p0)), .int (G 5), .ref h9]) (rest := []) ⟨hx, hb, hml, hown, hts⟩ (m_X0_tollWith l D kA h0 hw (G 0) (G 1) (G 2) (G 3) (G 4) (G 5) (G 6) (G 7) (G 8) (G 9) (G 10) h9 (R 0) (R 1) (R 2) (R 3) (R 4) (R 5) (wrF (fun t => G (t + 11)) (tW (G 0) p0)) (G 5) ) q_331 q_332 q_333 q_4 q_334 hd_X0_tollWith ⟨rfl, rfl⟩ ⟨Nat.le_of_ble_eq_true rfl, Nat.le_of_ble_eq_true rfl⟩ hK (ws := [(h0, .inr (0, [.ref hw, .int (G 0), .int (G 1), .int (G 2), .int (G 3), .int (G 4), .int (G 5), .int (G 6), .int (G 7), .int (G 8), .int (G 9), .int (G 10)])), (h9, .inr (3, [.int (R 0), .int (R 1), .int (R 2), .int (R 3), .int (R 4), .int (R 5)]))]) (hP.sub [0, 2] rfl) (hD.sub [0, 2] (by decide) rfl) 0 (ci := 0) (C := RX0) (T := TX0) (N := 12) rfl rfl rfl hl.1 rfl (Nat.le_of_ble_eq_true rfl) dX0_tollOfStep_18 ⟨Nat.zero_le _, Nat.zero_le _⟩) ?_
  exact end_pi hx hb hrt hlk (by first | rfl | (simp only [tollG, gwr, ↓reduceIte, bI]; done) | (simp only [tollG, gwr, ↓reduceIte, bI]; rfl) | (simp [tollG, gwr, bI]; done)) dX0_tollOfStep_21

theorem hd_X0_isTurn : yX0_isTurn.cls ≠ "java/lang/invoke/MethodHandle" ∧ yX0_isTurn.cls ≠ "java/lang/invoke/VarHandle" ∧ (parseMethodDescriptor yX0_isTurn.desc).map (fun d => d.parameters.length) = some 1 := by decide +kernel
set_option maxRecDepth 100000 in
set_option maxHeartbeats 4000000 in
theorem m_X0_isTurn (l : Launch) (D : va_G) (kA : Nat → Nat) (h0 : Nat) (hw : Nat) (f0 : Int32) (f1 : Int32) (f2 : Int32) (f3 : Int32) (f4 : Int32) (f5 : Int32) (f6 : Int32) (f7 : Int32) (f8 : Int32) (f9 : Int32) (f10 : Int32) (p0 : Int32) : Met l yX0_isTurn (Cond.code yX0_isTurn cX0_isTurn 2 (some .boolean) :: AW) ({ frames := 0, cells := 0, slots := 0, locals := 0 } : Room) (Pz [.ref h0, .int p0] D (TY kA) [(h0, .inr (0, [.ref hw, .int f0, .int f1, .int f2, .int f3, .int f4, .int f5, .int f6, .int f7, .int f8, .int f9, .int f10]))]) (pQ (some (.int (bI (decide (f3 = -p0)))))) 0 0 (fun _ => False) := by
  refine MetZ (by decide +kernel) (Nat.le_of_ble_eq_true rfl) ?_
  intro p e s m below meth c ls hx hb hrt hts hown hml hlk hnm hP hK hD hS hl
  have hl : lv_has ls 2 [(0, .ref h0), (1, .int p0)] := hl
  refine lv_aload_n hx hb dX0_isTurn_0 rfl (lv_at hl 0 rfl) ?_
  refine va_get (ci := 0) (v := .int f3) (C := RX0) (T := TX0) (N := 12) hx hb hts inX0 hown hK hP 0 rfl rfl 4 (by decide) (hts _ q_76) (fun _ h9 => h9) rfl dX0_isTurn_1 ?_
  refine lv_iload_n hx hb dX0_isTurn_4 rfl (lv_at hl 1 rfl) ?_
  refine lv_ineg hx hb dX0_isTurn_5 ?_
  refine lv_icmp_ne (tgt := 13) hx hb dX0_isTurn_6 (by decide) (fun c_1 => ?_) (fun c_1 => ?_)
  · skip
    refine lv_iconst (v := 0) hx hb dX0_isTurn_13 (by decide) ?_
    exact end_pz hx hb hrt hlk (by decide) (by simp only [c_1, decide_true, decide_false, bI]) dX0_isTurn_14
  · skip
    refine lv_iconst (v := 1) hx hb dX0_isTurn_9 (by decide) ?_
    refine lv_goto (tgt := 14) hx hb dX0_isTurn_10 (by decide) ?_
    exact end_pz hx hb hrt hlk (by decide) (by simp only [c_1, decide_true, decide_false, bI]) dX0_isTurn_14

theorem hd_X0_makeStep : yX0_makeStep.cls ≠ "java/lang/invoke/MethodHandle" ∧ yX0_makeStep.cls ≠ "java/lang/invoke/VarHandle" ∧ (parseMethodDescriptor yX0_makeStep.desc).map (fun d => d.parameters.length) = some 3 := by decide +kernel
set_option maxRecDepth 100000 in
set_option maxHeartbeats 4000000 in
theorem m_X0_makeStep (l : Launch) (D : va_G) (kA : Nat → Nat) (h0 : Nat) (hw : Nat) (G : Nat → Int32) (h9 : Nat) (R : Nat → Int32) (p0 : Int32) (p1 : Int32) : Met l yX0_makeStep (Cond.code yX0_makeStep cX0_makeStep 8 (some .int) :: AW) ({ frames := 1, cells := 0, slots := 0, locals := 24 } : Room) (Pz [.ref h0, .int p0, .int p1, .ref h9] D (TY kA) [(h0, gC hw G), (hw, wC kA G), (h9, rC R)]) (fQ (some (.int (msR G R p0 p1))) D [(h0, gC hw G), (hw, wC kA G), (h9, rC R)] [(h0, gC hw (msG G R p0 p1)), (hw, wC kA (msG G R p0 p1)), (h9, rC R)]) 0 0 (Aw [(h0, gC hw G), (hw, wC kA G), (h9, rC R)]) := by
  refine MetZ (by decide +kernel) (Nat.le_of_ble_eq_true rfl) ?_
  intro p e s m below meth c ls hx hb hrt hts hown hml hlk hnm hP hK hD hS hl
  have hl : lv_has ls 8 [(0, .ref h0), (1, .int p0), (2, .int p1), (3, .ref h9)] := hl
  refine lv_aload_n hx hb dX0_makeStep_0 rfl (lv_at hl 0 rfl) ?_
  refine va_get (ci := 0) (v := .int (G 0)) (C := RX0) (T := TX0) (N := 12) hx hb hts inX0 hown hK hP 0 rfl rfl 1 (by decide) (hts _ q_69) (fun _ h9 => h9) rfl dX0_makeStep_1 ?_
  refine lv_iload_n hx hb dX0_makeStep_4 rfl (lv_at hl 1 rfl) ?_
  refine cs_p (runS (As := [.int (G 0), .int p0]) (rest := []) ⟨hx, hb, hml, hown, hts⟩ (m_X0_toothBy l D kA (G 0) p0 ) q_324 q_325 q_4 q_326 hd_X0_toothBy ⟨rfl, rfl⟩ ⟨Nat.le_of_ble_eq_true rfl, Nat.le_of_ble_eq_true rfl⟩ hK (ws := []) (hP.sub [] rfl) (hD.sub [] (by decide) rfl) rfl hl.1 rfl (Nat.le_of_ble_eq_true rfl) dX0_makeStep_5 ⟨Nat.zero_le _, Nat.zero_le _⟩) ?_
  refine lv_istore (lv' := [(4, .int (tW (G 0) p0)), (0, .ref h0), (1, .int p0), (2, .int p1), (3, .ref h9)]) hx hb dX0_makeStep_8 hl (by decide) rfl (fun ls hl => ?_)
  refine lv_aload_n hx hb dX0_makeStep_10 rfl (lv_at hl 1 rfl) ?_
  refine lv_iload hx hb dX0_makeStep_11 (lv_at hl 0 rfl) ?_
  refine cs_p (runV (As := [.int (tW (G 0) p0)]) (rest := []) ⟨hx, hb, hml, hown, hts⟩ (m_X0_wearOf l D kA h0 hw (G 0) (G 1) (G 2) (G 3) (G 4) (G 5) (G 6) (G 7) (G 8) (G 9) (G 10) (fun t => G (t + 11)) (tW (G 0) p0) ) q_327 q_328 q_329 q_4 q_330 hd_X0_wearOf ⟨rfl, rfl⟩ ⟨Nat.le_of_ble_eq_true rfl, Nat.le_of_ble_eq_true rfl⟩ hK (ws := [(h0, .inr (0, [.ref hw, .int (G 0), .int (G 1), .int (G 2), .int (G 3), .int (G 4), .int (G 5), .int (G 6), .int (G 7), .int (G 8), .int (G 9), .int (G 10)])), (hw, .inl (kA 0, 24, .inl (fun t => G (t + 11))))]) (hP.sub [0, 1] rfl) (hD.sub [0, 1] (by decide) rfl) 0 (ci := 0) (C := RX0) (T := TX0) (N := 12) rfl rfl rfl hl.1 rfl (Nat.le_of_ble_eq_true rfl) dX0_makeStep_13 ⟨Nat.zero_le _, Nat.zero_le _⟩) ?_
  refine lv_istore (lv' := [(5, .int (wrF (fun t => G (t + 11)) (tW (G 0) p0))), (4, .int (tW (G 0) p0)), (0, .ref h0), (1, .int p0), (2, .int p1), (3, .ref h9)]) hx hb dX0_makeStep_16 hl (by decide) rfl (fun ls hl => ?_)
  refine lv_aload_n hx hb dX0_makeStep_18 rfl (lv_at hl 2 rfl) ?_
  refine lv_iload hx hb dX0_makeStep_19 (lv_at hl 0 rfl) ?_
  refine lv_aload_n hx hb dX0_makeStep_21 rfl (lv_at hl 2 rfl) ?_
  refine va_get (ci := 0) (v := .int (G 5)) (C := RX0) (T := TX0) (N := 12) hx hb hts inX0 hown hK hP 0 rfl rfl 6 (by decide) (hts _ q_78) (fun _ h9 => h9) rfl dX0_makeStep_22 ?_
  refine lv_aload_n hx hb dX0_makeStep_25 rfl (lv_at hl 5 rfl) ?_
  refine cs_p (runV (As := [.int (wrF (fun t => G (t + 11)) (tW (G 0) p0)), .int (G 5), .ref h9]) (rest := []) ⟨hx, hb, hml, hown, hts⟩ (m_X0_tollWith l D kA h0 hw (G 0) (G 1) (G 2) (G 3) (G 4) (G 5) (G 6) (G 7) (G 8) (G 9) (G 10) h9 (R 0) (R 1) (R 2) (R 3) (R 4) (R 5) (wrF (fun t => G (t + 11)) (tW (G 0) p0)) (G 5) ) q_331 q_332 q_333 q_4 q_334 hd_X0_tollWith ⟨rfl, rfl⟩ ⟨Nat.le_of_ble_eq_true rfl, Nat.le_of_ble_eq_true rfl⟩ hK (ws := [(h0, .inr (0, [.ref hw, .int (G 0), .int (G 1), .int (G 2), .int (G 3), .int (G 4), .int (G 5), .int (G 6), .int (G 7), .int (G 8), .int (G 9), .int (G 10)])), (h9, .inr (3, [.int (R 0), .int (R 1), .int (R 2), .int (R 3), .int (R 4), .int (R 5)]))]) (hP.sub [0, 2] rfl) (hD.sub [0, 2] (by decide) rfl) 0 (ci := 0) (C := RX0) (T := TX0) (N := 12) rfl rfl rfl hl.1 rfl (Nat.le_of_ble_eq_true rfl) dX0_makeStep_26 ⟨Nat.zero_le _, Nat.zero_le _⟩) ?_
  refine lv_istore (lv' := [(6, .int (tlF (G 2) (wrF (fun t => G (t + 11)) (tW (G 0) p0)) (G 5) (R 1))), (5, .int (wrF (fun t => G (t + 11)) (tW (G 0) p0))), (4, .int (tW (G 0) p0)), (0, .ref h0), (1, .int p0), (2, .int p1), (3, .ref h9)]) hx hb dX0_makeStep_29 hl (by decide) rfl (fun ls hl => ?_)
  refine lv_iload hx hb dX0_makeStep_31 (lv_at hl 0 rfl) ?_
  refine lv_iload_n hx hb dX0_makeStep_33 rfl (lv_at hl 5 rfl) ?_
  refine lv_icmp_le (tgt := 39) hx hb dX0_makeStep_34 (by decide) (fun c_1 => ?_) (fun c_1 => ?_)
  · skip
    replace c_1 := ge_n c_1
    refine lv_aload_n hx hb dX0_makeStep_39 rfl (lv_at hl 3 rfl) ?_
    refine lv_iload_n hx hb dX0_makeStep_40 rfl (lv_at hl 4 rfl) ?_
    refine cs_p (runV (As := [.int p0]) (rest := []) ⟨hx, hb, hml, hown, hts⟩ (m_X0_isTurn l D kA h0 hw (G 0) (G 1) (G 2) (G 3) (G 4) (G 5) (G 6) (G 7) (G 8) (G 9) (G 10) p0 ) q_387 q_388 q_389 q_4 q_390 hd_X0_isTurn ⟨rfl, rfl⟩ ⟨Nat.le_of_ble_eq_true rfl, Nat.le_of_ble_eq_true rfl⟩ hK (ws := [(h0, .inr (0, [.ref hw, .int (G 0), .int (G 1), .int (G 2), .int (G 3), .int (G 4), .int (G 5), .int (G 6), .int (G 7), .int (G 8), .int (G 9), .int (G 10)]))]) (hP.sub [0] rfl) (hD.sub [0] (by decide) rfl) 0 (ci := 0) (C := RX0) (T := TX0) (N := 12) rfl rfl rfl hl.1 rfl (Nat.le_of_ble_eq_true rfl) dX0_makeStep_41 ⟨Nat.zero_le _, Nat.zero_le _⟩) ?_
    refine lv_istore (lv' := [(7, .int (bI (decide ((G 3) = -p0)))), (6, .int (tlF (G 2) (wrF (fun t => G (t + 11)) (tW (G 0) p0)) (G 5) (R 1))), (5, .int (wrF (fun t => G (t + 11)) (tW (G 0) p0))), (4, .int (tW (G 0) p0)), (0, .ref h0), (1, .int p0), (2, .int p1), (3, .ref h9)]) hx hb dX0_makeStep_44 hl (by decide) rfl (fun ls hl => ?_)
    refine lv_iload hx hb dX0_makeStep_46 (lv_at hl 0 rfl) ?_
    refine lv_if_eq (tgt := 76) hx hb dX0_makeStep_48 (by decide) (fun c_2 => ?_) (fun c_2 => ?_)
    · skip
      replace c_2 := bI_0.mp c_2
      refine lv_aload_n hx hb dX0_makeStep_76 rfl (lv_at hl 4 rfl) ?_
      refine lv_aload_n hx hb dX0_makeStep_77 rfl (lv_at hl 4 rfl) ?_
      refine va_get (ci := 0) (v := .int (G 1)) (C := RX0) (T := TX0) (N := 12) hx hb hts inX0 hown hK hP 0 rfl rfl 2 (by decide) (hts _ q_71) (fun _ h9 => h9) rfl dX0_makeStep_78 ?_
      refine lv_iload_n hx hb dX0_makeStep_81 rfl (lv_at hl 5 rfl) ?_
      refine cs_p (runS (As := [.int (G 1), .int p0]) (rest := [.ref h0]) ⟨hx, hb, hml, hown, hts⟩ (m_X0_nextPlace l D kA (G 1) p0 ) q_391 q_392 q_4 q_393 hd_X0_nextPlace ⟨rfl, rfl⟩ ⟨Nat.le_of_ble_eq_true rfl, Nat.le_of_ble_eq_true rfl⟩ hK (ws := []) (hP.sub [] rfl) (hD.sub [] (by decide) rfl) rfl hl.1 rfl (Nat.le_of_ble_eq_true rfl) dX0_makeStep_82 ⟨Nat.zero_le _, Nat.zero_le _⟩) ?_
      refine va_put (ci := 0) (v := .int (nW (G 1) p0)) (ty := tyX0 2) (C := RX0) (T := TX0) (N := 12) hx hb hts inX0 tyX0 tyX0_ok nmX0 hown hK hP hD hS 0 rfl rfl 2 (by decide) (hts _ q_71) (fun _ h9 => h9) rfl (tyX0_ok 2 (by decide)) rfl rfl (Nat.le_of_ble_eq_true rfl) dX0_makeStep_85 (fun H locs hP hD hS => ?_)
      have hP : va_P D vwCl [(h0, .inr (0, [.ref hw, .int (G 0), .int (nW (G 1) p0), .int (G 2), .int (G 3), .int (G 4), .int (G 5), .int (G 6), .int (G 7), .int (G 8), .int (G 9), .int (G 10)])), (hw, wC kA G), (h9, rC R)] H := hP
      have hD : va_D (Aw [(h0, gC hw G), (hw, wC kA G), (h9, rC R)]) [(h0, .inr (0, [.ref hw, .int (G 0), .int (nW (G 1) p0), .int (G 2), .int (G 3), .int (G 4), .int (G 5), .int (G 6), .int (G 7), .int (G 8), .int (G 9), .int (G 10)])), (hw, wC kA G), (h9, rC R)] := hD
      refine lv_iload hx hb dX0_makeStep_88 (lv_at hl 0 rfl) ?_
      refine lv_if_eq (tgt := 115) hx hb dX0_makeStep_90 (by decide) (fun c_3 => ?_) (fun c_3 => ?_)
      · skip
        replace c_3 := bI_0.mp c_3
        refine lv_aload_n hx hb dX0_makeStep_115 rfl (lv_at hl 4 rfl) ?_
        refine lv_aload_n hx hb dX0_makeStep_116 rfl (lv_at hl 4 rfl) ?_
        refine va_get (ci := 0) (v := .int (G 0)) (C := RX0) (T := TX0) (N := 12) hx hb hts inX0 hown hK hP 0 rfl rfl 1 (by decide) (hts _ q_69) (fun _ h9 => h9) rfl dX0_makeStep_117 ?_
        refine lv_iload_n hx hb dX0_makeStep_120 rfl (lv_at hl 5 rfl) ?_
        refine cs_p (runS (As := [.int (G 0), .int p0]) (rest := [.ref h0]) ⟨hx, hb, hml, hown, hts⟩ (m_X0_nextPlace l D kA (G 0) p0 ) q_391 q_392 q_4 q_393 hd_X0_nextPlace ⟨rfl, rfl⟩ ⟨Nat.le_of_ble_eq_true rfl, Nat.le_of_ble_eq_true rfl⟩ hK (ws := []) (hP.sub [] rfl) (hD.sub [] (by decide) rfl) rfl hl.1 rfl (Nat.le_of_ble_eq_true rfl) dX0_makeStep_121 ⟨Nat.zero_le _, Nat.zero_le _⟩) ?_
        refine va_put (ci := 0) (v := .int (nW (G 0) p0)) (ty := tyX0 1) (C := RX0) (T := TX0) (N := 12) hx hb hts inX0 tyX0 tyX0_ok nmX0 hown hK hP hD hS 0 rfl rfl 1 (by decide) (hts _ q_69) (fun _ h9 => h9) rfl (tyX0_ok 1 (by decide)) rfl rfl (Nat.le_of_ble_eq_true rfl) dX0_makeStep_124 (fun H locs hP hD hS => ?_)
        have hP : va_P D vwCl [(h0, .inr (0, [.ref hw, .int (nW (G 0) p0), .int (nW (G 1) p0), .int (G 2), .int (G 3), .int (G 4), .int (G 5), .int (G 6), .int (G 7), .int (G 8), .int (G 9), .int (G 10)])), (hw, wC kA G), (h9, rC R)] H := hP
        have hD : va_D (Aw [(h0, gC hw G), (hw, wC kA G), (h9, rC R)]) [(h0, .inr (0, [.ref hw, .int (nW (G 0) p0), .int (nW (G 1) p0), .int (G 2), .int (G 3), .int (G 4), .int (G 5), .int (G 6), .int (G 7), .int (G 8), .int (G 9), .int (G 10)])), (hw, wC kA G), (h9, rC R)] := hD
        refine lv_aload_n hx hb dX0_makeStep_127 rfl (lv_at hl 4 rfl) ?_
        refine lv_iload hx hb dX0_makeStep_128 (lv_at hl 3 rfl) ?_
        refine lv_iload hx hb dX0_makeStep_130 (lv_at hl 2 rfl) ?_
        refine lv_aload_n hx hb dX0_makeStep_132 rfl (lv_at hl 7 rfl) ?_
        refine va_get (ci := 3) (v := .int (R 0)) (C := RX3) (T := TX3) (N := 6) hx hb hts inX3 hown hK hP 2 rfl rfl 0 (by decide) (hts _ q_36) (fun _ h9 => h9) rfl dX0_makeStep_133 ?_
        refine lv_iadd hx hb dX0_makeStep_136 ?_
        refine lv_bipush (v := 99) hx hb dX0_makeStep_137 (by decide) ?_
        refine va_mmin hx hb (hml.trans hl.1.symm) hown (hts _ q_375) (hts _ q_356) (hts _ q_12) (hts _ q_357) (Nat.le_of_ble_eq_true rfl) (Nat.le_of_ble_eq_true rfl) (Nat.zero_le _) (Nat.zero_le _) dX0_makeStep_139 ?_
        refine cs_fn (runV (As := [.int (tW (G 0) p0), .int (if 99 < (wrF (fun t => G (t + 11)) (tW (G 0) p0)) + (R 0) then 99 else (wrF (fun t => G (t + 11)) (tW (G 0) p0)) + (R 0))]) (rest := []) ⟨hx, hb, hml, hown, hts⟩ (m_X0_setWear l D kA h0 hw (nW (G 0) p0) (nW (G 1) p0) (G 2) (G 3) (G 4) (G 5) (G 6) (G 7) (G 8) (G 9) (G 10) (fun t => G (t + 11)) (tW (G 0) p0) (if 99 < (wrF (fun t => G (t + 11)) (tW (G 0) p0)) + (R 0) then 99 else (wrF (fun t => G (t + 11)) (tW (G 0) p0)) + (R 0)) ) q_394 q_395 q_396 q_4 q_397 hd_X0_setWear ⟨rfl, rfl⟩ ⟨Nat.le_of_ble_eq_true rfl, Nat.le_of_ble_eq_true rfl⟩ hK (ws := [(h0, .inr (0, [.ref hw, .int (nW (G 0) p0), .int (nW (G 1) p0), .int (G 2), .int (G 3), .int (G 4), .int (G 5), .int (G 6), .int (G 7), .int (G 8), .int (G 9), .int (G 10)])), (hw, .inl (kA 0, 24, .inl (fun t => G (t + 11))))]) (hP.sub [0, 1] rfl) (hD.sub [0, 1] (by decide) rfl) 0 (ci := 0) (C := RX0) (T := TX0) (N := 12) rfl rfl rfl hl.1 rfl (Nat.le_of_ble_eq_true rfl) dX0_makeStep_142 ⟨Nat.zero_le _, Nat.zero_le _⟩) hS (aw_sub hD (isC := [0, 1]) rfl) (fun H locs hP1 hk1 hS => ?_)
        obtain ⟨hP, hD⟩ := jn (wr := [(h9, rC R)]) (w1 := [(h0, .inr (0, [.ref hw, .int (nW (G 0) p0), .int (nW (G 1) p0), .int (G 2), .int (G 3), .int (G 4), .int (G 5), .int (G 6), .int (G 7), .int (G 8), .int (G 9), .int (G 10)])), (hw, .inl (kA 0, 24, .inl (wsF (fun t => G (t + 11)) (tW (G 0) p0) (if 99 < (wrF (fun t => G (t + 11)) (tW (G 0) p0)) + (R 0) then 99 else (wrF (fun t => G (t + 11)) (tW (G 0) p0)) + (R 0)))))]) hP hD [0, 1] [2] rfl rfl (by decide) hk1 hP1 rfl
        have hP : va_P D vwCl [(h9, rC R), (h0, .inr (0, [.ref hw, .int (nW (G 0) p0), .int (nW (G 1) p0), .int (G 2), .int (G 3), .int (G 4), .int (G 5), .int (G 6), .int (G 7), .int (G 8), .int (G 9), .int (G 10)])), (hw, .inl (kA 0, 24, .inl (wsF (fun t => G (t + 11)) (tW (G 0) p0) (if 99 < (wrF (fun t => G (t + 11)) (tW (G 0) p0)) + (R 0) then 99 else (wrF (fun t => G (t + 11)) (tW (G 0) p0)) + (R 0)))))] H := hP
        have hD : va_D (Aw [(h0, gC hw G), (hw, wC kA G), (h9, rC R)]) [(h9, rC R), (h0, .inr (0, [.ref hw, .int (nW (G 0) p0), .int (nW (G 1) p0), .int (G 2), .int (G 3), .int (G 4), .int (G 5), .int (G 6), .int (G 7), .int (G 8), .int (G 9), .int (G 10)])), (hw, .inl (kA 0, 24, .inl (wsF (fun t => G (t + 11)) (tW (G 0) p0) (if 99 < (wrF (fun t => G (t + 11)) (tW (G 0) p0)) + (R 0) then 99 else (wrF (fun t => G (t + 11)) (tW (G 0) p0)) + (R 0)))))] := hD
        refine lv_aload_n hx hb dX0_makeStep_145 rfl (lv_at hl 4 rfl) ?_
        refine lv_iload_n hx hb dX0_makeStep_146 rfl (lv_at hl 5 rfl) ?_
        refine va_put (ci := 0) (v := .int p0) (ty := tyX0 4) (C := RX0) (T := TX0) (N := 12) hx hb hts inX0 tyX0 tyX0_ok nmX0 hown hK hP hD hS 1 rfl rfl 4 (by decide) (hts _ q_76) (fun _ h9 => h9) rfl (tyX0_ok 4 (by decide)) rfl rfl (Nat.le_of_ble_eq_true rfl) dX0_makeStep_147 (fun H locs hP hD hS => ?_)
        have hP : va_P D vwCl [(h9, rC R), (h0, .inr (0, [.ref hw, .int (nW (G 0) p0), .int (nW (G 1) p0), .int (G 2), .int p0, .int (G 4), .int (G 5), .int (G 6), .int (G 7), .int (G 8), .int (G 9), .int (G 10)])), (hw, .inl (kA 0, 24, .inl (wsF (fun t => G (t + 11)) (tW (G 0) p0) (if 99 < (wrF (fun t => G (t + 11)) (tW (G 0) p0)) + (R 0) then 99 else (wrF (fun t => G (t + 11)) (tW (G 0) p0)) + (R 0)))))] H := hP
        have hD : va_D (Aw [(h0, gC hw G), (hw, wC kA G), (h9, rC R)]) [(h9, rC R), (h0, .inr (0, [.ref hw, .int (nW (G 0) p0), .int (nW (G 1) p0), .int (G 2), .int p0, .int (G 4), .int (G 5), .int (G 6), .int (G 7), .int (G 8), .int (G 9), .int (G 10)])), (hw, .inl (kA 0, 24, .inl (wsF (fun t => G (t + 11)) (tW (G 0) p0) (if 99 < (wrF (fun t => G (t + 11)) (tW (G 0) p0)) + (R 0) then 99 else (wrF (fun t => G (t + 11)) (tW (G 0) p0)) + (R 0)))))] := hD
        refine lv_aload_n hx hb dX0_makeStep_150 rfl (lv_at hl 4 rfl) ?_
        refine lv_aload_n hx hb dX0_makeStep_151 rfl (lv_at hl 4 rfl) ?_
        refine va_get (ci := 0) (v := .int (G 5)) (C := RX0) (T := TX0) (N := 12) hx hb hts inX0 hown hK hP 1 rfl rfl 6 (by decide) (hts _ q_78) (fun _ h9 => h9) rfl dX0_makeStep_152 ?_
        refine lv_iconst (v := 1) hx hb dX0_makeStep_155 (by decide) ?_
        refine lv_isub hx hb dX0_makeStep_156 ?_
        refine lv_iconst (v := 0) hx hb dX0_makeStep_157 (by decide) ?_
        refine va_mmax hx hb (hml.trans hl.1.symm) hown (hts _ q_398) (hts _ q_399) (hts _ q_12) (hts _ q_400) (Nat.le_of_ble_eq_true rfl) (Nat.le_of_ble_eq_true rfl) (Nat.zero_le _) (Nat.zero_le _) dX0_makeStep_158 ?_
        refine va_put (ci := 0) (v := .int (if (G 5) - 1 < 0 then 0 else (G 5) - 1)) (ty := tyX0 6) (C := RX0) (T := TX0) (N := 12) hx hb hts inX0 tyX0 tyX0_ok nmX0 hown hK hP hD hS 1 rfl rfl 6 (by decide) (hts _ q_78) (fun _ h9 => h9) rfl (tyX0_ok 6 (by decide)) rfl rfl (Nat.le_of_ble_eq_true rfl) dX0_makeStep_161 (fun H locs hP hD hS => ?_)
        have hP : va_P D vwCl [(h9, rC R), (h0, .inr (0, [.ref hw, .int (nW (G 0) p0), .int (nW (G 1) p0), .int (G 2), .int p0, .int (G 4), .int (if (G 5) - 1 < 0 then 0 else (G 5) - 1), .int (G 6), .int (G 7), .int (G 8), .int (G 9), .int (G 10)])), (hw, .inl (kA 0, 24, .inl (wsF (fun t => G (t + 11)) (tW (G 0) p0) (if 99 < (wrF (fun t => G (t + 11)) (tW (G 0) p0)) + (R 0) then 99 else (wrF (fun t => G (t + 11)) (tW (G 0) p0)) + (R 0)))))] H := hP
        have hD : va_D (Aw [(h0, gC hw G), (hw, wC kA G), (h9, rC R)]) [(h9, rC R), (h0, .inr (0, [.ref hw, .int (nW (G 0) p0), .int (nW (G 1) p0), .int (G 2), .int p0, .int (G 4), .int (if (G 5) - 1 < 0 then 0 else (G 5) - 1), .int (G 6), .int (G 7), .int (G 8), .int (G 9), .int (G 10)])), (hw, .inl (kA 0, 24, .inl (wsF (fun t => G (t + 11)) (tW (G 0) p0) (if 99 < (wrF (fun t => G (t + 11)) (tW (G 0) p0)) + (R 0) then 99 else (wrF (fun t => G (t + 11)) (tW (G 0) p0)) + (R 0)))))] := hD
        refine lv_aload_n hx hb dX0_makeStep_164 rfl (lv_at hl 4 rfl) ?_
        refine lv_dup hx hb dX0_makeStep_165 rfl ?_
        refine va_get (ci := 0) (v := .int (G 6)) (C := RX0) (T := TX0) (N := 12) hx hb hts inX0 hown hK hP 1 rfl rfl 7 (by decide) (hts _ q_80) (fun _ h9 => h9) rfl dX0_makeStep_166 ?_
        refine lv_iconst (v := 1) hx hb dX0_makeStep_169 (by decide) ?_
        refine lv_iadd hx hb dX0_makeStep_170 ?_
        refine va_put (ci := 0) (v := .int ((G 6) + 1)) (ty := tyX0 7) (C := RX0) (T := TX0) (N := 12) hx hb hts inX0 tyX0 tyX0_ok nmX0 hown hK hP hD hS 1 rfl rfl 7 (by decide) (hts _ q_80) (fun _ h9 => h9) rfl (tyX0_ok 7 (by decide)) rfl rfl (Nat.le_of_ble_eq_true rfl) dX0_makeStep_171 (fun H locs hP hD hS => ?_)
        have hP : va_P D vwCl [(h9, rC R), (h0, .inr (0, [.ref hw, .int (nW (G 0) p0), .int (nW (G 1) p0), .int (G 2), .int p0, .int (G 4), .int (if (G 5) - 1 < 0 then 0 else (G 5) - 1), .int ((G 6) + 1), .int (G 7), .int (G 8), .int (G 9), .int (G 10)])), (hw, .inl (kA 0, 24, .inl (wsF (fun t => G (t + 11)) (tW (G 0) p0) (if 99 < (wrF (fun t => G (t + 11)) (tW (G 0) p0)) + (R 0) then 99 else (wrF (fun t => G (t + 11)) (tW (G 0) p0)) + (R 0)))))] H := hP
        have hD : va_D (Aw [(h0, gC hw G), (hw, wC kA G), (h9, rC R)]) [(h9, rC R), (h0, .inr (0, [.ref hw, .int (nW (G 0) p0), .int (nW (G 1) p0), .int (G 2), .int p0, .int (G 4), .int (if (G 5) - 1 < 0 then 0 else (G 5) - 1), .int ((G 6) + 1), .int (G 7), .int (G 8), .int (G 9), .int (G 10)])), (hw, .inl (kA 0, 24, .inl (wsF (fun t => G (t + 11)) (tW (G 0) p0) (if 99 < (wrF (fun t => G (t + 11)) (tW (G 0) p0)) + (R 0) then 99 else (wrF (fun t => G (t + 11)) (tW (G 0) p0)) + (R 0)))))] := hD
        refine lv_aload_n hx hb dX0_makeStep_174 rfl (lv_at hl 4 rfl) ?_
        refine lv_dup hx hb dX0_makeStep_175 rfl ?_
        refine va_get (ci := 0) (v := .int (G 8)) (C := RX0) (T := TX0) (N := 12) hx hb hts inX0 hown hK hP 1 rfl rfl 9 (by decide) (hts _ q_83) (fun _ h9 => h9) rfl dX0_makeStep_176 ?_
        refine lv_iload hx hb dX0_makeStep_179 (lv_at hl 1 rfl) ?_
        refine lv_iadd hx hb dX0_makeStep_181 ?_
        refine va_put (ci := 0) (v := .int ((G 8) + (tlF (G 2) (wrF (fun t => G (t + 11)) (tW (G 0) p0)) (G 5) (R 1)))) (ty := tyX0 9) (C := RX0) (T := TX0) (N := 12) hx hb hts inX0 tyX0 tyX0_ok nmX0 hown hK hP hD hS 1 rfl rfl 9 (by decide) (hts _ q_83) (fun _ h9 => h9) rfl (tyX0_ok 9 (by decide)) rfl rfl (Nat.le_of_ble_eq_true rfl) dX0_makeStep_182 (fun H locs hP hD hS => ?_)
        have hP : va_P D vwCl [(h9, rC R), (h0, .inr (0, [.ref hw, .int (nW (G 0) p0), .int (nW (G 1) p0), .int (G 2), .int p0, .int (G 4), .int (if (G 5) - 1 < 0 then 0 else (G 5) - 1), .int ((G 6) + 1), .int (G 7), .int ((G 8) + (tlF (G 2) (wrF (fun t => G (t + 11)) (tW (G 0) p0)) (G 5) (R 1))), .int (G 9), .int (G 10)])), (hw, .inl (kA 0, 24, .inl (wsF (fun t => G (t + 11)) (tW (G 0) p0) (if 99 < (wrF (fun t => G (t + 11)) (tW (G 0) p0)) + (R 0) then 99 else (wrF (fun t => G (t + 11)) (tW (G 0) p0)) + (R 0)))))] H := hP
        have hD : va_D (Aw [(h0, gC hw G), (hw, wC kA G), (h9, rC R)]) [(h9, rC R), (h0, .inr (0, [.ref hw, .int (nW (G 0) p0), .int (nW (G 1) p0), .int (G 2), .int p0, .int (G 4), .int (if (G 5) - 1 < 0 then 0 else (G 5) - 1), .int ((G 6) + 1), .int (G 7), .int ((G 8) + (tlF (G 2) (wrF (fun t => G (t + 11)) (tW (G 0) p0)) (G 5) (R 1))), .int (G 9), .int (G 10)])), (hw, .inl (kA 0, 24, .inl (wsF (fun t => G (t + 11)) (tW (G 0) p0) (if 99 < (wrF (fun t => G (t + 11)) (tW (G 0) p0)) + (R 0) then 99 else (wrF (fun t => G (t + 11)) (tW (G 0) p0)) + (R 0)))))] := hD
        refine lv_iload hx hb dX0_makeStep_185 (lv_at hl 1 rfl) ?_
        have hP : va_P D vwCl [(h0, .inr (0, [.ref hw, .int (nW (G 0) p0), .int (nW (G 1) p0), .int (G 2), .int p0, .int (G 4), .int (if (G 5) - 1 < 0 then 0 else (G 5) - 1), .int ((G 6) + 1), .int (G 7), .int ((G 8) + (tlF (G 2) (wrF (fun t => G (t + 11)) (tW (G 0) p0)) (G 5) (R 1))), .int (G 9), .int (G 10)])), (hw, .inl (kA 0, 24, .inl (wsF (fun t => G (t + 11)) (tW (G 0) p0) (if 99 < (wrF (fun t => G (t + 11)) (tW (G 0) p0)) + (R 0) then 99 else (wrF (fun t => G (t + 11)) (tW (G 0) p0)) + (R 0))))), (h9, rC R)] _ := hP.sub [1, 2, 0] rfl
        exact end_fi hx hb hrt hlk hP hS (by first | rfl | (simp only [msR, tollG, gwr, c_1, c_2, c_3, ↓reduceIte, bI]; done) | (simp only [msR, tollG, gwr, c_1, c_2, c_3, ↓reduceIte, bI]; rfl) | (simp [msR, tollG, gwr, c_1, c_2, c_3, bI]; done)) (by intro h; have e9 : msG G R p0 p1 = mkG (nW (G 0) p0) (nW (G 1) p0) (G 2) p0 (G 4) (if (G 5) - 1 < 0 then 0 else (G 5) - 1) ((G 6) + 1) (G 7) ((G 8) + (tlF (G 2) (wrF (fun t => G (t + 11)) (tW (G 0) p0)) (G 5) (R 1))) (G 9) (G 10) (wsF (fun t => G (t + 11)) (tW (G 0) p0) (if 99 < (wrF (fun t => G (t + 11)) (tW (G 0) p0)) + (R 0) then 99 else (wrF (fun t => G (t + 11)) (tW (G 0) p0)) + (R 0))) := (by first | (simp only [msG, stepG, tollG, gwr, turnG, c_1, c_2, c_3, ↓reduceIte, Bool.false_eq_true]; done) | (simp only [msG, stepG, tollG, gwr, turnG, c_1, c_2, c_3, ↓reduceIte, Bool.false_eq_true]; rfl) | (simp [msG, stepG, tollG, gwr, turnG, c_1, c_2, c_3]; done)); rw [e9]; exact h) dX0_makeStep_187
      · exact absurd (bI_n0 c_3) (by rw [c_2]; decide)
    · skip
      replace c_2 := bI_n0 c_2
      refine lv_aload_n hx hb dX0_makeStep_51 rfl (lv_at hl 4 rfl) ?_
      refine lv_dup hx hb dX0_makeStep_52 rfl ?_
      refine va_get (ci := 0) (v := .int (G 9)) (C := RX0) (T := TX0) (N := 12) hx hb hts inX0 hown hK hP 0 rfl rfl 10 (by decide) (hts _ q_84) (fun _ h9 => h9) rfl dX0_makeStep_53 ?_
      refine lv_iconst (v := 1) hx hb dX0_makeStep_56 (by decide) ?_
      refine lv_iadd hx hb dX0_makeStep_57 ?_
      refine va_put (ci := 0) (v := .int ((G 9) + 1)) (ty := tyX0 10) (C := RX0) (T := TX0) (N := 12) hx hb hts inX0 tyX0 tyX0_ok nmX0 hown hK hP hD hS 0 rfl rfl 10 (by decide) (hts _ q_84) (fun _ h9 => h9) rfl (tyX0_ok 10 (by decide)) rfl rfl (Nat.le_of_ble_eq_true rfl) dX0_makeStep_58 (fun H locs hP hD hS => ?_)
      have hP : va_P D vwCl [(h0, .inr (0, [.ref hw, .int (G 0), .int (G 1), .int (G 2), .int (G 3), .int (G 4), .int (G 5), .int (G 6), .int (G 7), .int (G 8), .int ((G 9) + 1), .int (G 10)])), (hw, wC kA G), (h9, rC R)] H := hP
      have hD : va_D (Aw [(h0, gC hw G), (hw, wC kA G), (h9, rC R)]) [(h0, .inr (0, [.ref hw, .int (G 0), .int (G 1), .int (G 2), .int (G 3), .int (G 4), .int (G 5), .int (G 6), .int (G 7), .int (G 8), .int ((G 9) + 1), .int (G 10)])), (hw, wC kA G), (h9, rC R)] := hD
      refine lv_aload_n hx hb dX0_makeStep_61 rfl (lv_at hl 4 rfl) ?_
      refine lv_aload_n hx hb dX0_makeStep_62 rfl (lv_at hl 4 rfl) ?_
      refine va_get (ci := 0) (v := .int (G 4)) (C := RX0) (T := TX0) (N := 12) hx hb hts inX0 hown hK hP 0 rfl rfl 5 (by decide) (hts _ q_77) (fun _ h9 => h9) rfl dX0_makeStep_63 ?_
      refine lv_iconst (v := 1) hx hb dX0_makeStep_66 (by decide) ?_
      refine lv_iadd hx hb dX0_makeStep_67 ?_
      refine lv_bipush (v := 12) hx hb dX0_makeStep_68 (by decide) ?_
      refine va_mmin hx hb (hml.trans hl.1.symm) hown (hts _ q_375) (hts _ q_356) (hts _ q_12) (hts _ q_357) (Nat.le_of_ble_eq_true rfl) (Nat.le_of_ble_eq_true rfl) (Nat.zero_le _) (Nat.zero_le _) dX0_makeStep_70 ?_
      refine va_put (ci := 0) (v := .int (if 12 < (G 4) + 1 then 12 else (G 4) + 1)) (ty := tyX0 5) (C := RX0) (T := TX0) (N := 12) hx hb hts inX0 tyX0 tyX0_ok nmX0 hown hK hP hD hS 0 rfl rfl 5 (by decide) (hts _ q_77) (fun _ h9 => h9) rfl (tyX0_ok 5 (by decide)) rfl rfl (Nat.le_of_ble_eq_true rfl) dX0_makeStep_73 (fun H locs hP hD hS => ?_)
      have hP : va_P D vwCl [(h0, .inr (0, [.ref hw, .int (G 0), .int (G 1), .int (G 2), .int (G 3), .int (if 12 < (G 4) + 1 then 12 else (G 4) + 1), .int (G 5), .int (G 6), .int (G 7), .int (G 8), .int ((G 9) + 1), .int (G 10)])), (hw, wC kA G), (h9, rC R)] H := hP
      have hD : va_D (Aw [(h0, gC hw G), (hw, wC kA G), (h9, rC R)]) [(h0, .inr (0, [.ref hw, .int (G 0), .int (G 1), .int (G 2), .int (G 3), .int (if 12 < (G 4) + 1 then 12 else (G 4) + 1), .int (G 5), .int (G 6), .int (G 7), .int (G 8), .int ((G 9) + 1), .int (G 10)])), (hw, wC kA G), (h9, rC R)] := hD
      refine lv_aload_n hx hb dX0_makeStep_76 rfl (lv_at hl 4 rfl) ?_
      refine lv_aload_n hx hb dX0_makeStep_77 rfl (lv_at hl 4 rfl) ?_
      refine va_get (ci := 0) (v := .int (G 1)) (C := RX0) (T := TX0) (N := 12) hx hb hts inX0 hown hK hP 0 rfl rfl 2 (by decide) (hts _ q_71) (fun _ h9 => h9) rfl dX0_makeStep_78 ?_
      refine lv_iload_n hx hb dX0_makeStep_81 rfl (lv_at hl 5 rfl) ?_
      refine cs_p (runS (As := [.int (G 1), .int p0]) (rest := [.ref h0]) ⟨hx, hb, hml, hown, hts⟩ (m_X0_nextPlace l D kA (G 1) p0 ) q_391 q_392 q_4 q_393 hd_X0_nextPlace ⟨rfl, rfl⟩ ⟨Nat.le_of_ble_eq_true rfl, Nat.le_of_ble_eq_true rfl⟩ hK (ws := []) (hP.sub [] rfl) (hD.sub [] (by decide) rfl) rfl hl.1 rfl (Nat.le_of_ble_eq_true rfl) dX0_makeStep_82 ⟨Nat.zero_le _, Nat.zero_le _⟩) ?_
      refine va_put (ci := 0) (v := .int (nW (G 1) p0)) (ty := tyX0 2) (C := RX0) (T := TX0) (N := 12) hx hb hts inX0 tyX0 tyX0_ok nmX0 hown hK hP hD hS 0 rfl rfl 2 (by decide) (hts _ q_71) (fun _ h9 => h9) rfl (tyX0_ok 2 (by decide)) rfl rfl (Nat.le_of_ble_eq_true rfl) dX0_makeStep_85 (fun H locs hP hD hS => ?_)
      have hP : va_P D vwCl [(h0, .inr (0, [.ref hw, .int (G 0), .int (nW (G 1) p0), .int (G 2), .int (G 3), .int (if 12 < (G 4) + 1 then 12 else (G 4) + 1), .int (G 5), .int (G 6), .int (G 7), .int (G 8), .int ((G 9) + 1), .int (G 10)])), (hw, wC kA G), (h9, rC R)] H := hP
      have hD : va_D (Aw [(h0, gC hw G), (hw, wC kA G), (h9, rC R)]) [(h0, .inr (0, [.ref hw, .int (G 0), .int (nW (G 1) p0), .int (G 2), .int (G 3), .int (if 12 < (G 4) + 1 then 12 else (G 4) + 1), .int (G 5), .int (G 6), .int (G 7), .int (G 8), .int ((G 9) + 1), .int (G 10)])), (hw, wC kA G), (h9, rC R)] := hD
      refine lv_iload hx hb dX0_makeStep_88 (lv_at hl 0 rfl) ?_
      refine lv_if_eq (tgt := 115) hx hb dX0_makeStep_90 (by decide) (fun c_4 => ?_) (fun c_4 => ?_)
      · exact absurd (bI_0.mp c_4) (by rw [c_2]; decide)
      · skip
        replace c_4 := bI_n0 c_4
        refine lv_iload hx hb dX0_makeStep_93 (lv_at hl 2 rfl) ?_
        refine lv_aload_n hx hb dX0_makeStep_95 rfl (lv_at hl 7 rfl) ?_
        refine va_get (ci := 3) (v := .int (R 2)) (C := RX3) (T := TX3) (N := 6) hx hb hts inX3 hown hK hP 2 rfl rfl 2 (by decide) (hts _ q_40) (fun _ h9 => h9) rfl dX0_makeStep_96 ?_
        refine lv_icmp_lt (tgt := 115) hx hb dX0_makeStep_99 (by decide) (fun c_5 => ?_) (fun c_5 => ?_)
        · skip
          refine lv_aload_n hx hb dX0_makeStep_115 rfl (lv_at hl 4 rfl) ?_
          refine lv_aload_n hx hb dX0_makeStep_116 rfl (lv_at hl 4 rfl) ?_
          refine va_get (ci := 0) (v := .int (G 0)) (C := RX0) (T := TX0) (N := 12) hx hb hts inX0 hown hK hP 0 rfl rfl 1 (by decide) (hts _ q_69) (fun _ h9 => h9) rfl dX0_makeStep_117 ?_
          refine lv_iload_n hx hb dX0_makeStep_120 rfl (lv_at hl 5 rfl) ?_
          refine cs_p (runS (As := [.int (G 0), .int p0]) (rest := [.ref h0]) ⟨hx, hb, hml, hown, hts⟩ (m_X0_nextPlace l D kA (G 0) p0 ) q_391 q_392 q_4 q_393 hd_X0_nextPlace ⟨rfl, rfl⟩ ⟨Nat.le_of_ble_eq_true rfl, Nat.le_of_ble_eq_true rfl⟩ hK (ws := []) (hP.sub [] rfl) (hD.sub [] (by decide) rfl) rfl hl.1 rfl (Nat.le_of_ble_eq_true rfl) dX0_makeStep_121 ⟨Nat.zero_le _, Nat.zero_le _⟩) ?_
          refine va_put (ci := 0) (v := .int (nW (G 0) p0)) (ty := tyX0 1) (C := RX0) (T := TX0) (N := 12) hx hb hts inX0 tyX0 tyX0_ok nmX0 hown hK hP hD hS 0 rfl rfl 1 (by decide) (hts _ q_69) (fun _ h9 => h9) rfl (tyX0_ok 1 (by decide)) rfl rfl (Nat.le_of_ble_eq_true rfl) dX0_makeStep_124 (fun H locs hP hD hS => ?_)
          have hP : va_P D vwCl [(h0, .inr (0, [.ref hw, .int (nW (G 0) p0), .int (nW (G 1) p0), .int (G 2), .int (G 3), .int (if 12 < (G 4) + 1 then 12 else (G 4) + 1), .int (G 5), .int (G 6), .int (G 7), .int (G 8), .int ((G 9) + 1), .int (G 10)])), (hw, wC kA G), (h9, rC R)] H := hP
          have hD : va_D (Aw [(h0, gC hw G), (hw, wC kA G), (h9, rC R)]) [(h0, .inr (0, [.ref hw, .int (nW (G 0) p0), .int (nW (G 1) p0), .int (G 2), .int (G 3), .int (if 12 < (G 4) + 1 then 12 else (G 4) + 1), .int (G 5), .int (G 6), .int (G 7), .int (G 8), .int ((G 9) + 1), .int (G 10)])), (hw, wC kA G), (h9, rC R)] := hD
          refine lv_aload_n hx hb dX0_makeStep_127 rfl (lv_at hl 4 rfl) ?_
          refine lv_iload hx hb dX0_makeStep_128 (lv_at hl 3 rfl) ?_
          refine lv_iload hx hb dX0_makeStep_130 (lv_at hl 2 rfl) ?_
          refine lv_aload_n hx hb dX0_makeStep_132 rfl (lv_at hl 7 rfl) ?_
          refine va_get (ci := 3) (v := .int (R 0)) (C := RX3) (T := TX3) (N := 6) hx hb hts inX3 hown hK hP 2 rfl rfl 0 (by decide) (hts _ q_36) (fun _ h9 => h9) rfl dX0_makeStep_133 ?_
          refine lv_iadd hx hb dX0_makeStep_136 ?_
          refine lv_bipush (v := 99) hx hb dX0_makeStep_137 (by decide) ?_
          refine va_mmin hx hb (hml.trans hl.1.symm) hown (hts _ q_375) (hts _ q_356) (hts _ q_12) (hts _ q_357) (Nat.le_of_ble_eq_true rfl) (Nat.le_of_ble_eq_true rfl) (Nat.zero_le _) (Nat.zero_le _) dX0_makeStep_139 ?_
          refine cs_fn (runV (As := [.int (tW (G 0) p0), .int (if 99 < (wrF (fun t => G (t + 11)) (tW (G 0) p0)) + (R 0) then 99 else (wrF (fun t => G (t + 11)) (tW (G 0) p0)) + (R 0))]) (rest := []) ⟨hx, hb, hml, hown, hts⟩ (m_X0_setWear l D kA h0 hw (nW (G 0) p0) (nW (G 1) p0) (G 2) (G 3) (if 12 < (G 4) + 1 then 12 else (G 4) + 1) (G 5) (G 6) (G 7) (G 8) ((G 9) + 1) (G 10) (fun t => G (t + 11)) (tW (G 0) p0) (if 99 < (wrF (fun t => G (t + 11)) (tW (G 0) p0)) + (R 0) then 99 else (wrF (fun t => G (t + 11)) (tW (G 0) p0)) + (R 0)) ) q_394 q_395 q_396 q_4 q_397 hd_X0_setWear ⟨rfl, rfl⟩ ⟨Nat.le_of_ble_eq_true rfl, Nat.le_of_ble_eq_true rfl⟩ hK (ws := [(h0, .inr (0, [.ref hw, .int (nW (G 0) p0), .int (nW (G 1) p0), .int (G 2), .int (G 3), .int (if 12 < (G 4) + 1 then 12 else (G 4) + 1), .int (G 5), .int (G 6), .int (G 7), .int (G 8), .int ((G 9) + 1), .int (G 10)])), (hw, .inl (kA 0, 24, .inl (fun t => G (t + 11))))]) (hP.sub [0, 1] rfl) (hD.sub [0, 1] (by decide) rfl) 0 (ci := 0) (C := RX0) (T := TX0) (N := 12) rfl rfl rfl hl.1 rfl (Nat.le_of_ble_eq_true rfl) dX0_makeStep_142 ⟨Nat.zero_le _, Nat.zero_le _⟩) hS (aw_sub hD (isC := [0, 1]) rfl) (fun H locs hP1 hk1 hS => ?_)
          obtain ⟨hP, hD⟩ := jn (wr := [(h9, rC R)]) (w1 := [(h0, .inr (0, [.ref hw, .int (nW (G 0) p0), .int (nW (G 1) p0), .int (G 2), .int (G 3), .int (if 12 < (G 4) + 1 then 12 else (G 4) + 1), .int (G 5), .int (G 6), .int (G 7), .int (G 8), .int ((G 9) + 1), .int (G 10)])), (hw, .inl (kA 0, 24, .inl (wsF (fun t => G (t + 11)) (tW (G 0) p0) (if 99 < (wrF (fun t => G (t + 11)) (tW (G 0) p0)) + (R 0) then 99 else (wrF (fun t => G (t + 11)) (tW (G 0) p0)) + (R 0)))))]) hP hD [0, 1] [2] rfl rfl (by decide) hk1 hP1 rfl
          have hP : va_P D vwCl [(h9, rC R), (h0, .inr (0, [.ref hw, .int (nW (G 0) p0), .int (nW (G 1) p0), .int (G 2), .int (G 3), .int (if 12 < (G 4) + 1 then 12 else (G 4) + 1), .int (G 5), .int (G 6), .int (G 7), .int (G 8), .int ((G 9) + 1), .int (G 10)])), (hw, .inl (kA 0, 24, .inl (wsF (fun t => G (t + 11)) (tW (G 0) p0) (if 99 < (wrF (fun t => G (t + 11)) (tW (G 0) p0)) + (R 0) then 99 else (wrF (fun t => G (t + 11)) (tW (G 0) p0)) + (R 0)))))] H := hP
          have hD : va_D (Aw [(h0, gC hw G), (hw, wC kA G), (h9, rC R)]) [(h9, rC R), (h0, .inr (0, [.ref hw, .int (nW (G 0) p0), .int (nW (G 1) p0), .int (G 2), .int (G 3), .int (if 12 < (G 4) + 1 then 12 else (G 4) + 1), .int (G 5), .int (G 6), .int (G 7), .int (G 8), .int ((G 9) + 1), .int (G 10)])), (hw, .inl (kA 0, 24, .inl (wsF (fun t => G (t + 11)) (tW (G 0) p0) (if 99 < (wrF (fun t => G (t + 11)) (tW (G 0) p0)) + (R 0) then 99 else (wrF (fun t => G (t + 11)) (tW (G 0) p0)) + (R 0)))))] := hD
          refine lv_aload_n hx hb dX0_makeStep_145 rfl (lv_at hl 4 rfl) ?_
          refine lv_iload_n hx hb dX0_makeStep_146 rfl (lv_at hl 5 rfl) ?_
          refine va_put (ci := 0) (v := .int p0) (ty := tyX0 4) (C := RX0) (T := TX0) (N := 12) hx hb hts inX0 tyX0 tyX0_ok nmX0 hown hK hP hD hS 1 rfl rfl 4 (by decide) (hts _ q_76) (fun _ h9 => h9) rfl (tyX0_ok 4 (by decide)) rfl rfl (Nat.le_of_ble_eq_true rfl) dX0_makeStep_147 (fun H locs hP hD hS => ?_)
          have hP : va_P D vwCl [(h9, rC R), (h0, .inr (0, [.ref hw, .int (nW (G 0) p0), .int (nW (G 1) p0), .int (G 2), .int p0, .int (if 12 < (G 4) + 1 then 12 else (G 4) + 1), .int (G 5), .int (G 6), .int (G 7), .int (G 8), .int ((G 9) + 1), .int (G 10)])), (hw, .inl (kA 0, 24, .inl (wsF (fun t => G (t + 11)) (tW (G 0) p0) (if 99 < (wrF (fun t => G (t + 11)) (tW (G 0) p0)) + (R 0) then 99 else (wrF (fun t => G (t + 11)) (tW (G 0) p0)) + (R 0)))))] H := hP
          have hD : va_D (Aw [(h0, gC hw G), (hw, wC kA G), (h9, rC R)]) [(h9, rC R), (h0, .inr (0, [.ref hw, .int (nW (G 0) p0), .int (nW (G 1) p0), .int (G 2), .int p0, .int (if 12 < (G 4) + 1 then 12 else (G 4) + 1), .int (G 5), .int (G 6), .int (G 7), .int (G 8), .int ((G 9) + 1), .int (G 10)])), (hw, .inl (kA 0, 24, .inl (wsF (fun t => G (t + 11)) (tW (G 0) p0) (if 99 < (wrF (fun t => G (t + 11)) (tW (G 0) p0)) + (R 0) then 99 else (wrF (fun t => G (t + 11)) (tW (G 0) p0)) + (R 0)))))] := hD
          refine lv_aload_n hx hb dX0_makeStep_150 rfl (lv_at hl 4 rfl) ?_
          refine lv_aload_n hx hb dX0_makeStep_151 rfl (lv_at hl 4 rfl) ?_
          refine va_get (ci := 0) (v := .int (G 5)) (C := RX0) (T := TX0) (N := 12) hx hb hts inX0 hown hK hP 1 rfl rfl 6 (by decide) (hts _ q_78) (fun _ h9 => h9) rfl dX0_makeStep_152 ?_
          refine lv_iconst (v := 1) hx hb dX0_makeStep_155 (by decide) ?_
          refine lv_isub hx hb dX0_makeStep_156 ?_
          refine lv_iconst (v := 0) hx hb dX0_makeStep_157 (by decide) ?_
          refine va_mmax hx hb (hml.trans hl.1.symm) hown (hts _ q_398) (hts _ q_399) (hts _ q_12) (hts _ q_400) (Nat.le_of_ble_eq_true rfl) (Nat.le_of_ble_eq_true rfl) (Nat.zero_le _) (Nat.zero_le _) dX0_makeStep_158 ?_
          refine va_put (ci := 0) (v := .int (if (G 5) - 1 < 0 then 0 else (G 5) - 1)) (ty := tyX0 6) (C := RX0) (T := TX0) (N := 12) hx hb hts inX0 tyX0 tyX0_ok nmX0 hown hK hP hD hS 1 rfl rfl 6 (by decide) (hts _ q_78) (fun _ h9 => h9) rfl (tyX0_ok 6 (by decide)) rfl rfl (Nat.le_of_ble_eq_true rfl) dX0_makeStep_161 (fun H locs hP hD hS => ?_)
          have hP : va_P D vwCl [(h9, rC R), (h0, .inr (0, [.ref hw, .int (nW (G 0) p0), .int (nW (G 1) p0), .int (G 2), .int p0, .int (if 12 < (G 4) + 1 then 12 else (G 4) + 1), .int (if (G 5) - 1 < 0 then 0 else (G 5) - 1), .int (G 6), .int (G 7), .int (G 8), .int ((G 9) + 1), .int (G 10)])), (hw, .inl (kA 0, 24, .inl (wsF (fun t => G (t + 11)) (tW (G 0) p0) (if 99 < (wrF (fun t => G (t + 11)) (tW (G 0) p0)) + (R 0) then 99 else (wrF (fun t => G (t + 11)) (tW (G 0) p0)) + (R 0)))))] H := hP
          have hD : va_D (Aw [(h0, gC hw G), (hw, wC kA G), (h9, rC R)]) [(h9, rC R), (h0, .inr (0, [.ref hw, .int (nW (G 0) p0), .int (nW (G 1) p0), .int (G 2), .int p0, .int (if 12 < (G 4) + 1 then 12 else (G 4) + 1), .int (if (G 5) - 1 < 0 then 0 else (G 5) - 1), .int (G 6), .int (G 7), .int (G 8), .int ((G 9) + 1), .int (G 10)])), (hw, .inl (kA 0, 24, .inl (wsF (fun t => G (t + 11)) (tW (G 0) p0) (if 99 < (wrF (fun t => G (t + 11)) (tW (G 0) p0)) + (R 0) then 99 else (wrF (fun t => G (t + 11)) (tW (G 0) p0)) + (R 0)))))] := hD
          refine lv_aload_n hx hb dX0_makeStep_164 rfl (lv_at hl 4 rfl) ?_
          refine lv_dup hx hb dX0_makeStep_165 rfl ?_
          refine va_get (ci := 0) (v := .int (G 6)) (C := RX0) (T := TX0) (N := 12) hx hb hts inX0 hown hK hP 1 rfl rfl 7 (by decide) (hts _ q_80) (fun _ h9 => h9) rfl dX0_makeStep_166 ?_
          refine lv_iconst (v := 1) hx hb dX0_makeStep_169 (by decide) ?_
          refine lv_iadd hx hb dX0_makeStep_170 ?_
          refine va_put (ci := 0) (v := .int ((G 6) + 1)) (ty := tyX0 7) (C := RX0) (T := TX0) (N := 12) hx hb hts inX0 tyX0 tyX0_ok nmX0 hown hK hP hD hS 1 rfl rfl 7 (by decide) (hts _ q_80) (fun _ h9 => h9) rfl (tyX0_ok 7 (by decide)) rfl rfl (Nat.le_of_ble_eq_true rfl) dX0_makeStep_171 (fun H locs hP hD hS => ?_)
          have hP : va_P D vwCl [(h9, rC R), (h0, .inr (0, [.ref hw, .int (nW (G 0) p0), .int (nW (G 1) p0), .int (G 2), .int p0, .int (if 12 < (G 4) + 1 then 12 else (G 4) + 1), .int (if (G 5) - 1 < 0 then 0 else (G 5) - 1), .int ((G 6) + 1), .int (G 7), .int (G 8), .int ((G 9) + 1), .int (G 10)])), (hw, .inl (kA 0, 24, .inl (wsF (fun t => G (t + 11)) (tW (G 0) p0) (if 99 < (wrF (fun t => G (t + 11)) (tW (G 0) p0)) + (R 0) then 99 else (wrF (fun t => G (t + 11)) (tW (G 0) p0)) + (R 0)))))] H := hP
          have hD : va_D (Aw [(h0, gC hw G), (hw, wC kA G), (h9, rC R)]) [(h9, rC R), (h0, .inr (0, [.ref hw, .int (nW (G 0) p0), .int (nW (G 1) p0), .int (G 2), .int p0, .int (if 12 < (G 4) + 1 then 12 else (G 4) + 1), .int (if (G 5) - 1 < 0 then 0 else (G 5) - 1), .int ((G 6) + 1), .int (G 7), .int (G 8), .int ((G 9) + 1), .int (G 10)])), (hw, .inl (kA 0, 24, .inl (wsF (fun t => G (t + 11)) (tW (G 0) p0) (if 99 < (wrF (fun t => G (t + 11)) (tW (G 0) p0)) + (R 0) then 99 else (wrF (fun t => G (t + 11)) (tW (G 0) p0)) + (R 0)))))] := hD
          refine lv_aload_n hx hb dX0_makeStep_174 rfl (lv_at hl 4 rfl) ?_
          refine lv_dup hx hb dX0_makeStep_175 rfl ?_
          refine va_get (ci := 0) (v := .int (G 8)) (C := RX0) (T := TX0) (N := 12) hx hb hts inX0 hown hK hP 1 rfl rfl 9 (by decide) (hts _ q_83) (fun _ h9 => h9) rfl dX0_makeStep_176 ?_
          refine lv_iload hx hb dX0_makeStep_179 (lv_at hl 1 rfl) ?_
          refine lv_iadd hx hb dX0_makeStep_181 ?_
          refine va_put (ci := 0) (v := .int ((G 8) + (tlF (G 2) (wrF (fun t => G (t + 11)) (tW (G 0) p0)) (G 5) (R 1)))) (ty := tyX0 9) (C := RX0) (T := TX0) (N := 12) hx hb hts inX0 tyX0 tyX0_ok nmX0 hown hK hP hD hS 1 rfl rfl 9 (by decide) (hts _ q_83) (fun _ h9 => h9) rfl (tyX0_ok 9 (by decide)) rfl rfl (Nat.le_of_ble_eq_true rfl) dX0_makeStep_182 (fun H locs hP hD hS => ?_)
          have hP : va_P D vwCl [(h9, rC R), (h0, .inr (0, [.ref hw, .int (nW (G 0) p0), .int (nW (G 1) p0), .int (G 2), .int p0, .int (if 12 < (G 4) + 1 then 12 else (G 4) + 1), .int (if (G 5) - 1 < 0 then 0 else (G 5) - 1), .int ((G 6) + 1), .int (G 7), .int ((G 8) + (tlF (G 2) (wrF (fun t => G (t + 11)) (tW (G 0) p0)) (G 5) (R 1))), .int ((G 9) + 1), .int (G 10)])), (hw, .inl (kA 0, 24, .inl (wsF (fun t => G (t + 11)) (tW (G 0) p0) (if 99 < (wrF (fun t => G (t + 11)) (tW (G 0) p0)) + (R 0) then 99 else (wrF (fun t => G (t + 11)) (tW (G 0) p0)) + (R 0)))))] H := hP
          have hD : va_D (Aw [(h0, gC hw G), (hw, wC kA G), (h9, rC R)]) [(h9, rC R), (h0, .inr (0, [.ref hw, .int (nW (G 0) p0), .int (nW (G 1) p0), .int (G 2), .int p0, .int (if 12 < (G 4) + 1 then 12 else (G 4) + 1), .int (if (G 5) - 1 < 0 then 0 else (G 5) - 1), .int ((G 6) + 1), .int (G 7), .int ((G 8) + (tlF (G 2) (wrF (fun t => G (t + 11)) (tW (G 0) p0)) (G 5) (R 1))), .int ((G 9) + 1), .int (G 10)])), (hw, .inl (kA 0, 24, .inl (wsF (fun t => G (t + 11)) (tW (G 0) p0) (if 99 < (wrF (fun t => G (t + 11)) (tW (G 0) p0)) + (R 0) then 99 else (wrF (fun t => G (t + 11)) (tW (G 0) p0)) + (R 0)))))] := hD
          refine lv_iload hx hb dX0_makeStep_185 (lv_at hl 1 rfl) ?_
          have hP : va_P D vwCl [(h0, .inr (0, [.ref hw, .int (nW (G 0) p0), .int (nW (G 1) p0), .int (G 2), .int p0, .int (if 12 < (G 4) + 1 then 12 else (G 4) + 1), .int (if (G 5) - 1 < 0 then 0 else (G 5) - 1), .int ((G 6) + 1), .int (G 7), .int ((G 8) + (tlF (G 2) (wrF (fun t => G (t + 11)) (tW (G 0) p0)) (G 5) (R 1))), .int ((G 9) + 1), .int (G 10)])), (hw, .inl (kA 0, 24, .inl (wsF (fun t => G (t + 11)) (tW (G 0) p0) (if 99 < (wrF (fun t => G (t + 11)) (tW (G 0) p0)) + (R 0) then 99 else (wrF (fun t => G (t + 11)) (tW (G 0) p0)) + (R 0))))), (h9, rC R)] _ := hP.sub [1, 2, 0] rfl
          exact end_fi hx hb hrt hlk hP hS (by first | rfl | (simp only [msR, tollG, gwr, c_1, c_2, c_4, c_5, ↓reduceIte, bI]; done) | (simp only [msR, tollG, gwr, c_1, c_2, c_4, c_5, ↓reduceIte, bI]; rfl) | (simp [msR, tollG, gwr, c_1, c_2, c_4, c_5, bI]; done)) (by intro h; have e9 : msG G R p0 p1 = mkG (nW (G 0) p0) (nW (G 1) p0) (G 2) p0 (if 12 < (G 4) + 1 then 12 else (G 4) + 1) (if (G 5) - 1 < 0 then 0 else (G 5) - 1) ((G 6) + 1) (G 7) ((G 8) + (tlF (G 2) (wrF (fun t => G (t + 11)) (tW (G 0) p0)) (G 5) (R 1))) ((G 9) + 1) (G 10) (wsF (fun t => G (t + 11)) (tW (G 0) p0) (if 99 < (wrF (fun t => G (t + 11)) (tW (G 0) p0)) + (R 0) then 99 else (wrF (fun t => G (t + 11)) (tW (G 0) p0)) + (R 0))) := (by first | (simp only [msG, stepG, tollG, gwr, turnG, c_1, c_2, c_4, c_5, ↓reduceIte, Bool.false_eq_true]; done) | (simp only [msG, stepG, tollG, gwr, turnG, c_1, c_2, c_4, c_5, ↓reduceIte, Bool.false_eq_true]; rfl) | (simp [msG, stepG, tollG, gwr, turnG, c_1, c_2, c_4, c_5]; done)); rw [e9]; exact h) dX0_makeStep_187
        · skip
          refine lv_aload_n hx hb dX0_makeStep_102 rfl (lv_at hl 4 rfl) ?_
          refine lv_dup hx hb dX0_makeStep_103 rfl ?_
          refine va_get (ci := 0) (v := .int (G 7)) (C := RX0) (T := TX0) (N := 12) hx hb hts inX0 hown hK hP 0 rfl rfl 8 (by decide) (hts _ q_82) (fun _ h9 => h9) rfl dX0_makeStep_104 ?_
          refine lv_iconst (v := 1) hx hb dX0_makeStep_107 (by decide) ?_
          refine lv_iadd hx hb dX0_makeStep_108 ?_
          refine va_put (ci := 0) (v := .int ((G 7) + 1)) (ty := tyX0 8) (C := RX0) (T := TX0) (N := 12) hx hb hts inX0 tyX0 tyX0_ok nmX0 hown hK hP hD hS 0 rfl rfl 8 (by decide) (hts _ q_82) (fun _ h9 => h9) rfl (tyX0_ok 8 (by decide)) rfl rfl (Nat.le_of_ble_eq_true rfl) dX0_makeStep_109 (fun H locs hP hD hS => ?_)
          have hP : va_P D vwCl [(h0, .inr (0, [.ref hw, .int (G 0), .int (nW (G 1) p0), .int (G 2), .int (G 3), .int (if 12 < (G 4) + 1 then 12 else (G 4) + 1), .int (G 5), .int (G 6), .int ((G 7) + 1), .int (G 8), .int ((G 9) + 1), .int (G 10)])), (hw, wC kA G), (h9, rC R)] H := hP
          have hD : va_D (Aw [(h0, gC hw G), (hw, wC kA G), (h9, rC R)]) [(h0, .inr (0, [.ref hw, .int (G 0), .int (nW (G 1) p0), .int (G 2), .int (G 3), .int (if 12 < (G 4) + 1 then 12 else (G 4) + 1), .int (G 5), .int (G 6), .int ((G 7) + 1), .int (G 8), .int ((G 9) + 1), .int (G 10)])), (hw, wC kA G), (h9, rC R)] := hD
          refine lv_goto (tgt := 127) hx hb dX0_makeStep_112 (by decide) ?_
          refine lv_aload_n hx hb dX0_makeStep_127 rfl (lv_at hl 4 rfl) ?_
          refine lv_iload hx hb dX0_makeStep_128 (lv_at hl 3 rfl) ?_
          refine lv_iload hx hb dX0_makeStep_130 (lv_at hl 2 rfl) ?_
          refine lv_aload_n hx hb dX0_makeStep_132 rfl (lv_at hl 7 rfl) ?_
          refine va_get (ci := 3) (v := .int (R 0)) (C := RX3) (T := TX3) (N := 6) hx hb hts inX3 hown hK hP 2 rfl rfl 0 (by decide) (hts _ q_36) (fun _ h9 => h9) rfl dX0_makeStep_133 ?_
          refine lv_iadd hx hb dX0_makeStep_136 ?_
          refine lv_bipush (v := 99) hx hb dX0_makeStep_137 (by decide) ?_
          refine va_mmin hx hb (hml.trans hl.1.symm) hown (hts _ q_375) (hts _ q_356) (hts _ q_12) (hts _ q_357) (Nat.le_of_ble_eq_true rfl) (Nat.le_of_ble_eq_true rfl) (Nat.zero_le _) (Nat.zero_le _) dX0_makeStep_139 ?_
          refine cs_fn (runV (As := [.int (tW (G 0) p0), .int (if 99 < (wrF (fun t => G (t + 11)) (tW (G 0) p0)) + (R 0) then 99 else (wrF (fun t => G (t + 11)) (tW (G 0) p0)) + (R 0))]) (rest := []) ⟨hx, hb, hml, hown, hts⟩ (m_X0_setWear l D kA h0 hw (G 0) (nW (G 1) p0) (G 2) (G 3) (if 12 < (G 4) + 1 then 12 else (G 4) + 1) (G 5) (G 6) ((G 7) + 1) (G 8) ((G 9) + 1) (G 10) (fun t => G (t + 11)) (tW (G 0) p0) (if 99 < (wrF (fun t => G (t + 11)) (tW (G 0) p0)) + (R 0) then 99 else (wrF (fun t => G (t + 11)) (tW (G 0) p0)) + (R 0)) ) q_394 q_395 q_396 q_4 q_397 hd_X0_setWear ⟨rfl, rfl⟩ ⟨Nat.le_of_ble_eq_true rfl, Nat.le_of_ble_eq_true rfl⟩ hK (ws := [(h0, .inr (0, [.ref hw, .int (G 0), .int (nW (G 1) p0), .int (G 2), .int (G 3), .int (if 12 < (G 4) + 1 then 12 else (G 4) + 1), .int (G 5), .int (G 6), .int ((G 7) + 1), .int (G 8), .int ((G 9) + 1), .int (G 10)])), (hw, .inl (kA 0, 24, .inl (fun t => G (t + 11))))]) (hP.sub [0, 1] rfl) (hD.sub [0, 1] (by decide) rfl) 0 (ci := 0) (C := RX0) (T := TX0) (N := 12) rfl rfl rfl hl.1 rfl (Nat.le_of_ble_eq_true rfl) dX0_makeStep_142 ⟨Nat.zero_le _, Nat.zero_le _⟩) hS (aw_sub hD (isC := [0, 1]) rfl) (fun H locs hP1 hk1 hS => ?_)
          obtain ⟨hP, hD⟩ := jn (wr := [(h9, rC R)]) (w1 := [(h0, .inr (0, [.ref hw, .int (G 0), .int (nW (G 1) p0), .int (G 2), .int (G 3), .int (if 12 < (G 4) + 1 then 12 else (G 4) + 1), .int (G 5), .int (G 6), .int ((G 7) + 1), .int (G 8), .int ((G 9) + 1), .int (G 10)])), (hw, .inl (kA 0, 24, .inl (wsF (fun t => G (t + 11)) (tW (G 0) p0) (if 99 < (wrF (fun t => G (t + 11)) (tW (G 0) p0)) + (R 0) then 99 else (wrF (fun t => G (t + 11)) (tW (G 0) p0)) + (R 0)))))]) hP hD [0, 1] [2] rfl rfl (by decide) hk1 hP1 rfl
          have hP : va_P D vwCl [(h9, rC R), (h0, .inr (0, [.ref hw, .int (G 0), .int (nW (G 1) p0), .int (G 2), .int (G 3), .int (if 12 < (G 4) + 1 then 12 else (G 4) + 1), .int (G 5), .int (G 6), .int ((G 7) + 1), .int (G 8), .int ((G 9) + 1), .int (G 10)])), (hw, .inl (kA 0, 24, .inl (wsF (fun t => G (t + 11)) (tW (G 0) p0) (if 99 < (wrF (fun t => G (t + 11)) (tW (G 0) p0)) + (R 0) then 99 else (wrF (fun t => G (t + 11)) (tW (G 0) p0)) + (R 0)))))] H := hP
          have hD : va_D (Aw [(h0, gC hw G), (hw, wC kA G), (h9, rC R)]) [(h9, rC R), (h0, .inr (0, [.ref hw, .int (G 0), .int (nW (G 1) p0), .int (G 2), .int (G 3), .int (if 12 < (G 4) + 1 then 12 else (G 4) + 1), .int (G 5), .int (G 6), .int ((G 7) + 1), .int (G 8), .int ((G 9) + 1), .int (G 10)])), (hw, .inl (kA 0, 24, .inl (wsF (fun t => G (t + 11)) (tW (G 0) p0) (if 99 < (wrF (fun t => G (t + 11)) (tW (G 0) p0)) + (R 0) then 99 else (wrF (fun t => G (t + 11)) (tW (G 0) p0)) + (R 0)))))] := hD
          refine lv_aload_n hx hb dX0_makeStep_145 rfl (lv_at hl 4 rfl) ?_
          refine lv_iload_n hx hb dX0_makeStep_146 rfl (lv_at hl 5 rfl) ?_
          refine va_put (ci := 0) (v := .int p0) (ty := tyX0 4) (C := RX0) (T := TX0) (N := 12) hx hb hts inX0 tyX0 tyX0_ok nmX0 hown hK hP hD hS 1 rfl rfl 4 (by decide) (hts _ q_76) (fun _ h9 => h9) rfl (tyX0_ok 4 (by decide)) rfl rfl (Nat.le_of_ble_eq_true rfl) dX0_makeStep_147 (fun H locs hP hD hS => ?_)
          have hP : va_P D vwCl [(h9, rC R), (h0, .inr (0, [.ref hw, .int (G 0), .int (nW (G 1) p0), .int (G 2), .int p0, .int (if 12 < (G 4) + 1 then 12 else (G 4) + 1), .int (G 5), .int (G 6), .int ((G 7) + 1), .int (G 8), .int ((G 9) + 1), .int (G 10)])), (hw, .inl (kA 0, 24, .inl (wsF (fun t => G (t + 11)) (tW (G 0) p0) (if 99 < (wrF (fun t => G (t + 11)) (tW (G 0) p0)) + (R 0) then 99 else (wrF (fun t => G (t + 11)) (tW (G 0) p0)) + (R 0)))))] H := hP
          have hD : va_D (Aw [(h0, gC hw G), (hw, wC kA G), (h9, rC R)]) [(h9, rC R), (h0, .inr (0, [.ref hw, .int (G 0), .int (nW (G 1) p0), .int (G 2), .int p0, .int (if 12 < (G 4) + 1 then 12 else (G 4) + 1), .int (G 5), .int (G 6), .int ((G 7) + 1), .int (G 8), .int ((G 9) + 1), .int (G 10)])), (hw, .inl (kA 0, 24, .inl (wsF (fun t => G (t + 11)) (tW (G 0) p0) (if 99 < (wrF (fun t => G (t + 11)) (tW (G 0) p0)) + (R 0) then 99 else (wrF (fun t => G (t + 11)) (tW (G 0) p0)) + (R 0)))))] := hD
          refine lv_aload_n hx hb dX0_makeStep_150 rfl (lv_at hl 4 rfl) ?_
          refine lv_aload_n hx hb dX0_makeStep_151 rfl (lv_at hl 4 rfl) ?_
          refine va_get (ci := 0) (v := .int (G 5)) (C := RX0) (T := TX0) (N := 12) hx hb hts inX0 hown hK hP 1 rfl rfl 6 (by decide) (hts _ q_78) (fun _ h9 => h9) rfl dX0_makeStep_152 ?_
          refine lv_iconst (v := 1) hx hb dX0_makeStep_155 (by decide) ?_
          refine lv_isub hx hb dX0_makeStep_156 ?_
          refine lv_iconst (v := 0) hx hb dX0_makeStep_157 (by decide) ?_
          refine va_mmax hx hb (hml.trans hl.1.symm) hown (hts _ q_398) (hts _ q_399) (hts _ q_12) (hts _ q_400) (Nat.le_of_ble_eq_true rfl) (Nat.le_of_ble_eq_true rfl) (Nat.zero_le _) (Nat.zero_le _) dX0_makeStep_158 ?_
          refine va_put (ci := 0) (v := .int (if (G 5) - 1 < 0 then 0 else (G 5) - 1)) (ty := tyX0 6) (C := RX0) (T := TX0) (N := 12) hx hb hts inX0 tyX0 tyX0_ok nmX0 hown hK hP hD hS 1 rfl rfl 6 (by decide) (hts _ q_78) (fun _ h9 => h9) rfl (tyX0_ok 6 (by decide)) rfl rfl (Nat.le_of_ble_eq_true rfl) dX0_makeStep_161 (fun H locs hP hD hS => ?_)
          have hP : va_P D vwCl [(h9, rC R), (h0, .inr (0, [.ref hw, .int (G 0), .int (nW (G 1) p0), .int (G 2), .int p0, .int (if 12 < (G 4) + 1 then 12 else (G 4) + 1), .int (if (G 5) - 1 < 0 then 0 else (G 5) - 1), .int (G 6), .int ((G 7) + 1), .int (G 8), .int ((G 9) + 1), .int (G 10)])), (hw, .inl (kA 0, 24, .inl (wsF (fun t => G (t + 11)) (tW (G 0) p0) (if 99 < (wrF (fun t => G (t + 11)) (tW (G 0) p0)) + (R 0) then 99 else (wrF (fun t => G (t + 11)) (tW (G 0) p0)) + (R 0)))))] H := hP
          have hD : va_D (Aw [(h0, gC hw G), (hw, wC kA G), (h9, rC R)]) [(h9, rC R), (h0, .inr (0, [.ref hw, .int (G 0), .int (nW (G 1) p0), .int (G 2), .int p0, .int (if 12 < (G 4) + 1 then 12 else (G 4) + 1), .int (if (G 5) - 1 < 0 then 0 else (G 5) - 1), .int (G 6), .int ((G 7) + 1), .int (G 8), .int ((G 9) + 1), .int (G 10)])), (hw, .inl (kA 0, 24, .inl (wsF (fun t => G (t + 11)) (tW (G 0) p0) (if 99 < (wrF (fun t => G (t + 11)) (tW (G 0) p0)) + (R 0) then 99 else (wrF (fun t => G (t + 11)) (tW (G 0) p0)) + (R 0)))))] := hD
          refine lv_aload_n hx hb dX0_makeStep_164 rfl (lv_at hl 4 rfl) ?_
          refine lv_dup hx hb dX0_makeStep_165 rfl ?_
          refine va_get (ci := 0) (v := .int (G 6)) (C := RX0) (T := TX0) (N := 12) hx hb hts inX0 hown hK hP 1 rfl rfl 7 (by decide) (hts _ q_80) (fun _ h9 => h9) rfl dX0_makeStep_166 ?_
          refine lv_iconst (v := 1) hx hb dX0_makeStep_169 (by decide) ?_
          refine lv_iadd hx hb dX0_makeStep_170 ?_
          refine va_put (ci := 0) (v := .int ((G 6) + 1)) (ty := tyX0 7) (C := RX0) (T := TX0) (N := 12) hx hb hts inX0 tyX0 tyX0_ok nmX0 hown hK hP hD hS 1 rfl rfl 7 (by decide) (hts _ q_80) (fun _ h9 => h9) rfl (tyX0_ok 7 (by decide)) rfl rfl (Nat.le_of_ble_eq_true rfl) dX0_makeStep_171 (fun H locs hP hD hS => ?_)
          have hP : va_P D vwCl [(h9, rC R), (h0, .inr (0, [.ref hw, .int (G 0), .int (nW (G 1) p0), .int (G 2), .int p0, .int (if 12 < (G 4) + 1 then 12 else (G 4) + 1), .int (if (G 5) - 1 < 0 then 0 else (G 5) - 1), .int ((G 6) + 1), .int ((G 7) + 1), .int (G 8), .int ((G 9) + 1), .int (G 10)])), (hw, .inl (kA 0, 24, .inl (wsF (fun t => G (t + 11)) (tW (G 0) p0) (if 99 < (wrF (fun t => G (t + 11)) (tW (G 0) p0)) + (R 0) then 99 else (wrF (fun t => G (t + 11)) (tW (G 0) p0)) + (R 0)))))] H := hP
          have hD : va_D (Aw [(h0, gC hw G), (hw, wC kA G), (h9, rC R)]) [(h9, rC R), (h0, .inr (0, [.ref hw, .int (G 0), .int (nW (G 1) p0), .int (G 2), .int p0, .int (if 12 < (G 4) + 1 then 12 else (G 4) + 1), .int (if (G 5) - 1 < 0 then 0 else (G 5) - 1), .int ((G 6) + 1), .int ((G 7) + 1), .int (G 8), .int ((G 9) + 1), .int (G 10)])), (hw, .inl (kA 0, 24, .inl (wsF (fun t => G (t + 11)) (tW (G 0) p0) (if 99 < (wrF (fun t => G (t + 11)) (tW (G 0) p0)) + (R 0) then 99 else (wrF (fun t => G (t + 11)) (tW (G 0) p0)) + (R 0)))))] := hD
          refine lv_aload_n hx hb dX0_makeStep_174 rfl (lv_at hl 4 rfl) ?_
          refine lv_dup hx hb dX0_makeStep_175 rfl ?_
          refine va_get (ci := 0) (v := .int (G 8)) (C := RX0) (T := TX0) (N := 12) hx hb hts inX0 hown hK hP 1 rfl rfl 9 (by decide) (hts _ q_83) (fun _ h9 => h9) rfl dX0_makeStep_176 ?_
          refine lv_iload hx hb dX0_makeStep_179 (lv_at hl 1 rfl) ?_
          refine lv_iadd hx hb dX0_makeStep_181 ?_
          refine va_put (ci := 0) (v := .int ((G 8) + (tlF (G 2) (wrF (fun t => G (t + 11)) (tW (G 0) p0)) (G 5) (R 1)))) (ty := tyX0 9) (C := RX0) (T := TX0) (N := 12) hx hb hts inX0 tyX0 tyX0_ok nmX0 hown hK hP hD hS 1 rfl rfl 9 (by decide) (hts _ q_83) (fun _ h9 => h9) rfl (tyX0_ok 9 (by decide)) rfl rfl (Nat.le_of_ble_eq_true rfl) dX0_makeStep_182 (fun H locs hP hD hS => ?_)
          have hP : va_P D vwCl [(h9, rC R), (h0, .inr (0, [.ref hw, .int (G 0), .int (nW (G 1) p0), .int (G 2), .int p0, .int (if 12 < (G 4) + 1 then 12 else (G 4) + 1), .int (if (G 5) - 1 < 0 then 0 else (G 5) - 1), .int ((G 6) + 1), .int ((G 7) + 1), .int ((G 8) + (tlF (G 2) (wrF (fun t => G (t + 11)) (tW (G 0) p0)) (G 5) (R 1))), .int ((G 9) + 1), .int (G 10)])), (hw, .inl (kA 0, 24, .inl (wsF (fun t => G (t + 11)) (tW (G 0) p0) (if 99 < (wrF (fun t => G (t + 11)) (tW (G 0) p0)) + (R 0) then 99 else (wrF (fun t => G (t + 11)) (tW (G 0) p0)) + (R 0)))))] H := hP
          have hD : va_D (Aw [(h0, gC hw G), (hw, wC kA G), (h9, rC R)]) [(h9, rC R), (h0, .inr (0, [.ref hw, .int (G 0), .int (nW (G 1) p0), .int (G 2), .int p0, .int (if 12 < (G 4) + 1 then 12 else (G 4) + 1), .int (if (G 5) - 1 < 0 then 0 else (G 5) - 1), .int ((G 6) + 1), .int ((G 7) + 1), .int ((G 8) + (tlF (G 2) (wrF (fun t => G (t + 11)) (tW (G 0) p0)) (G 5) (R 1))), .int ((G 9) + 1), .int (G 10)])), (hw, .inl (kA 0, 24, .inl (wsF (fun t => G (t + 11)) (tW (G 0) p0) (if 99 < (wrF (fun t => G (t + 11)) (tW (G 0) p0)) + (R 0) then 99 else (wrF (fun t => G (t + 11)) (tW (G 0) p0)) + (R 0)))))] := hD
          refine lv_iload hx hb dX0_makeStep_185 (lv_at hl 1 rfl) ?_
          have hP : va_P D vwCl [(h0, .inr (0, [.ref hw, .int (G 0), .int (nW (G 1) p0), .int (G 2), .int p0, .int (if 12 < (G 4) + 1 then 12 else (G 4) + 1), .int (if (G 5) - 1 < 0 then 0 else (G 5) - 1), .int ((G 6) + 1), .int ((G 7) + 1), .int ((G 8) + (tlF (G 2) (wrF (fun t => G (t + 11)) (tW (G 0) p0)) (G 5) (R 1))), .int ((G 9) + 1), .int (G 10)])), (hw, .inl (kA 0, 24, .inl (wsF (fun t => G (t + 11)) (tW (G 0) p0) (if 99 < (wrF (fun t => G (t + 11)) (tW (G 0) p0)) + (R 0) then 99 else (wrF (fun t => G (t + 11)) (tW (G 0) p0)) + (R 0))))), (h9, rC R)] _ := hP.sub [1, 2, 0] rfl
          exact end_fi hx hb hrt hlk hP hS (by first | rfl | (simp only [msR, tollG, gwr, c_1, c_2, c_4, c_5, ↓reduceIte, bI]; done) | (simp only [msR, tollG, gwr, c_1, c_2, c_4, c_5, ↓reduceIte, bI]; rfl) | (simp [msR, tollG, gwr, c_1, c_2, c_4, c_5, bI]; done)) (by intro h; have e9 : msG G R p0 p1 = mkG (G 0) (nW (G 1) p0) (G 2) p0 (if 12 < (G 4) + 1 then 12 else (G 4) + 1) (if (G 5) - 1 < 0 then 0 else (G 5) - 1) ((G 6) + 1) ((G 7) + 1) ((G 8) + (tlF (G 2) (wrF (fun t => G (t + 11)) (tW (G 0) p0)) (G 5) (R 1))) ((G 9) + 1) (G 10) (wsF (fun t => G (t + 11)) (tW (G 0) p0) (if 99 < (wrF (fun t => G (t + 11)) (tW (G 0) p0)) + (R 0) then 99 else (wrF (fun t => G (t + 11)) (tW (G 0) p0)) + (R 0))) := (by first | (simp only [msG, stepG, tollG, gwr, turnG, c_1, c_2, c_4, c_5, ↓reduceIte, Bool.false_eq_true]; done) | (simp only [msG, stepG, tollG, gwr, turnG, c_1, c_2, c_4, c_5, ↓reduceIte, Bool.false_eq_true]; rfl) | (simp [msG, stepG, tollG, gwr, turnG, c_1, c_2, c_4, c_5]; done)); rw [e9]; exact h) dX0_makeStep_187
  · skip
    replace c_1 := nge_l c_1
    refine lv_iconst (v := 0) hx hb dX0_makeStep_37 (by decide) ?_
    have hP : va_P D vwCl [(h0, gC hw G), (hw, wC kA G), (h9, rC R)] _ := hP.sub [0, 1, 2] rfl
    exact end_fi hx hb hrt hlk hP hS (by first | rfl | (simp only [msR, tollG, gwr, c_1, ↓reduceIte, bI]; done) | (simp only [msR, tollG, gwr, c_1, ↓reduceIte, bI]; rfl) | (simp [msR, tollG, gwr, c_1, bI]; done)) (by intro h; have e9 : msG G R p0 p1 = G := (by first | (simp only [msG, stepG, tollG, gwr, turnG, c_1, ↓reduceIte, Bool.false_eq_true]; done) | (simp only [msG, stepG, tollG, gwr, turnG, c_1, ↓reduceIte, Bool.false_eq_true]; rfl) | (simp [msG, stepG, tollG, gwr, turnG, c_1]; done)); rw [e9]; exact h) dX0_makeStep_38

theorem hd_X0_makeHomed : yX0_makeHomed.cls ≠ "java/lang/invoke/MethodHandle" ∧ yX0_makeHomed.cls ≠ "java/lang/invoke/VarHandle" ∧ (parseMethodDescriptor yX0_makeHomed.desc).map (fun d => d.parameters.length) = some 2 := by decide +kernel
set_option maxRecDepth 100000 in
set_option maxHeartbeats 4000000 in
theorem m_X0_makeHomed (l : Launch) (D : va_G) (kA : Nat → Nat) (h0 : Nat) (hw : Nat) (G : Nat → Int32) (h9 : Nat) (R : Nat → Int32) (p0 : Int32) : Met l yX0_makeHomed (Cond.code yX0_makeHomed cX0_makeHomed 6 (some .int) :: AW) ({ frames := 2, cells := 0, slots := 0, locals := 51 } : Room) (Pz [.ref h0, .int p0, .ref h9] D (TY kA) [(h0, gC hw G), (hw, wC kA G), (h9, rC R)]) (fQ (some (.int (hmP G R p0))) D [(h0, gC hw G), (hw, wC kA G), (h9, rC R)] [(h0, gC hw (hmG G R p0)), (hw, wC kA (hmG G R p0)), (h9, rC R)]) 0 0 (Aw [(h0, gC hw G), (hw, wC kA G), (h9, rC R)]) := by
  refine MetZ (by decide +kernel) (Nat.le_of_ble_eq_true rfl) ?_
  intro p e s m below meth c ls hx hb hrt hts hown hml hlk hnm hP hK hD hS hl
  have hl : lv_has ls 6 [(0, .ref h0), (1, .int p0), (2, .ref h9)] := hl
  refine lv_iconst (v := 0) hx hb dX0_makeHomed_0 (by decide) ?_
  refine lv_istore_n (lv' := [(3, .int 0), (0, .ref h0), (1, .int p0), (2, .ref h9)]) hx hb dX0_makeHomed_1 rfl hl (by decide) rfl (fun ls hl => ?_)
  refine lv_iconst (v := 0) hx hb dX0_makeHomed_2 (by decide) ?_
  refine lv_istore (lv' := [(4, .int 0), (3, .int 0), (0, .ref h0), (1, .int p0), (2, .ref h9)]) hx hb dX0_makeHomed_3 hl (by decide) rfl (fun ls hl => ?_)
  have loop_5 : ∀ (n : Nat) (j : Nat) (Gj : Nat → Int32) (x3 : Int32) (x4 : Int32) (hj : j + n = 40) (e4 : x4 = nI j) (hres : hmL R p0 n Gj x3 = hmL R p0 40 G 0), ∀ (H : Heap) (locs : List Loc), va_P D vwCl [(h0, gC hw Gj), (hw, wC kA Gj), (h9, rC R)] H → va_D (Aw [(h0, gC hw G), (hw, wC kA G), (h9, rC R)]) [(h0, gC hw Gj), (hw, wC kA Gj), (h9, rC R)] → va_S (Aw [(h0, gC hw G), (hw, wC kA G), (h9, rC R)]) s.heap H locs → ∀ ls : Array Slot, lv_has ls 6 [(0, .ref h0), (1, .int p0), (2, .ref h9), (3, .int x3), (4, .int x4)] → W p l e ({ frames := 2, cells := 0, slots := 0, locals := 51 } : Room) s m [.ref h0, .int p0, .ref h9].toArray below meth c H locs 0 0 (MQ below (fQ (some (.int (hmP G R p0))) D [(h0, gC hw G), (hw, wC kA G), (h9, rC R)] [(h0, gC hw (hmG G R p0)), (hw, wC kA (hmG G R p0)), (h9, rC R)]) [.ref h0, .int p0, .ref h9].toArray s 0 0 (Aw [(h0, gC hw G), (hw, wC kA G), (h9, rC R)])) (F0 m 5 ls []) := by
    clear hl
    clear hP hD hS
    intro n
    induction n with
    | zero =>
      intro j Gj x3 x4 hj e4 hres H locs hP hD hS ls hl
      refine lv_iload hx hb dX0_makeHomed_5 (lv_at hl 4 rfl) ?_
      refine lv_bipush (v := 40) hx hb dX0_makeHomed_7 (by decide) ?_
      refine lv_icmp_ge (tgt := 49) hx hb dX0_makeHomed_9 (by decide) (fun c_1 => ?_) (fun c_1 => ?_)
      · skip
        replace c_1 := ge_n c_1
        refine lv_aload_n hx hb dX0_makeHomed_49 rfl (lv_at hl 0 rfl) ?_
        refine va_get (ci := 0) (v := .int (Gj 0)) (C := RX0) (T := TX0) (N := 12) hx hb hts inX0 hown hK hP 0 rfl rfl 1 (by decide) (hts _ q_69) (fun _ h9 => h9) rfl dX0_makeHomed_50 ?_
        refine lv_if_ne (tgt := 81) hx hb dX0_makeHomed_53 (by decide) (fun c_2 => ?_) (fun c_2 => ?_)
        · skip
          refine lv_iload_n hx hb dX0_makeHomed_81 rfl (lv_at hl 3 rfl) ?_
          have hP : va_P D vwCl [(h0, gC hw Gj), (hw, wC kA Gj), (h9, rC R)] _ := hP.sub [0, 1, 2] rfl
          exact end_fi hx hb hrt hlk hP hS (by simp only [hmP]; rw [← hres]; first | rfl | (simp only [hmL, c_1, c_2, ↓reduceIte]; done)) (by intro h; have e9 : hmG G R p0 = Gj := (by first | (simp only [hmG]; rw [← hres]; simp only [hmL, hm1, c_1, c_2, ↓reduceIte, Bool.false_eq_true]; done) | (simp only [hmG]; rw [← hres]; simp only [hmL, hm1, c_1, c_2, ↓reduceIte, Bool.false_eq_true]; rfl) | (simp only [hmG]; rw [← hres]; simp [hmL, hm1, c_1, c_2]; done)); rw [e9]; exact h) dX0_makeHomed_82
        · skip
          refine lv_aload_n hx hb dX0_makeHomed_56 rfl (lv_at hl 0 rfl) ?_
          refine lv_iconst (v := 0) hx hb dX0_makeHomed_57 (by decide) ?_
          refine va_put (ci := 0) (v := .int 0) (ty := tyX0 2) (C := RX0) (T := TX0) (N := 12) hx hb hts inX0 tyX0 tyX0_ok nmX0 hown hK hP hD hS 0 rfl rfl 2 (by decide) (hts _ q_71) (fun _ h9 => h9) rfl (tyX0_ok 2 (by decide)) rfl rfl (Nat.le_of_ble_eq_true rfl) dX0_makeHomed_58 (fun H locs hP hD hS => ?_)
          have hP : va_P D vwCl [(h0, .inr (0, [.ref hw, .int (Gj 0), .int 0, .int (Gj 2), .int (Gj 3), .int (Gj 4), .int (Gj 5), .int (Gj 6), .int (Gj 7), .int (Gj 8), .int (Gj 9), .int (Gj 10)])), (hw, wC kA Gj), (h9, rC R)] H := hP
          have hD : va_D (Aw [(h0, gC hw G), (hw, wC kA G), (h9, rC R)]) [(h0, .inr (0, [.ref hw, .int (Gj 0), .int 0, .int (Gj 2), .int (Gj 3), .int (Gj 4), .int (Gj 5), .int (Gj 6), .int (Gj 7), .int (Gj 8), .int (Gj 9), .int (Gj 10)])), (hw, wC kA Gj), (h9, rC R)] := hD
          refine lv_aload_n hx hb dX0_makeHomed_61 rfl (lv_at hl 0 rfl) ?_
          refine lv_iconst (v := 0) hx hb dX0_makeHomed_62 (by decide) ?_
          refine va_put (ci := 0) (v := .int 0) (ty := tyX0 5) (C := RX0) (T := TX0) (N := 12) hx hb hts inX0 tyX0 tyX0_ok nmX0 hown hK hP hD hS 0 rfl rfl 5 (by decide) (hts _ q_77) (fun _ h9 => h9) rfl (tyX0_ok 5 (by decide)) rfl rfl (Nat.le_of_ble_eq_true rfl) dX0_makeHomed_63 (fun H locs hP hD hS => ?_)
          have hP : va_P D vwCl [(h0, .inr (0, [.ref hw, .int (Gj 0), .int 0, .int (Gj 2), .int (Gj 3), .int 0, .int (Gj 5), .int (Gj 6), .int (Gj 7), .int (Gj 8), .int (Gj 9), .int (Gj 10)])), (hw, wC kA Gj), (h9, rC R)] H := hP
          have hD : va_D (Aw [(h0, gC hw G), (hw, wC kA G), (h9, rC R)]) [(h0, .inr (0, [.ref hw, .int (Gj 0), .int 0, .int (Gj 2), .int (Gj 3), .int 0, .int (Gj 5), .int (Gj 6), .int (Gj 7), .int (Gj 8), .int (Gj 9), .int (Gj 10)])), (hw, wC kA Gj), (h9, rC R)] := hD
          refine lv_aload_n hx hb dX0_makeHomed_66 rfl (lv_at hl 0 rfl) ?_
          refine lv_iconst (v := 0) hx hb dX0_makeHomed_67 (by decide) ?_
          refine va_put (ci := 0) (v := .int 0) (ty := tyX0 4) (C := RX0) (T := TX0) (N := 12) hx hb hts inX0 tyX0 tyX0_ok nmX0 hown hK hP hD hS 0 rfl rfl 4 (by decide) (hts _ q_76) (fun _ h9 => h9) rfl (tyX0_ok 4 (by decide)) rfl rfl (Nat.le_of_ble_eq_true rfl) dX0_makeHomed_68 (fun H locs hP hD hS => ?_)
          have hP : va_P D vwCl [(h0, .inr (0, [.ref hw, .int (Gj 0), .int 0, .int (Gj 2), .int 0, .int 0, .int (Gj 5), .int (Gj 6), .int (Gj 7), .int (Gj 8), .int (Gj 9), .int (Gj 10)])), (hw, wC kA Gj), (h9, rC R)] H := hP
          have hD : va_D (Aw [(h0, gC hw G), (hw, wC kA G), (h9, rC R)]) [(h0, .inr (0, [.ref hw, .int (Gj 0), .int 0, .int (Gj 2), .int 0, .int 0, .int (Gj 5), .int (Gj 6), .int (Gj 7), .int (Gj 8), .int (Gj 9), .int (Gj 10)])), (hw, wC kA Gj), (h9, rC R)] := hD
          refine lv_aload_n hx hb dX0_makeHomed_71 rfl (lv_at hl 0 rfl) ?_
          refine lv_dup hx hb dX0_makeHomed_72 rfl ?_
          refine va_get (ci := 0) (v := .int (Gj 10)) (C := RX0) (T := TX0) (N := 12) hx hb hts inX0 hown hK hP 0 rfl rfl 11 (by decide) (hts _ q_85) (fun _ h9 => h9) rfl dX0_makeHomed_73 ?_
          refine lv_iconst (v := 1) hx hb dX0_makeHomed_76 (by decide) ?_
          refine lv_iadd hx hb dX0_makeHomed_77 ?_
          refine va_put (ci := 0) (v := .int ((Gj 10) + 1)) (ty := tyX0 11) (C := RX0) (T := TX0) (N := 12) hx hb hts inX0 tyX0 tyX0_ok nmX0 hown hK hP hD hS 0 rfl rfl 11 (by decide) (hts _ q_85) (fun _ h9 => h9) rfl (tyX0_ok 11 (by decide)) rfl rfl (Nat.le_of_ble_eq_true rfl) dX0_makeHomed_78 (fun H locs hP hD hS => ?_)
          have hP : va_P D vwCl [(h0, .inr (0, [.ref hw, .int (Gj 0), .int 0, .int (Gj 2), .int 0, .int 0, .int (Gj 5), .int (Gj 6), .int (Gj 7), .int (Gj 8), .int (Gj 9), .int ((Gj 10) + 1)])), (hw, wC kA Gj), (h9, rC R)] H := hP
          have hD : va_D (Aw [(h0, gC hw G), (hw, wC kA G), (h9, rC R)]) [(h0, .inr (0, [.ref hw, .int (Gj 0), .int 0, .int (Gj 2), .int 0, .int 0, .int (Gj 5), .int (Gj 6), .int (Gj 7), .int (Gj 8), .int (Gj 9), .int ((Gj 10) + 1)])), (hw, wC kA Gj), (h9, rC R)] := hD
          refine lv_iload_n hx hb dX0_makeHomed_81 rfl (lv_at hl 3 rfl) ?_
          have hP : va_P D vwCl [(h0, .inr (0, [.ref hw, .int (Gj 0), .int 0, .int (Gj 2), .int 0, .int 0, .int (Gj 5), .int (Gj 6), .int (Gj 7), .int (Gj 8), .int (Gj 9), .int ((Gj 10) + 1)])), (hw, wC kA Gj), (h9, rC R)] _ := hP.sub [0, 1, 2] rfl
          exact end_fi hx hb hrt hlk hP hS (by simp only [hmP]; rw [← hres]; first | rfl | (simp only [hmL, c_1, c_2, ↓reduceIte]; done)) (by intro h; have e9 : hmG G R p0 = mkG (Gj 0) 0 (Gj 2) 0 0 (Gj 5) (Gj 6) (Gj 7) (Gj 8) (Gj 9) ((Gj 10) + 1) (fun t => Gj (t + 11)) := (by first | (simp only [hmG]; rw [← hres]; simp only [hmL, hm1, c_1, c_2, ↓reduceIte, Bool.false_eq_true]; done) | (simp only [hmG]; rw [← hres]; simp only [hmL, hm1, c_1, c_2, ↓reduceIte, Bool.false_eq_true]; rfl) | (simp only [hmG]; rw [← hres]; simp [hmL, hm1, c_1, c_2]; done)); rw [e9]; exact h) dX0_makeHomed_82
      · exact absurd c_1 (fun h => h (cnt_ge (N := 40) e4 rfl (by omega) (by omega)))
    | succ n ih5 =>
      intro j Gj x3 x4 hj e4 hres H locs hP hD hS ls hl
      refine lv_iload hx hb dX0_makeHomed_5 (lv_at hl 4 rfl) ?_
      refine lv_bipush (v := 40) hx hb dX0_makeHomed_7 (by decide) ?_
      refine lv_icmp_ge (tgt := 49) hx hb dX0_makeHomed_9 (by decide) (fun c_3 => ?_) (fun c_3 => ?_)
      · exact absurd c_3 (cnt_nge (N := 40) e4 rfl (by decide) (by omega))
      · skip
        replace c_3 := nge_l c_3
        refine lv_aload_n hx hb dX0_makeHomed_12 rfl (lv_at hl 0 rfl) ?_
        refine va_get (ci := 0) (v := .int (Gj 0)) (C := RX0) (T := TX0) (N := 12) hx hb hts inX0 hown hK hP 0 rfl rfl 1 (by decide) (hts _ q_69) (fun _ h9 => h9) rfl dX0_makeHomed_13 ?_
        refine lv_if_eq (tgt := 49) hx hb dX0_makeHomed_16 (by decide) (fun c_4 => ?_) (fun c_4 => ?_)
        · skip
          refine lv_aload_n hx hb dX0_makeHomed_49 rfl (lv_at hl 0 rfl) ?_
          refine va_get (ci := 0) (v := .int (Gj 0)) (C := RX0) (T := TX0) (N := 12) hx hb hts inX0 hown hK hP 0 rfl rfl 1 (by decide) (hts _ q_69) (fun _ h9 => h9) rfl dX0_makeHomed_50 ?_
          refine lv_if_ne (tgt := 81) hx hb dX0_makeHomed_53 (by decide) (fun c_5 => ?_) (fun c_5 => ?_)
          · exact absurd c_4 c_5
          · skip
            refine lv_aload_n hx hb dX0_makeHomed_56 rfl (lv_at hl 0 rfl) ?_
            refine lv_iconst (v := 0) hx hb dX0_makeHomed_57 (by decide) ?_
            refine va_put (ci := 0) (v := .int 0) (ty := tyX0 2) (C := RX0) (T := TX0) (N := 12) hx hb hts inX0 tyX0 tyX0_ok nmX0 hown hK hP hD hS 0 rfl rfl 2 (by decide) (hts _ q_71) (fun _ h9 => h9) rfl (tyX0_ok 2 (by decide)) rfl rfl (Nat.le_of_ble_eq_true rfl) dX0_makeHomed_58 (fun H locs hP hD hS => ?_)
            have hP : va_P D vwCl [(h0, .inr (0, [.ref hw, .int (Gj 0), .int 0, .int (Gj 2), .int (Gj 3), .int (Gj 4), .int (Gj 5), .int (Gj 6), .int (Gj 7), .int (Gj 8), .int (Gj 9), .int (Gj 10)])), (hw, wC kA Gj), (h9, rC R)] H := hP
            have hD : va_D (Aw [(h0, gC hw G), (hw, wC kA G), (h9, rC R)]) [(h0, .inr (0, [.ref hw, .int (Gj 0), .int 0, .int (Gj 2), .int (Gj 3), .int (Gj 4), .int (Gj 5), .int (Gj 6), .int (Gj 7), .int (Gj 8), .int (Gj 9), .int (Gj 10)])), (hw, wC kA Gj), (h9, rC R)] := hD
            refine lv_aload_n hx hb dX0_makeHomed_61 rfl (lv_at hl 0 rfl) ?_
            refine lv_iconst (v := 0) hx hb dX0_makeHomed_62 (by decide) ?_
            refine va_put (ci := 0) (v := .int 0) (ty := tyX0 5) (C := RX0) (T := TX0) (N := 12) hx hb hts inX0 tyX0 tyX0_ok nmX0 hown hK hP hD hS 0 rfl rfl 5 (by decide) (hts _ q_77) (fun _ h9 => h9) rfl (tyX0_ok 5 (by decide)) rfl rfl (Nat.le_of_ble_eq_true rfl) dX0_makeHomed_63 (fun H locs hP hD hS => ?_)
            have hP : va_P D vwCl [(h0, .inr (0, [.ref hw, .int (Gj 0), .int 0, .int (Gj 2), .int (Gj 3), .int 0, .int (Gj 5), .int (Gj 6), .int (Gj 7), .int (Gj 8), .int (Gj 9), .int (Gj 10)])), (hw, wC kA Gj), (h9, rC R)] H := hP
            have hD : va_D (Aw [(h0, gC hw G), (hw, wC kA G), (h9, rC R)]) [(h0, .inr (0, [.ref hw, .int (Gj 0), .int 0, .int (Gj 2), .int (Gj 3), .int 0, .int (Gj 5), .int (Gj 6), .int (Gj 7), .int (Gj 8), .int (Gj 9), .int (Gj 10)])), (hw, wC kA Gj), (h9, rC R)] := hD
            refine lv_aload_n hx hb dX0_makeHomed_66 rfl (lv_at hl 0 rfl) ?_
            refine lv_iconst (v := 0) hx hb dX0_makeHomed_67 (by decide) ?_
            refine va_put (ci := 0) (v := .int 0) (ty := tyX0 4) (C := RX0) (T := TX0) (N := 12) hx hb hts inX0 tyX0 tyX0_ok nmX0 hown hK hP hD hS 0 rfl rfl 4 (by decide) (hts _ q_76) (fun _ h9 => h9) rfl (tyX0_ok 4 (by decide)) rfl rfl (Nat.le_of_ble_eq_true rfl) dX0_makeHomed_68 (fun H locs hP hD hS => ?_)
            have hP : va_P D vwCl [(h0, .inr (0, [.ref hw, .int (Gj 0), .int 0, .int (Gj 2), .int 0, .int 0, .int (Gj 5), .int (Gj 6), .int (Gj 7), .int (Gj 8), .int (Gj 9), .int (Gj 10)])), (hw, wC kA Gj), (h9, rC R)] H := hP
            have hD : va_D (Aw [(h0, gC hw G), (hw, wC kA G), (h9, rC R)]) [(h0, .inr (0, [.ref hw, .int (Gj 0), .int 0, .int (Gj 2), .int 0, .int 0, .int (Gj 5), .int (Gj 6), .int (Gj 7), .int (Gj 8), .int (Gj 9), .int (Gj 10)])), (hw, wC kA Gj), (h9, rC R)] := hD
            refine lv_aload_n hx hb dX0_makeHomed_71 rfl (lv_at hl 0 rfl) ?_
            refine lv_dup hx hb dX0_makeHomed_72 rfl ?_
            refine va_get (ci := 0) (v := .int (Gj 10)) (C := RX0) (T := TX0) (N := 12) hx hb hts inX0 hown hK hP 0 rfl rfl 11 (by decide) (hts _ q_85) (fun _ h9 => h9) rfl dX0_makeHomed_73 ?_
            refine lv_iconst (v := 1) hx hb dX0_makeHomed_76 (by decide) ?_
            refine lv_iadd hx hb dX0_makeHomed_77 ?_
            refine va_put (ci := 0) (v := .int ((Gj 10) + 1)) (ty := tyX0 11) (C := RX0) (T := TX0) (N := 12) hx hb hts inX0 tyX0 tyX0_ok nmX0 hown hK hP hD hS 0 rfl rfl 11 (by decide) (hts _ q_85) (fun _ h9 => h9) rfl (tyX0_ok 11 (by decide)) rfl rfl (Nat.le_of_ble_eq_true rfl) dX0_makeHomed_78 (fun H locs hP hD hS => ?_)
            have hP : va_P D vwCl [(h0, .inr (0, [.ref hw, .int (Gj 0), .int 0, .int (Gj 2), .int 0, .int 0, .int (Gj 5), .int (Gj 6), .int (Gj 7), .int (Gj 8), .int (Gj 9), .int ((Gj 10) + 1)])), (hw, wC kA Gj), (h9, rC R)] H := hP
            have hD : va_D (Aw [(h0, gC hw G), (hw, wC kA G), (h9, rC R)]) [(h0, .inr (0, [.ref hw, .int (Gj 0), .int 0, .int (Gj 2), .int 0, .int 0, .int (Gj 5), .int (Gj 6), .int (Gj 7), .int (Gj 8), .int (Gj 9), .int ((Gj 10) + 1)])), (hw, wC kA Gj), (h9, rC R)] := hD
            refine lv_iload_n hx hb dX0_makeHomed_81 rfl (lv_at hl 3 rfl) ?_
            have hP : va_P D vwCl [(h0, .inr (0, [.ref hw, .int (Gj 0), .int 0, .int (Gj 2), .int 0, .int 0, .int (Gj 5), .int (Gj 6), .int (Gj 7), .int (Gj 8), .int (Gj 9), .int ((Gj 10) + 1)])), (hw, wC kA Gj), (h9, rC R)] _ := hP.sub [0, 1, 2] rfl
            exact end_fi hx hb hrt hlk hP hS (by simp only [hmP]; rw [← hres]; first | rfl | (simp only [hmL, c_3, c_4, c_5, ↓reduceIte]; done)) (by intro h; have e9 : hmG G R p0 = mkG (Gj 0) 0 (Gj 2) 0 0 (Gj 5) (Gj 6) (Gj 7) (Gj 8) (Gj 9) ((Gj 10) + 1) (fun t => Gj (t + 11)) := (by first | (simp only [hmG]; rw [← hres]; simp only [hmL, hm1, c_3, c_4, c_5, ↓reduceIte, Bool.false_eq_true]; done) | (simp only [hmG]; rw [← hres]; simp only [hmL, hm1, c_3, c_4, c_5, ↓reduceIte, Bool.false_eq_true]; rfl) | (simp only [hmG]; rw [← hres]; simp [hmL, hm1, c_3, c_4, c_5]; done)); rw [e9]; exact h) dX0_makeHomed_82
        · skip
          refine lv_aload_n hx hb dX0_makeHomed_19 rfl (lv_at hl 0 rfl) ?_
          refine lv_iconst (v := (-1)) hx hb dX0_makeHomed_20 (by decide) ?_
          refine lv_iload_n hx hb dX0_makeHomed_21 rfl (lv_at hl 1 rfl) ?_
          refine lv_iload_n hx hb dX0_makeHomed_22 rfl (lv_at hl 3 rfl) ?_
          refine lv_isub hx hb dX0_makeHomed_23 ?_
          refine lv_aload_n hx hb dX0_makeHomed_24 rfl (lv_at hl 2 rfl) ?_
          refine cs_fs (runV (As := [.int (-1), .int (p0 - x3), .ref h9]) (rest := []) ⟨hx, hb, hml, hown, hts⟩ (m_X0_makeStep l D kA h0 hw Gj h9 R (-1) (p0 - x3) ) q_446 q_384 q_385 q_4 q_386 hd_X0_makeStep ⟨rfl, rfl⟩ ⟨Nat.le_of_ble_eq_true rfl, Nat.le_of_ble_eq_true rfl⟩ hK (ws := [(h0, gC hw Gj), (hw, wC kA Gj), (h9, rC R)]) (hP.sub [0, 1, 2] rfl) (hD.sub [0, 1, 2] (by decide) rfl) 0 (ci := 0) (C := RX0) (T := TX0) (N := 12) rfl rfl rfl hl.1 rfl (Nat.le_of_ble_eq_true rfl) dX0_makeHomed_25 ⟨Nat.zero_le _, Nat.zero_le _⟩) hS (aw_sub hD (isC := [0, 1, 2]) rfl) (fun H locs hP1 hk1 hS => ?_)
          obtain ⟨hP, hD⟩ := jn (wr := []) (w1 := [(h0, gC hw (msG Gj R (-1) (p0 - x3))), (hw, wC kA (msG Gj R (-1) (p0 - x3))), (h9, rC R)]) hP hD [0, 1, 2] [] rfl rfl (by decide) hk1 hP1 rfl
          have hP : va_P D vwCl [(h0, gC hw (msG Gj R (-1) (p0 - x3))), (hw, wC kA (msG Gj R (-1) (p0 - x3))), (h9, rC R)] H := hP
          have hD : va_D (Aw [(h0, gC hw G), (hw, wC kA G), (h9, rC R)]) [(h0, gC hw (msG Gj R (-1) (p0 - x3))), (hw, wC kA (msG Gj R (-1) (p0 - x3))), (h9, rC R)] := hD
          refine lv_istore (lv' := [(5, .int (msR Gj R (-1) (p0 - x3))), (0, .ref h0), (1, .int p0), (2, .ref h9), (3, .int x3), (4, .int x4)]) hx hb dX0_makeHomed_28 hl (by decide) rfl (fun ls hl => ?_)
          refine lv_iload hx hb dX0_makeHomed_30 (lv_at hl 0 rfl) ?_
          refine lv_if_ne (tgt := 38) hx hb dX0_makeHomed_32 (by decide) (fun c_6 => ?_) (fun c_6 => ?_)
          · skip
            refine lv_iload_n hx hb dX0_makeHomed_38 rfl (lv_at hl 4 rfl) ?_
            refine lv_iload hx hb dX0_makeHomed_39 (lv_at hl 0 rfl) ?_
            refine lv_iadd hx hb dX0_makeHomed_41 ?_
            refine lv_istore_n (lv' := [(3, .int (x3 + (msR Gj R (-1) (p0 - x3)))), (5, .int (msR Gj R (-1) (p0 - x3))), (0, .ref h0), (1, .int p0), (2, .ref h9), (4, .int x4)]) hx hb dX0_makeHomed_42 rfl hl (by decide) rfl (fun ls hl => ?_)
            refine lv_iinc (v := x4 + 1) (lv' := [(4, .int (x4 + 1)), (3, .int (x3 + (msR Gj R (-1) (p0 - x3)))), (5, .int (msR Gj R (-1) (p0 - x3))), (0, .ref h0), (1, .int p0), (2, .ref h9)]) hx hb dX0_makeHomed_43 hl (k := 5) rfl (by first | rfl | exact congrArg (_ + ·) (by decide)) (by decide) rfl (fun ls hl => ?_)
            refine lv_goto (tgt := 5) hx hb dX0_makeHomed_46 (by decide) ?_
            exact ih5 (j + 1) (msG Gj R (-1) (p0 - x3)) (x3 + (msR Gj R (-1) (p0 - x3))) (x4 + 1) (by omega) (by rw [e4]; exact nI_1 j) (by rw [← hres]; simp only [hmL, c_3, c_4, c_6, ↓reduceIte]) _ _ (hP.sub [0, 1, 2] rfl) (hD.sub [0, 1, 2] (by decide) rfl) hS ls (lv_sub hl [3, 4, 5, 1, 0] rfl)
          · skip
            refine lv_goto (tgt := 49) hx hb dX0_makeHomed_35 (by decide) ?_
            refine lv_aload_n hx hb dX0_makeHomed_49 rfl (lv_at hl 1 rfl) ?_
            refine va_get (ci := 0) (v := .int ((msG Gj R (-1) (p0 - x3)) 0)) (C := RX0) (T := TX0) (N := 12) hx hb hts inX0 hown hK hP 0 rfl rfl 1 (by decide) (hts _ q_69) (fun _ h9 => h9) rfl dX0_makeHomed_50 ?_
            refine lv_if_ne (tgt := 81) hx hb dX0_makeHomed_53 (by decide) (fun c_7 => ?_) (fun c_7 => ?_)
            · skip
              refine lv_iload_n hx hb dX0_makeHomed_81 rfl (lv_at hl 4 rfl) ?_
              have hP : va_P D vwCl [(h0, gC hw (msG Gj R (-1) (p0 - x3))), (hw, wC kA (msG Gj R (-1) (p0 - x3))), (h9, rC R)] _ := hP.sub [0, 1, 2] rfl
              exact end_fi hx hb hrt hlk hP hS (by simp only [hmP]; rw [← hres]; first | rfl | (simp only [hmL, c_3, c_4, c_6, c_7, ↓reduceIte]; done)) (by intro h; have e9 : hmG G R p0 = (msG Gj R (-1) (p0 - x3)) := (by first | (simp only [hmG]; rw [← hres]; simp only [hmL, hm1, c_3, c_4, c_6, c_7, ↓reduceIte, Bool.false_eq_true]; done) | (simp only [hmG]; rw [← hres]; simp only [hmL, hm1, c_3, c_4, c_6, c_7, ↓reduceIte, Bool.false_eq_true]; rfl) | (simp only [hmG]; rw [← hres]; simp [hmL, hm1, c_3, c_4, c_6, c_7]; done)); rw [e9]; exact h) dX0_makeHomed_82
            · skip
              refine lv_aload_n hx hb dX0_makeHomed_56 rfl (lv_at hl 1 rfl) ?_
              refine lv_iconst (v := 0) hx hb dX0_makeHomed_57 (by decide) ?_
              refine va_put (ci := 0) (v := .int 0) (ty := tyX0 2) (C := RX0) (T := TX0) (N := 12) hx hb hts inX0 tyX0 tyX0_ok nmX0 hown hK hP hD hS 0 rfl rfl 2 (by decide) (hts _ q_71) (fun _ h9 => h9) rfl (tyX0_ok 2 (by decide)) rfl rfl (Nat.le_of_ble_eq_true rfl) dX0_makeHomed_58 (fun H locs hP hD hS => ?_)
              have hP : va_P D vwCl [(h0, .inr (0, [.ref hw, .int ((msG Gj R (-1) (p0 - x3)) 0), .int 0, .int ((msG Gj R (-1) (p0 - x3)) 2), .int ((msG Gj R (-1) (p0 - x3)) 3), .int ((msG Gj R (-1) (p0 - x3)) 4), .int ((msG Gj R (-1) (p0 - x3)) 5), .int ((msG Gj R (-1) (p0 - x3)) 6), .int ((msG Gj R (-1) (p0 - x3)) 7), .int ((msG Gj R (-1) (p0 - x3)) 8), .int ((msG Gj R (-1) (p0 - x3)) 9), .int ((msG Gj R (-1) (p0 - x3)) 10)])), (hw, wC kA (msG Gj R (-1) (p0 - x3))), (h9, rC R)] H := hP
              have hD : va_D (Aw [(h0, gC hw G), (hw, wC kA G), (h9, rC R)]) [(h0, .inr (0, [.ref hw, .int ((msG Gj R (-1) (p0 - x3)) 0), .int 0, .int ((msG Gj R (-1) (p0 - x3)) 2), .int ((msG Gj R (-1) (p0 - x3)) 3), .int ((msG Gj R (-1) (p0 - x3)) 4), .int ((msG Gj R (-1) (p0 - x3)) 5), .int ((msG Gj R (-1) (p0 - x3)) 6), .int ((msG Gj R (-1) (p0 - x3)) 7), .int ((msG Gj R (-1) (p0 - x3)) 8), .int ((msG Gj R (-1) (p0 - x3)) 9), .int ((msG Gj R (-1) (p0 - x3)) 10)])), (hw, wC kA (msG Gj R (-1) (p0 - x3))), (h9, rC R)] := hD
              refine lv_aload_n hx hb dX0_makeHomed_61 rfl (lv_at hl 1 rfl) ?_
              refine lv_iconst (v := 0) hx hb dX0_makeHomed_62 (by decide) ?_
              refine va_put (ci := 0) (v := .int 0) (ty := tyX0 5) (C := RX0) (T := TX0) (N := 12) hx hb hts inX0 tyX0 tyX0_ok nmX0 hown hK hP hD hS 0 rfl rfl 5 (by decide) (hts _ q_77) (fun _ h9 => h9) rfl (tyX0_ok 5 (by decide)) rfl rfl (Nat.le_of_ble_eq_true rfl) dX0_makeHomed_63 (fun H locs hP hD hS => ?_)
              have hP : va_P D vwCl [(h0, .inr (0, [.ref hw, .int ((msG Gj R (-1) (p0 - x3)) 0), .int 0, .int ((msG Gj R (-1) (p0 - x3)) 2), .int ((msG Gj R (-1) (p0 - x3)) 3), .int 0, .int ((msG Gj R (-1) (p0 - x3)) 5), .int ((msG Gj R (-1) (p0 - x3)) 6), .int ((msG Gj R (-1) (p0 - x3)) 7), .int ((msG Gj R (-1) (p0 - x3)) 8), .int ((msG Gj R (-1) (p0 - x3)) 9), .int ((msG Gj R (-1) (p0 - x3)) 10)])), (hw, wC kA (msG Gj R (-1) (p0 - x3))), (h9, rC R)] H := hP
              have hD : va_D (Aw [(h0, gC hw G), (hw, wC kA G), (h9, rC R)]) [(h0, .inr (0, [.ref hw, .int ((msG Gj R (-1) (p0 - x3)) 0), .int 0, .int ((msG Gj R (-1) (p0 - x3)) 2), .int ((msG Gj R (-1) (p0 - x3)) 3), .int 0, .int ((msG Gj R (-1) (p0 - x3)) 5), .int ((msG Gj R (-1) (p0 - x3)) 6), .int ((msG Gj R (-1) (p0 - x3)) 7), .int ((msG Gj R (-1) (p0 - x3)) 8), .int ((msG Gj R (-1) (p0 - x3)) 9), .int ((msG Gj R (-1) (p0 - x3)) 10)])), (hw, wC kA (msG Gj R (-1) (p0 - x3))), (h9, rC R)] := hD
              refine lv_aload_n hx hb dX0_makeHomed_66 rfl (lv_at hl 1 rfl) ?_
              refine lv_iconst (v := 0) hx hb dX0_makeHomed_67 (by decide) ?_
              refine va_put (ci := 0) (v := .int 0) (ty := tyX0 4) (C := RX0) (T := TX0) (N := 12) hx hb hts inX0 tyX0 tyX0_ok nmX0 hown hK hP hD hS 0 rfl rfl 4 (by decide) (hts _ q_76) (fun _ h9 => h9) rfl (tyX0_ok 4 (by decide)) rfl rfl (Nat.le_of_ble_eq_true rfl) dX0_makeHomed_68 (fun H locs hP hD hS => ?_)
              have hP : va_P D vwCl [(h0, .inr (0, [.ref hw, .int ((msG Gj R (-1) (p0 - x3)) 0), .int 0, .int ((msG Gj R (-1) (p0 - x3)) 2), .int 0, .int 0, .int ((msG Gj R (-1) (p0 - x3)) 5), .int ((msG Gj R (-1) (p0 - x3)) 6), .int ((msG Gj R (-1) (p0 - x3)) 7), .int ((msG Gj R (-1) (p0 - x3)) 8), .int ((msG Gj R (-1) (p0 - x3)) 9), .int ((msG Gj R (-1) (p0 - x3)) 10)])), (hw, wC kA (msG Gj R (-1) (p0 - x3))), (h9, rC R)] H := hP
              have hD : va_D (Aw [(h0, gC hw G), (hw, wC kA G), (h9, rC R)]) [(h0, .inr (0, [.ref hw, .int ((msG Gj R (-1) (p0 - x3)) 0), .int 0, .int ((msG Gj R (-1) (p0 - x3)) 2), .int 0, .int 0, .int ((msG Gj R (-1) (p0 - x3)) 5), .int ((msG Gj R (-1) (p0 - x3)) 6), .int ((msG Gj R (-1) (p0 - x3)) 7), .int ((msG Gj R (-1) (p0 - x3)) 8), .int ((msG Gj R (-1) (p0 - x3)) 9), .int ((msG Gj R (-1) (p0 - x3)) 10)])), (hw, wC kA (msG Gj R (-1) (p0 - x3))), (h9, rC R)] := hD
              refine lv_aload_n hx hb dX0_makeHomed_71 rfl (lv_at hl 1 rfl) ?_
              refine lv_dup hx hb dX0_makeHomed_72 rfl ?_
              refine va_get (ci := 0) (v := .int ((msG Gj R (-1) (p0 - x3)) 10)) (C := RX0) (T := TX0) (N := 12) hx hb hts inX0 hown hK hP 0 rfl rfl 11 (by decide) (hts _ q_85) (fun _ h9 => h9) rfl dX0_makeHomed_73 ?_
              refine lv_iconst (v := 1) hx hb dX0_makeHomed_76 (by decide) ?_
              refine lv_iadd hx hb dX0_makeHomed_77 ?_
              refine va_put (ci := 0) (v := .int (((msG Gj R (-1) (p0 - x3)) 10) + 1)) (ty := tyX0 11) (C := RX0) (T := TX0) (N := 12) hx hb hts inX0 tyX0 tyX0_ok nmX0 hown hK hP hD hS 0 rfl rfl 11 (by decide) (hts _ q_85) (fun _ h9 => h9) rfl (tyX0_ok 11 (by decide)) rfl rfl (Nat.le_of_ble_eq_true rfl) dX0_makeHomed_78 (fun H locs hP hD hS => ?_)
              have hP : va_P D vwCl [(h0, .inr (0, [.ref hw, .int ((msG Gj R (-1) (p0 - x3)) 0), .int 0, .int ((msG Gj R (-1) (p0 - x3)) 2), .int 0, .int 0, .int ((msG Gj R (-1) (p0 - x3)) 5), .int ((msG Gj R (-1) (p0 - x3)) 6), .int ((msG Gj R (-1) (p0 - x3)) 7), .int ((msG Gj R (-1) (p0 - x3)) 8), .int ((msG Gj R (-1) (p0 - x3)) 9), .int (((msG Gj R (-1) (p0 - x3)) 10) + 1)])), (hw, wC kA (msG Gj R (-1) (p0 - x3))), (h9, rC R)] H := hP
              have hD : va_D (Aw [(h0, gC hw G), (hw, wC kA G), (h9, rC R)]) [(h0, .inr (0, [.ref hw, .int ((msG Gj R (-1) (p0 - x3)) 0), .int 0, .int ((msG Gj R (-1) (p0 - x3)) 2), .int 0, .int 0, .int ((msG Gj R (-1) (p0 - x3)) 5), .int ((msG Gj R (-1) (p0 - x3)) 6), .int ((msG Gj R (-1) (p0 - x3)) 7), .int ((msG Gj R (-1) (p0 - x3)) 8), .int ((msG Gj R (-1) (p0 - x3)) 9), .int (((msG Gj R (-1) (p0 - x3)) 10) + 1)])), (hw, wC kA (msG Gj R (-1) (p0 - x3))), (h9, rC R)] := hD
              refine lv_iload_n hx hb dX0_makeHomed_81 rfl (lv_at hl 4 rfl) ?_
              have hP : va_P D vwCl [(h0, .inr (0, [.ref hw, .int ((msG Gj R (-1) (p0 - x3)) 0), .int 0, .int ((msG Gj R (-1) (p0 - x3)) 2), .int 0, .int 0, .int ((msG Gj R (-1) (p0 - x3)) 5), .int ((msG Gj R (-1) (p0 - x3)) 6), .int ((msG Gj R (-1) (p0 - x3)) 7), .int ((msG Gj R (-1) (p0 - x3)) 8), .int ((msG Gj R (-1) (p0 - x3)) 9), .int (((msG Gj R (-1) (p0 - x3)) 10) + 1)])), (hw, wC kA (msG Gj R (-1) (p0 - x3))), (h9, rC R)] _ := hP.sub [0, 1, 2] rfl
              exact end_fi hx hb hrt hlk hP hS (by simp only [hmP]; rw [← hres]; first | rfl | (simp only [hmL, c_3, c_4, c_6, c_7, ↓reduceIte]; done)) (by intro h; have e9 : hmG G R p0 = mkG ((msG Gj R (-1) (p0 - x3)) 0) 0 ((msG Gj R (-1) (p0 - x3)) 2) 0 0 ((msG Gj R (-1) (p0 - x3)) 5) ((msG Gj R (-1) (p0 - x3)) 6) ((msG Gj R (-1) (p0 - x3)) 7) ((msG Gj R (-1) (p0 - x3)) 8) ((msG Gj R (-1) (p0 - x3)) 9) (((msG Gj R (-1) (p0 - x3)) 10) + 1) (fun t => (msG Gj R (-1) (p0 - x3)) (t + 11)) := (by first | (simp only [hmG]; rw [← hres]; simp only [hmL, hm1, c_3, c_4, c_6, c_7, ↓reduceIte, Bool.false_eq_true]; done) | (simp only [hmG]; rw [← hres]; simp only [hmL, hm1, c_3, c_4, c_6, c_7, ↓reduceIte, Bool.false_eq_true]; rfl) | (simp only [hmG]; rw [← hres]; simp [hmL, hm1, c_3, c_4, c_6, c_7]; done)); rw [e9]; exact h) dX0_makeHomed_82
  exact loop_5 40 0 G 0 0 (by omega) (nI_0.symm) (rfl) _ _ (hP.sub [0, 1, 2] rfl) (hD.sub [0, 1, 2] (by decide) rfl) hS ls (lv_sub hl [2, 3, 4, 1, 0] rfl)

theorem hd_X0_costOfWay : yX0_costOfWay.cls ≠ "java/lang/invoke/MethodHandle" ∧ yX0_costOfWay.cls ≠ "java/lang/invoke/VarHandle" ∧ (parseMethodDescriptor yX0_costOfWay.desc).map (fun d => d.parameters.length) = some 4 := by decide +kernel
set_option maxRecDepth 100000 in
set_option maxHeartbeats 4000000 in
theorem m_X0_costOfWay (l : Launch) (D : va_G) (kA : Nat → Nat) (h0 : Nat) (hw : Nat) (G : Nat → Int32) (h9 : Nat) (R : Nat → Int32) (p0 : Int32) (p1 : Int32) (p2 : Int32) : Met l yX0_costOfWay (Cond.code yX0_costOfWay cX0_costOfWay 10 (some .int) :: AW) ({ frames := 1, cells := 0, slots := 0, locals := 24 } : Room) (Pz [.ref h0, .int p0, .int p1, .int p2, .ref h9] D (TY kA) [(h0, gC hw G), (hw, wC kA G), (h9, rC R)]) (pQ (some (.int (costG G R p0 p1 p2)))) 0 0 (fun _ => False) := by
  refine MetZ (by decide +kernel) (Nat.le_of_ble_eq_true rfl) ?_
  intro p e s m below meth c ls hx hb hrt hts hown hml hlk hnm hP hK hD hS hl
  have hl : lv_has ls 10 [(0, .ref h0), (1, .int p0), (2, .int p1), (3, .int p2), (4, .ref h9)] := hl
  refine lv_aload_n hx hb dX0_costOfWay_0 rfl (lv_at hl 0 rfl) ?_
  refine va_get (ci := 0) (v := .int (G 1)) (C := RX0) (T := TX0) (N := 12) hx hb hts inX0 hown hK hP 0 rfl rfl 2 (by decide) (hts _ q_71) (fun _ h9 => h9) rfl dX0_costOfWay_1 ?_
  refine lv_istore (lv' := [(5, .int (G 1)), (0, .ref h0), (1, .int p0), (2, .int p1), (3, .int p2), (4, .ref h9)]) hx hb dX0_costOfWay_4 hl (by decide) rfl (fun ls hl => ?_)
  refine lv_iconst (v := 0) hx hb dX0_costOfWay_6 (by decide) ?_
  refine lv_istore (lv' := [(6, .int 0), (5, .int (G 1)), (0, .ref h0), (1, .int p0), (2, .int p1), (3, .int p2), (4, .ref h9)]) hx hb dX0_costOfWay_7 hl (by decide) rfl (fun ls hl => ?_)
  refine lv_iconst (v := 0) hx hb dX0_costOfWay_9 (by decide) ?_
  refine lv_istore (lv' := [(7, .int 0), (6, .int 0), (5, .int (G 1)), (0, .ref h0), (1, .int p0), (2, .int p1), (3, .int p2), (4, .ref h9)]) hx hb dX0_costOfWay_10 hl (by decide) rfl (fun ls hl => ?_)
  have loop_12 : ∀ (n : Nat) (j : Nat) (x5 : Int32) (x6 : Int32) (x7 : Int32) (hj : j + n = 24) (e7 : x7 = nI j) (hres : coL G R p0 p1 p2 n x5 x7 x6 = costG G R p0 p1 p2), ∀ ls : Array Slot, lv_has ls 10 [(0, .ref h0), (1, .int p0), (2, .int p1), (3, .int p2), (4, .ref h9), (5, .int x5), (6, .int x6), (7, .int x7)] → W p l e ({ frames := 1, cells := 0, slots := 0, locals := 24 } : Room) s m [.ref h0, .int p0, .int p1, .int p2, .ref h9].toArray below meth c s.heap [] 0 0 (MQ below (pQ (some (.int (costG G R p0 p1 p2)))) [.ref h0, .int p0, .int p1, .int p2, .ref h9].toArray s 0 0 (fun _ => False)) (F0 m 12 ls []) := by
    clear hl
    intro n
    induction n with
    | zero =>
      intro j x5 x6 x7 hj e7 hres  ls hl
      refine lv_iload hx hb dX0_costOfWay_12 (lv_at hl 7 rfl) ?_
      refine lv_bipush (v := 24) hx hb dX0_costOfWay_14 (by decide) ?_
      refine lv_icmp_ge (tgt := 85) hx hb dX0_costOfWay_16 (by decide) (fun c_1 => ?_) (fun c_1 => ?_)
      · skip
        replace c_1 := ge_n c_1
        refine lv_iload hx hb dX0_costOfWay_85 (lv_at hl 6 rfl) ?_
        exact end_pi hx hb hrt hlk (by rw [← hres]; first | rfl | (simp only [coL, c_1, ↓reduceIte]; done)) dX0_costOfWay_87
      · exact absurd c_1 (fun h => h (cnt_ge (N := 24) e7 rfl (by omega) (by omega)))
    | succ n ih12 =>
      intro j x5 x6 x7 hj e7 hres  ls hl
      refine lv_iload hx hb dX0_costOfWay_12 (lv_at hl 7 rfl) ?_
      refine lv_bipush (v := 24) hx hb dX0_costOfWay_14 (by decide) ?_
      refine lv_icmp_ge (tgt := 85) hx hb dX0_costOfWay_16 (by decide) (fun c_2 => ?_) (fun c_2 => ?_)
      · exact absurd c_2 (cnt_nge (N := 24) e7 rfl (by decide) (by omega))
      · skip
        replace c_2 := nge_l c_2
        refine lv_iload hx hb dX0_costOfWay_19 (lv_at hl 5 rfl) ?_
        refine lv_iload_n hx hb dX0_costOfWay_21 rfl (lv_at hl 1 rfl) ?_
        refine lv_icmp_eq (tgt := 85) hx hb dX0_costOfWay_22 (by decide) (fun c_3 => ?_) (fun c_3 => ?_)
        · skip
          refine lv_iload hx hb dX0_costOfWay_85 (lv_at hl 6 rfl) ?_
          exact end_pi hx hb hrt hlk (by rw [← hres]; first | rfl | (simp only [coL, c_2, c_3, ↓reduceIte]; done)) dX0_costOfWay_87
        · skip
          refine lv_iload hx hb dX0_costOfWay_25 (lv_at hl 5 rfl) ?_
          refine lv_iload_n hx hb dX0_costOfWay_27 rfl (lv_at hl 2 rfl) ?_
          refine cs_p (runS (As := [.int x5, .int p1]) (rest := []) ⟨hx, hb, hml, hown, hts⟩ (m_X0_toothBy l D kA x5 p1 ) q_324 q_325 q_4 q_326 hd_X0_toothBy ⟨rfl, rfl⟩ ⟨Nat.le_of_ble_eq_true rfl, Nat.le_of_ble_eq_true rfl⟩ hK (ws := []) (hP.sub [] rfl) (hD.sub [] (by decide) rfl) rfl hl.1 rfl (Nat.le_of_ble_eq_true rfl) dX0_costOfWay_28 ⟨Nat.zero_le _, Nat.zero_le _⟩) ?_
          refine lv_istore (lv' := [(8, .int (tW x5 p1)), (0, .ref h0), (1, .int p0), (2, .int p1), (3, .int p2), (4, .ref h9), (5, .int x5), (6, .int x6), (7, .int x7)]) hx hb dX0_costOfWay_31 hl (by decide) rfl (fun ls hl => ?_)
          refine lv_iload hx hb dX0_costOfWay_33 (lv_at hl 0 rfl) ?_
          refine lv_iload_n hx hb dX0_costOfWay_35 rfl (lv_at hl 4 rfl) ?_
          refine lv_icmp_ne (tgt := 43) hx hb dX0_costOfWay_36 (by decide) (fun c_4 => ?_) (fun c_4 => ?_)
          · skip
            refine lv_aload_n hx hb dX0_costOfWay_43 rfl (lv_at hl 1 rfl) ?_
            refine lv_iload hx hb dX0_costOfWay_44 (lv_at hl 0 rfl) ?_
            refine cs_p (runV (As := [.int (tW x5 p1)]) (rest := []) ⟨hx, hb, hml, hown, hts⟩ (m_X0_wearOf l D kA h0 hw (G 0) (G 1) (G 2) (G 3) (G 4) (G 5) (G 6) (G 7) (G 8) (G 9) (G 10) (fun t => G (t + 11)) (tW x5 p1) ) q_327 q_328 q_329 q_4 q_330 hd_X0_wearOf ⟨rfl, rfl⟩ ⟨Nat.le_of_ble_eq_true rfl, Nat.le_of_ble_eq_true rfl⟩ hK (ws := [(h0, .inr (0, [.ref hw, .int (G 0), .int (G 1), .int (G 2), .int (G 3), .int (G 4), .int (G 5), .int (G 6), .int (G 7), .int (G 8), .int (G 9), .int (G 10)])), (hw, .inl (kA 0, 24, .inl (fun t => G (t + 11))))]) (hP.sub [0, 1] rfl) (hD.sub [0, 1] (by decide) rfl) 0 (ci := 0) (C := RX0) (T := TX0) (N := 12) rfl rfl rfl hl.1 rfl (Nat.le_of_ble_eq_true rfl) dX0_costOfWay_46 ⟨Nat.zero_le _, Nat.zero_le _⟩) ?_
            refine lv_istore (lv' := [(9, .int (wrF (fun t => G (t + 11)) (tW x5 p1))), (8, .int (tW x5 p1)), (0, .ref h0), (1, .int p0), (2, .int p1), (3, .int p2), (4, .ref h9), (5, .int x5), (6, .int x6), (7, .int x7)]) hx hb dX0_costOfWay_49 hl (by decide) rfl (fun ls hl => ?_)
            refine lv_iload hx hb dX0_costOfWay_51 (lv_at hl 8 rfl) ?_
            refine lv_aload_n hx hb dX0_costOfWay_53 rfl (lv_at hl 2 rfl) ?_
            refine lv_iload hx hb dX0_costOfWay_54 (lv_at hl 0 rfl) ?_
            refine lv_aload_n hx hb dX0_costOfWay_56 rfl (lv_at hl 2 rfl) ?_
            refine va_get (ci := 0) (v := .int (G 5)) (C := RX0) (T := TX0) (N := 12) hx hb hts inX0 hown hK hP 0 rfl rfl 6 (by decide) (hts _ q_78) (fun _ h9 => h9) rfl dX0_costOfWay_57 ?_
            refine lv_iload hx hb dX0_costOfWay_60 (lv_at hl 9 rfl) ?_
            refine lv_isub hx hb dX0_costOfWay_62 ?_
            refine lv_aload hx hb dX0_costOfWay_63 (lv_at hl 6 rfl) ?_
            refine cs_p (runV (As := [.int (wrF (fun t => G (t + 11)) (tW x5 p1)), .int ((G 5) - x7), .ref h9]) (rest := [.int x6]) ⟨hx, hb, hml, hown, hts⟩ (m_X0_tollWith l D kA h0 hw (G 0) (G 1) (G 2) (G 3) (G 4) (G 5) (G 6) (G 7) (G 8) (G 9) (G 10) h9 (R 0) (R 1) (R 2) (R 3) (R 4) (R 5) (wrF (fun t => G (t + 11)) (tW x5 p1)) ((G 5) - x7) ) q_331 q_332 q_333 q_4 q_334 hd_X0_tollWith ⟨rfl, rfl⟩ ⟨Nat.le_of_ble_eq_true rfl, Nat.le_of_ble_eq_true rfl⟩ hK (ws := [(h0, .inr (0, [.ref hw, .int (G 0), .int (G 1), .int (G 2), .int (G 3), .int (G 4), .int (G 5), .int (G 6), .int (G 7), .int (G 8), .int (G 9), .int (G 10)])), (h9, .inr (3, [.int (R 0), .int (R 1), .int (R 2), .int (R 3), .int (R 4), .int (R 5)]))]) (hP.sub [0, 2] rfl) (hD.sub [0, 2] (by decide) rfl) 0 (ci := 0) (C := RX0) (T := TX0) (N := 12) rfl rfl rfl hl.1 rfl (Nat.le_of_ble_eq_true rfl) dX0_costOfWay_65 ⟨Nat.zero_le _, Nat.zero_le _⟩) ?_
            refine lv_iadd hx hb dX0_costOfWay_68 ?_
            refine lv_istore (lv' := [(6, .int (x6 + (tlF (G 2) (wrF (fun t => G (t + 11)) (tW x5 p1)) ((G 5) - x7) (R 1)))), (9, .int (wrF (fun t => G (t + 11)) (tW x5 p1))), (8, .int (tW x5 p1)), (0, .ref h0), (1, .int p0), (2, .int p1), (3, .int p2), (4, .ref h9), (5, .int x5), (7, .int x7)]) hx hb dX0_costOfWay_69 hl (by decide) rfl (fun ls hl => ?_)
            refine lv_iload hx hb dX0_costOfWay_71 (lv_at hl 8 rfl) ?_
            refine lv_iload_n hx hb dX0_costOfWay_73 rfl (lv_at hl 5 rfl) ?_
            refine cs_p (runS (As := [.int x5, .int p1]) (rest := []) ⟨hx, hb, hml, hown, hts⟩ (m_X0_nextPlace l D kA x5 p1 ) q_391 q_392 q_4 q_393 hd_X0_nextPlace ⟨rfl, rfl⟩ ⟨Nat.le_of_ble_eq_true rfl, Nat.le_of_ble_eq_true rfl⟩ hK (ws := []) (hP.sub [] rfl) (hD.sub [] (by decide) rfl) rfl hl.1 rfl (Nat.le_of_ble_eq_true rfl) dX0_costOfWay_74 ⟨Nat.zero_le _, Nat.zero_le _⟩) ?_
            refine lv_istore (lv' := [(5, .int (nW x5 p1)), (6, .int (x6 + (tlF (G 2) (wrF (fun t => G (t + 11)) (tW x5 p1)) ((G 5) - x7) (R 1)))), (9, .int (wrF (fun t => G (t + 11)) (tW x5 p1))), (8, .int (tW x5 p1)), (0, .ref h0), (1, .int p0), (2, .int p1), (3, .int p2), (4, .ref h9), (7, .int x7)]) hx hb dX0_costOfWay_77 hl (by decide) rfl (fun ls hl => ?_)
            refine lv_iinc (v := x7 + 1) (lv' := [(7, .int (x7 + 1)), (5, .int (nW x5 p1)), (6, .int (x6 + (tlF (G 2) (wrF (fun t => G (t + 11)) (tW x5 p1)) ((G 5) - x7) (R 1)))), (9, .int (wrF (fun t => G (t + 11)) (tW x5 p1))), (8, .int (tW x5 p1)), (0, .ref h0), (1, .int p0), (2, .int p1), (3, .int p2), (4, .ref h9)]) hx hb dX0_costOfWay_79 hl (k := 9) rfl (by first | rfl | exact congrArg (_ + ·) (by decide)) (by decide) rfl (fun ls hl => ?_)
            refine lv_goto (tgt := 12) hx hb dX0_costOfWay_82 (by decide) ?_
            exact ih12 (j + 1) (nW x5 p1) (x6 + (tlF (G 2) (wrF (fun t => G (t + 11)) (tW x5 p1)) ((G 5) - x7) (R 1))) (x7 + 1) (by omega) (by rw [e7]; exact nI_1 j) (by rw [← hres]; simp only [coL, gwr, c_2, c_3, c_4, ↓reduceIte]) ls (lv_sub hl [5, 6, 7, 8, 9, 1, 2, 0] rfl)
          · skip
            refine lv_iconst (v := 0) hx hb dX0_costOfWay_39 (by decide) ?_
            refine lv_goto (tgt := 49) hx hb dX0_costOfWay_40 (by decide) ?_
            refine lv_istore (lv' := [(9, .int 0), (8, .int (tW x5 p1)), (0, .ref h0), (1, .int p0), (2, .int p1), (3, .int p2), (4, .ref h9), (5, .int x5), (6, .int x6), (7, .int x7)]) hx hb dX0_costOfWay_49 hl (by decide) rfl (fun ls hl => ?_)
            refine lv_iload hx hb dX0_costOfWay_51 (lv_at hl 8 rfl) ?_
            refine lv_aload_n hx hb dX0_costOfWay_53 rfl (lv_at hl 2 rfl) ?_
            refine lv_iload hx hb dX0_costOfWay_54 (lv_at hl 0 rfl) ?_
            refine lv_aload_n hx hb dX0_costOfWay_56 rfl (lv_at hl 2 rfl) ?_
            refine va_get (ci := 0) (v := .int (G 5)) (C := RX0) (T := TX0) (N := 12) hx hb hts inX0 hown hK hP 0 rfl rfl 6 (by decide) (hts _ q_78) (fun _ h9 => h9) rfl dX0_costOfWay_57 ?_
            refine lv_iload hx hb dX0_costOfWay_60 (lv_at hl 9 rfl) ?_
            refine lv_isub hx hb dX0_costOfWay_62 ?_
            refine lv_aload hx hb dX0_costOfWay_63 (lv_at hl 6 rfl) ?_
            refine cs_p (runV (As := [.int 0, .int ((G 5) - x7), .ref h9]) (rest := [.int x6]) ⟨hx, hb, hml, hown, hts⟩ (m_X0_tollWith l D kA h0 hw (G 0) (G 1) (G 2) (G 3) (G 4) (G 5) (G 6) (G 7) (G 8) (G 9) (G 10) h9 (R 0) (R 1) (R 2) (R 3) (R 4) (R 5) 0 ((G 5) - x7) ) q_331 q_332 q_333 q_4 q_334 hd_X0_tollWith ⟨rfl, rfl⟩ ⟨Nat.le_of_ble_eq_true rfl, Nat.le_of_ble_eq_true rfl⟩ hK (ws := [(h0, .inr (0, [.ref hw, .int (G 0), .int (G 1), .int (G 2), .int (G 3), .int (G 4), .int (G 5), .int (G 6), .int (G 7), .int (G 8), .int (G 9), .int (G 10)])), (h9, .inr (3, [.int (R 0), .int (R 1), .int (R 2), .int (R 3), .int (R 4), .int (R 5)]))]) (hP.sub [0, 2] rfl) (hD.sub [0, 2] (by decide) rfl) 0 (ci := 0) (C := RX0) (T := TX0) (N := 12) rfl rfl rfl hl.1 rfl (Nat.le_of_ble_eq_true rfl) dX0_costOfWay_65 ⟨Nat.zero_le _, Nat.zero_le _⟩) ?_
            refine lv_iadd hx hb dX0_costOfWay_68 ?_
            refine lv_istore (lv' := [(6, .int (x6 + (tlF (G 2) 0 ((G 5) - x7) (R 1)))), (9, .int 0), (8, .int (tW x5 p1)), (0, .ref h0), (1, .int p0), (2, .int p1), (3, .int p2), (4, .ref h9), (5, .int x5), (7, .int x7)]) hx hb dX0_costOfWay_69 hl (by decide) rfl (fun ls hl => ?_)
            refine lv_iload hx hb dX0_costOfWay_71 (lv_at hl 8 rfl) ?_
            refine lv_iload_n hx hb dX0_costOfWay_73 rfl (lv_at hl 5 rfl) ?_
            refine cs_p (runS (As := [.int x5, .int p1]) (rest := []) ⟨hx, hb, hml, hown, hts⟩ (m_X0_nextPlace l D kA x5 p1 ) q_391 q_392 q_4 q_393 hd_X0_nextPlace ⟨rfl, rfl⟩ ⟨Nat.le_of_ble_eq_true rfl, Nat.le_of_ble_eq_true rfl⟩ hK (ws := []) (hP.sub [] rfl) (hD.sub [] (by decide) rfl) rfl hl.1 rfl (Nat.le_of_ble_eq_true rfl) dX0_costOfWay_74 ⟨Nat.zero_le _, Nat.zero_le _⟩) ?_
            refine lv_istore (lv' := [(5, .int (nW x5 p1)), (6, .int (x6 + (tlF (G 2) 0 ((G 5) - x7) (R 1)))), (9, .int 0), (8, .int (tW x5 p1)), (0, .ref h0), (1, .int p0), (2, .int p1), (3, .int p2), (4, .ref h9), (7, .int x7)]) hx hb dX0_costOfWay_77 hl (by decide) rfl (fun ls hl => ?_)
            refine lv_iinc (v := x7 + 1) (lv' := [(7, .int (x7 + 1)), (5, .int (nW x5 p1)), (6, .int (x6 + (tlF (G 2) 0 ((G 5) - x7) (R 1)))), (9, .int 0), (8, .int (tW x5 p1)), (0, .ref h0), (1, .int p0), (2, .int p1), (3, .int p2), (4, .ref h9)]) hx hb dX0_costOfWay_79 hl (k := 9) rfl (by first | rfl | exact congrArg (_ + ·) (by decide)) (by decide) rfl (fun ls hl => ?_)
            refine lv_goto (tgt := 12) hx hb dX0_costOfWay_82 (by decide) ?_
            exact ih12 (j + 1) (nW x5 p1) (x6 + (tlF (G 2) 0 ((G 5) - x7) (R 1))) (x7 + 1) (by omega) (by rw [e7]; exact nI_1 j) (by rw [← hres]; simp only [coL, gwr, c_2, c_3, c_4, ↓reduceIte]) ls (lv_sub hl [5, 6, 7, 8, 9, 1, 2, 0] rfl)
  exact loop_12 24 0 (G 1) 0 0 (by omega) (nI_0.symm) (rfl) ls (lv_sub hl [3, 4, 5, 6, 7, 2, 1, 0] rfl)


theorem hd_X0_property : yX0_property.cls ≠ "java/lang/invoke/MethodHandle" ∧ yX0_property.cls ≠ "java/lang/invoke/VarHandle" ∧ (parseMethodDescriptor yX0_property.desc).map (fun d => d.parameters.length) = some 1 := by decide +kernel
set_option maxRecDepth 100000 in
set_option maxHeartbeats 4000000 in
theorem m_X0_property (l : Launch) (D : va_G) (kA : Nat → Nat) (h0 : Nat) (hw : Nat) (G : Nat → Int32) (p0 : Int32) : Met l yX0_property (Cond.code yX0_property cX0_property 2 (some .int) :: AW) ({ frames := 2, cells := 0, slots := 0, locals := 44 } : Room) (Pz [.ref h0, .int p0] D (TY kA) [(h0, gC hw G), (hw, wC kA G)]) (pQ (some (.int (propG G p0)))) 0 0 (fun _ => False) := by
  refine MetZ (by decide +kernel) (Nat.le_of_ble_eq_true rfl) ?_
  intro p e s m below meth c ls hx hb hrt hts hown hml hlk hnm hP hK hD hS hl
  have hl : lv_has ls 2 [(0, .ref h0), (1, .int p0)] := hl
  refine lv_iload_n hx hb dX0_property_0 rfl (lv_at hl 1 rfl) ?_
  by_cases c_1 : p0 = 0
  · skip
    refine lv_tableIn (off := 59) (tgt := 60) hx hb dX0_property_1 (by rw [c_1]; decide) (by rw [c_1]; decide) (by rw [c_1]; decide +kernel) (by decide) ?_
    refine lv_aload_n hx hb dX0_property_60 rfl (lv_at hl 0 rfl) ?_
    refine va_get (ci := 0) (v := .int (G 0)) (C := RX0) (T := TX0) (N := 12) hx hb hts inX0 hown hK hP 0 rfl rfl 1 (by decide) (hts _ q_69) (fun _ h9 => h9) rfl dX0_property_61 ?_
    exact end_pi hx hb hrt hlk (by rw [propG, if_pos c_1]) dX0_property_64
  by_cases c_2 : p0 = 1
  · skip
    refine lv_tableIn (off := 64) (tgt := 65) hx hb dX0_property_1 (by rw [c_2]; decide) (by rw [c_2]; decide) (by rw [c_2]; decide +kernel) (by decide) ?_
    refine lv_aload_n hx hb dX0_property_65 rfl (lv_at hl 0 rfl) ?_
    refine va_get (ci := 0) (v := .int (G 1)) (C := RX0) (T := TX0) (N := 12) hx hb hts inX0 hown hK hP 0 rfl rfl 2 (by decide) (hts _ q_71) (fun _ h9 => h9) rfl dX0_property_66 ?_
    exact end_pi hx hb hrt hlk (by rw [propG, if_neg c_1, if_pos c_2]) dX0_property_69
  by_cases c_3 : p0 = 2
  · skip
    refine lv_tableIn (off := 69) (tgt := 70) hx hb dX0_property_1 (by rw [c_3]; decide) (by rw [c_3]; decide) (by rw [c_3]; decide +kernel) (by decide) ?_
    refine lv_aload_n hx hb dX0_property_70 rfl (lv_at hl 0 rfl) ?_
    refine va_get (ci := 0) (v := .int (G 2)) (C := RX0) (T := TX0) (N := 12) hx hb hts inX0 hown hK hP 0 rfl rfl 3 (by decide) (hts _ q_74) (fun _ h9 => h9) rfl dX0_property_71 ?_
    exact end_pi hx hb hrt hlk (by rw [propG, if_neg c_1, if_neg c_2, if_pos c_3]) dX0_property_74
  by_cases c_4 : p0 = 3
  · skip
    refine lv_tableIn (off := 74) (tgt := 75) hx hb dX0_property_1 (by rw [c_4]; decide) (by rw [c_4]; decide) (by rw [c_4]; decide +kernel) (by decide) ?_
    refine lv_aload_n hx hb dX0_property_75 rfl (lv_at hl 0 rfl) ?_
    refine va_get (ci := 0) (v := .int (G 3)) (C := RX0) (T := TX0) (N := 12) hx hb hts inX0 hown hK hP 0 rfl rfl 4 (by decide) (hts _ q_76) (fun _ h9 => h9) rfl dX0_property_76 ?_
    exact end_pi hx hb hrt hlk (by rw [propG, if_neg c_1, if_neg c_2, if_neg c_3, if_pos c_4]) dX0_property_79
  by_cases c_5 : p0 = 4
  · skip
    refine lv_tableIn (off := 79) (tgt := 80) hx hb dX0_property_1 (by rw [c_5]; decide) (by rw [c_5]; decide) (by rw [c_5]; decide +kernel) (by decide) ?_
    refine lv_aload_n hx hb dX0_property_80 rfl (lv_at hl 0 rfl) ?_
    refine va_get (ci := 0) (v := .int (G 4)) (C := RX0) (T := TX0) (N := 12) hx hb hts inX0 hown hK hP 0 rfl rfl 5 (by decide) (hts _ q_77) (fun _ h9 => h9) rfl dX0_property_81 ?_
    exact end_pi hx hb hrt hlk (by rw [propG, if_neg c_1, if_neg c_2, if_neg c_3, if_neg c_4, if_pos c_5]) dX0_property_84
  by_cases c_6 : p0 = 5
  · skip
    refine lv_tableIn (off := 84) (tgt := 85) hx hb dX0_property_1 (by rw [c_6]; decide) (by rw [c_6]; decide) (by rw [c_6]; decide +kernel) (by decide) ?_
    refine lv_aload_n hx hb dX0_property_85 rfl (lv_at hl 0 rfl) ?_
    refine va_get (ci := 0) (v := .int (G 5)) (C := RX0) (T := TX0) (N := 12) hx hb hts inX0 hown hK hP 0 rfl rfl 6 (by decide) (hts _ q_78) (fun _ h9 => h9) rfl dX0_property_86 ?_
    exact end_pi hx hb hrt hlk (by rw [propG, if_neg c_1, if_neg c_2, if_neg c_3, if_neg c_4, if_neg c_5, if_pos c_6]) dX0_property_89
  by_cases c_7 : p0 = 6
  · skip
    refine lv_tableIn (off := 89) (tgt := 90) hx hb dX0_property_1 (by rw [c_7]; decide) (by rw [c_7]; decide) (by rw [c_7]; decide +kernel) (by decide) ?_
    refine lv_aload_n hx hb dX0_property_90 rfl (lv_at hl 0 rfl) ?_
    refine va_get (ci := 0) (v := .int (G 6)) (C := RX0) (T := TX0) (N := 12) hx hb hts inX0 hown hK hP 0 rfl rfl 7 (by decide) (hts _ q_80) (fun _ h9 => h9) rfl dX0_property_91 ?_
    exact end_pi hx hb hrt hlk (by rw [propG, if_neg c_1, if_neg c_2, if_neg c_3, if_neg c_4, if_neg c_5, if_neg c_6, if_pos c_7]) dX0_property_94
  by_cases c_8 : p0 = 7
  · skip
    refine lv_tableIn (off := 94) (tgt := 95) hx hb dX0_property_1 (by rw [c_8]; decide) (by rw [c_8]; decide) (by rw [c_8]; decide +kernel) (by decide) ?_
    refine lv_aload_n hx hb dX0_property_95 rfl (lv_at hl 0 rfl) ?_
    refine va_get (ci := 0) (v := .int (G 7)) (C := RX0) (T := TX0) (N := 12) hx hb hts inX0 hown hK hP 0 rfl rfl 8 (by decide) (hts _ q_82) (fun _ h9 => h9) rfl dX0_property_96 ?_
    exact end_pi hx hb hrt hlk (by rw [propG, if_neg c_1, if_neg c_2, if_neg c_3, if_neg c_4, if_neg c_5, if_neg c_6, if_neg c_7, if_pos c_8]) dX0_property_99
  by_cases c_9 : p0 = 8
  · skip
    refine lv_tableIn (off := 99) (tgt := 100) hx hb dX0_property_1 (by rw [c_9]; decide) (by rw [c_9]; decide) (by rw [c_9]; decide +kernel) (by decide) ?_
    refine lv_aload_n hx hb dX0_property_100 rfl (lv_at hl 0 rfl) ?_
    refine va_get (ci := 0) (v := .int (G 8)) (C := RX0) (T := TX0) (N := 12) hx hb hts inX0 hown hK hP 0 rfl rfl 9 (by decide) (hts _ q_83) (fun _ h9 => h9) rfl dX0_property_101 ?_
    exact end_pi hx hb hrt hlk (by rw [propG, if_neg c_1, if_neg c_2, if_neg c_3, if_neg c_4, if_neg c_5, if_neg c_6, if_neg c_7, if_neg c_8, if_pos c_9]) dX0_property_104
  by_cases c_10 : p0 = 9
  · skip
    refine lv_tableIn (off := 104) (tgt := 105) hx hb dX0_property_1 (by rw [c_10]; decide) (by rw [c_10]; decide) (by rw [c_10]; decide +kernel) (by decide) ?_
    refine lv_aload_n hx hb dX0_property_105 rfl (lv_at hl 0 rfl) ?_
    refine va_get (ci := 0) (v := .int (G 0)) (C := RX0) (T := TX0) (N := 12) hx hb hts inX0 hown hK hP 0 rfl rfl 1 (by decide) (hts _ q_69) (fun _ h9 => h9) rfl dX0_property_106 ?_
    refine lv_aload_n hx hb dX0_property_109 rfl (lv_at hl 0 rfl) ?_
    refine va_get (ci := 0) (v := .int (G 1)) (C := RX0) (T := TX0) (N := 12) hx hb hts inX0 hown hK hP 0 rfl rfl 2 (by decide) (hts _ q_71) (fun _ h9 => h9) rfl dX0_property_110 ?_
    refine cs_p (runS (As := [.int (G 0), .int (G 1)]) (rest := []) ⟨hx, hb, hml, hown, hts⟩ (m_X0_distance l D kA (G 0) (G 1) ) q_534 q_535 q_4 q_536 hd_X0_distance ⟨rfl, rfl⟩ ⟨Nat.le_of_ble_eq_true rfl, Nat.le_of_ble_eq_true rfl⟩ hK (ws := []) (hP.sub [] rfl) (hD.sub [] (by decide) rfl) rfl hl.1 rfl (Nat.le_of_ble_eq_true rfl) dX0_property_113 ⟨Nat.zero_le _, Nat.zero_le _⟩) ?_
    exact end_pi hx hb hrt hlk (by rw [propG, if_neg c_1, if_neg c_2, if_neg c_3, if_neg c_4, if_neg c_5, if_neg c_6, if_neg c_7, if_neg c_8, if_neg c_9, if_pos c_10]) dX0_property_116
  by_cases c_11 : p0 = 10
  · skip
    refine lv_tableIn (off := 116) (tgt := 117) hx hb dX0_property_1 (by rw [c_11]; decide) (by rw [c_11]; decide) (by rw [c_11]; decide +kernel) (by decide) ?_
    refine lv_aload_n hx hb dX0_property_117 rfl (lv_at hl 0 rfl) ?_
    refine va_get (ci := 0) (v := .int (G 9)) (C := RX0) (T := TX0) (N := 12) hx hb hts inX0 hown hK hP 0 rfl rfl 10 (by decide) (hts _ q_84) (fun _ h9 => h9) rfl dX0_property_118 ?_
    exact end_pi hx hb hrt hlk (by rw [propG, if_neg c_1, if_neg c_2, if_neg c_3, if_neg c_4, if_neg c_5, if_neg c_6, if_neg c_7, if_neg c_8, if_neg c_9, if_neg c_10, if_pos c_11]) dX0_property_121
  refine lv_tableOut (tgt := 122) hx hb dX0_property_1 (sw_out 0 10 (by intro k h1 h2; rcases (show k = 0 ∨ k = 1 ∨ k = 2 ∨ k = 3 ∨ k = 4 ∨ k = 5 ∨ k = 6 ∨ k = 7 ∨ k = 8 ∨ k = 9 ∨ k = 10 by omega) with rfl | rfl | rfl | rfl | rfl | rfl | rfl | rfl | rfl | rfl | rfl <;> first | exact lv_neT c_1 (by decide) | exact lv_neT c_2 (by decide) | exact lv_neT c_3 (by decide) | exact lv_neT c_4 (by decide) | exact lv_neT c_5 (by decide) | exact lv_neT c_6 (by decide) | exact lv_neT c_7 (by decide) | exact lv_neT c_8 (by decide) | exact lv_neT c_9 (by decide) | exact lv_neT c_10 (by decide) | exact lv_neT c_11 (by decide))) (by decide) ?_
  refine lv_aload_n hx hb dX0_property_122 rfl (lv_at hl 0 rfl) ?_
  refine va_get (ci := 0) (v := .int (G 10)) (C := RX0) (T := TX0) (N := 12) hx hb hts inX0 hown hK hP 0 rfl rfl 11 (by decide) (hts _ q_85) (fun _ h9 => h9) rfl dX0_property_123 ?_
  exact end_pi hx hb hrt hlk (by rw [propG, if_neg c_1, if_neg c_2, if_neg c_3, if_neg c_4, if_neg c_5, if_neg c_6, if_neg c_7, if_neg c_8, if_neg c_9, if_neg c_10, if_neg c_11]) dX0_property_126

theorem hd_X0_copyFrom : yX0_copyFrom.cls ≠ "java/lang/invoke/MethodHandle" ∧ yX0_copyFrom.cls ≠ "java/lang/invoke/VarHandle" ∧ (parseMethodDescriptor yX0_copyFrom.desc).map (fun d => d.parameters.length) = some 1 := by decide +kernel
set_option maxRecDepth 100000 in
set_option maxHeartbeats 4000000 in
theorem m_X0_copyFrom (l : Launch) (D : va_G) (kA : Nat → Nat) (h0 : Nat) (hw : Nat) (G : Nat → Int32) (h1 : Nat) (hx1 : Nat) (G1 : Nat → Int32) : Met l yX0_copyFrom (Cond.code yX0_copyFrom cX0_copyFrom 2 none :: AW) ({ frames := 1, cells := 0, slots := 0, locals := 60 } : Room) (Pz [.ref h0, .ref h1] D (TY kA) [(h0, gC hw G), (hw, wC kA G), (h1, gC hx1 G1), (hx1, wC kA G1)]) (fQ none D [(h0, gC hw G), (hw, wC kA G), (h1, gC hx1 G1), (hx1, wC kA G1)] [(h0, gC hw G1), (hw, wC kA G1), (h1, gC hx1 G1), (hx1, wC kA G1)]) 0 0 (Aw [(h0, gC hw G), (hw, wC kA G), (h1, gC hx1 G1), (hx1, wC kA G1)]) := by
  refine MetZ (by decide +kernel) (Nat.le_of_ble_eq_true rfl) ?_
  intro p e s m below meth c ls hx hb hrt hts hown hml hlk hnm hP hK hD hS hl
  have hl : lv_has ls 2 [(0, .ref h0), (1, .ref h1)] := hl
  refine lv_aload_n hx hb dX0_copyFrom_0 rfl (lv_at hl 1 rfl) ?_
  refine va_get (ci := 0) (v := .ref hx1) (C := RX0) (T := TX0) (N := 12) hx hb hts inX0 hown hK hP 2 rfl rfl 0 (by decide) (hts _ q_68) (fun _ h9 => h9) rfl dX0_copyFrom_1 ?_
  refine lv_iconst (v := 0) hx hb dX0_copyFrom_4 (by decide) ?_
  refine lv_aload_n hx hb dX0_copyFrom_5 rfl (lv_at hl 0 rfl) ?_
  refine va_get (ci := 0) (v := .ref hw) (C := RX0) (T := TX0) (N := 12) hx hb hts inX0 hown hK hP 0 rfl rfl 0 (by decide) (hts _ q_68) (fun _ h9 => h9) rfl dX0_copyFrom_6 ?_
  refine lv_iconst (v := 0) hx hb dX0_copyFrom_9 (by decide) ?_
  refine lv_aload_n hx hb dX0_copyFrom_10 rfl (lv_at hl 1 rfl) ?_
  refine va_get (ci := 0) (v := .ref hx1) (C := RX0) (T := TX0) (N := 12) hx hb hts inX0 hown hK hP 2 rfl rfl 0 (by decide) (hts _ q_68) (fun _ h9 => h9) rfl dX0_copyFrom_11 ?_
  refine va_alen (v := 24) hx hb hK hP 3 0 rfl rfl rfl dX0_copyFrom_14 ?_
  refine lv_aload_n hx hb dX0_copyFrom_15 rfl (lv_at hl 0 rfl) ?_
  refine va_get (ci := 0) (v := .ref hw) (C := RX0) (T := TX0) (N := 12) hx hb hts inX0 hown hK hP 0 rfl rfl 0 (by decide) (hts _ q_68) (fun _ h9 => h9) rfl dX0_copyFrom_16 ?_
  refine va_alen (v := 24) hx hb hK hP 1 0 rfl rfl rfl dX0_copyFrom_19 ?_
  refine va_mmin hx hb (hml.trans hl.1.symm) hown (hts _ q_375) (hts _ q_356) (hts _ q_12) (hts _ q_357) (Nat.le_of_ble_eq_true rfl) (Nat.le_of_ble_eq_true rfl) (Nat.zero_le _) (Nat.zero_le _) dX0_copyFrom_20 ?_
  rw [show (if (24 : Int32) < 24 then (24 : Int32) else 24) = 24 from by decide]
  refine va_copyi (f := fun t => G1 (t + 11)) (g := fun t => G (t + 11)) hx hb (hml.trans hl.1.symm) hown (hts _ q_376) (hts _ q_378) (hts _ q_377) (hts _ q_13) hK hP hD hS 3 1 0 0 rfl rfl rfl rfl rfl (by decide) (by decide) (by decide) (by decide) (by decide) (fun _ _ => rfl) (Nat.le_of_ble_eq_true rfl) (Nat.le_of_ble_eq_true rfl) dX0_copyFrom_23 (fun H locs hP hD hS => ?_)
  have hP : va_P D vwCl [(h0, gC hw G), (hw, .inl (kA 0, 24, .inl (va_cpy (fun t => G1 (t + 11)) (fun t => G (t + 11)) (0 : Int32).toNatClampNeg (0 : Int32).toNatClampNeg (24 : Int32).toNatClampNeg))), (h1, gC hx1 G1), (hx1, wC kA G1)] H := hP
  have hD : va_D (Aw [(h0, gC hw G), (hw, wC kA G), (h1, gC hx1 G1), (hx1, wC kA G1)]) [(h0, gC hw G), (hw, .inl (kA 0, 24, .inl (va_cpy (fun t => G1 (t + 11)) (fun t => G (t + 11)) (0 : Int32).toNatClampNeg (0 : Int32).toNatClampNeg (24 : Int32).toNatClampNeg))), (h1, gC hx1 G1), (hx1, wC kA G1)] := hD
  refine lv_aload_n hx hb dX0_copyFrom_26 rfl (lv_at hl 0 rfl) ?_
  refine lv_aload_n hx hb dX0_copyFrom_27 rfl (lv_at hl 1 rfl) ?_
  refine va_get (ci := 0) (v := .int (G1 0)) (C := RX0) (T := TX0) (N := 12) hx hb hts inX0 hown hK hP 2 rfl rfl 1 (by decide) (hts _ q_69) (fun _ h9 => h9) rfl dX0_copyFrom_28 ?_
  refine va_put (ci := 0) (v := .int (G1 0)) (ty := tyX0 1) (C := RX0) (T := TX0) (N := 12) hx hb hts inX0 tyX0 tyX0_ok nmX0 hown hK hP hD hS 0 rfl rfl 1 (by decide) (hts _ q_69) (fun _ h9 => h9) rfl (tyX0_ok 1 (by decide)) rfl rfl (Nat.le_of_ble_eq_true rfl) dX0_copyFrom_31 (fun H locs hP hD hS => ?_)
  have hP : va_P D vwCl [(h0, .inr (0, [.ref hw, .int (G1 0), .int (G 1), .int (G 2), .int (G 3), .int (G 4), .int (G 5), .int (G 6), .int (G 7), .int (G 8), .int (G 9), .int (G 10)])), (hw, .inl (kA 0, 24, .inl (va_cpy (fun t => G1 (t + 11)) (fun t => G (t + 11)) (0 : Int32).toNatClampNeg (0 : Int32).toNatClampNeg (24 : Int32).toNatClampNeg))), (h1, gC hx1 G1), (hx1, wC kA G1)] H := hP
  have hD : va_D (Aw [(h0, gC hw G), (hw, wC kA G), (h1, gC hx1 G1), (hx1, wC kA G1)]) [(h0, .inr (0, [.ref hw, .int (G1 0), .int (G 1), .int (G 2), .int (G 3), .int (G 4), .int (G 5), .int (G 6), .int (G 7), .int (G 8), .int (G 9), .int (G 10)])), (hw, .inl (kA 0, 24, .inl (va_cpy (fun t => G1 (t + 11)) (fun t => G (t + 11)) (0 : Int32).toNatClampNeg (0 : Int32).toNatClampNeg (24 : Int32).toNatClampNeg))), (h1, gC hx1 G1), (hx1, wC kA G1)] := hD
  refine lv_aload_n hx hb dX0_copyFrom_34 rfl (lv_at hl 0 rfl) ?_
  refine lv_aload_n hx hb dX0_copyFrom_35 rfl (lv_at hl 1 rfl) ?_
  refine va_get (ci := 0) (v := .int (G1 1)) (C := RX0) (T := TX0) (N := 12) hx hb hts inX0 hown hK hP 2 rfl rfl 2 (by decide) (hts _ q_71) (fun _ h9 => h9) rfl dX0_copyFrom_36 ?_
  refine va_put (ci := 0) (v := .int (G1 1)) (ty := tyX0 2) (C := RX0) (T := TX0) (N := 12) hx hb hts inX0 tyX0 tyX0_ok nmX0 hown hK hP hD hS 0 rfl rfl 2 (by decide) (hts _ q_71) (fun _ h9 => h9) rfl (tyX0_ok 2 (by decide)) rfl rfl (Nat.le_of_ble_eq_true rfl) dX0_copyFrom_39 (fun H locs hP hD hS => ?_)
  have hP : va_P D vwCl [(h0, .inr (0, [.ref hw, .int (G1 0), .int (G1 1), .int (G 2), .int (G 3), .int (G 4), .int (G 5), .int (G 6), .int (G 7), .int (G 8), .int (G 9), .int (G 10)])), (hw, .inl (kA 0, 24, .inl (va_cpy (fun t => G1 (t + 11)) (fun t => G (t + 11)) (0 : Int32).toNatClampNeg (0 : Int32).toNatClampNeg (24 : Int32).toNatClampNeg))), (h1, gC hx1 G1), (hx1, wC kA G1)] H := hP
  have hD : va_D (Aw [(h0, gC hw G), (hw, wC kA G), (h1, gC hx1 G1), (hx1, wC kA G1)]) [(h0, .inr (0, [.ref hw, .int (G1 0), .int (G1 1), .int (G 2), .int (G 3), .int (G 4), .int (G 5), .int (G 6), .int (G 7), .int (G 8), .int (G 9), .int (G 10)])), (hw, .inl (kA 0, 24, .inl (va_cpy (fun t => G1 (t + 11)) (fun t => G (t + 11)) (0 : Int32).toNatClampNeg (0 : Int32).toNatClampNeg (24 : Int32).toNatClampNeg))), (h1, gC hx1 G1), (hx1, wC kA G1)] := hD
  refine lv_aload_n hx hb dX0_copyFrom_42 rfl (lv_at hl 0 rfl) ?_
  refine lv_aload_n hx hb dX0_copyFrom_43 rfl (lv_at hl 1 rfl) ?_
  refine va_get (ci := 0) (v := .int (G1 2)) (C := RX0) (T := TX0) (N := 12) hx hb hts inX0 hown hK hP 2 rfl rfl 3 (by decide) (hts _ q_74) (fun _ h9 => h9) rfl dX0_copyFrom_44 ?_
  refine va_put (ci := 0) (v := .int (G1 2)) (ty := tyX0 3) (C := RX0) (T := TX0) (N := 12) hx hb hts inX0 tyX0 tyX0_ok nmX0 hown hK hP hD hS 0 rfl rfl 3 (by decide) (hts _ q_74) (fun _ h9 => h9) rfl (tyX0_ok 3 (by decide)) rfl rfl (Nat.le_of_ble_eq_true rfl) dX0_copyFrom_47 (fun H locs hP hD hS => ?_)
  have hP : va_P D vwCl [(h0, .inr (0, [.ref hw, .int (G1 0), .int (G1 1), .int (G1 2), .int (G 3), .int (G 4), .int (G 5), .int (G 6), .int (G 7), .int (G 8), .int (G 9), .int (G 10)])), (hw, .inl (kA 0, 24, .inl (va_cpy (fun t => G1 (t + 11)) (fun t => G (t + 11)) (0 : Int32).toNatClampNeg (0 : Int32).toNatClampNeg (24 : Int32).toNatClampNeg))), (h1, gC hx1 G1), (hx1, wC kA G1)] H := hP
  have hD : va_D (Aw [(h0, gC hw G), (hw, wC kA G), (h1, gC hx1 G1), (hx1, wC kA G1)]) [(h0, .inr (0, [.ref hw, .int (G1 0), .int (G1 1), .int (G1 2), .int (G 3), .int (G 4), .int (G 5), .int (G 6), .int (G 7), .int (G 8), .int (G 9), .int (G 10)])), (hw, .inl (kA 0, 24, .inl (va_cpy (fun t => G1 (t + 11)) (fun t => G (t + 11)) (0 : Int32).toNatClampNeg (0 : Int32).toNatClampNeg (24 : Int32).toNatClampNeg))), (h1, gC hx1 G1), (hx1, wC kA G1)] := hD
  refine lv_aload_n hx hb dX0_copyFrom_50 rfl (lv_at hl 0 rfl) ?_
  refine lv_aload_n hx hb dX0_copyFrom_51 rfl (lv_at hl 1 rfl) ?_
  refine va_get (ci := 0) (v := .int (G1 3)) (C := RX0) (T := TX0) (N := 12) hx hb hts inX0 hown hK hP 2 rfl rfl 4 (by decide) (hts _ q_76) (fun _ h9 => h9) rfl dX0_copyFrom_52 ?_
  refine va_put (ci := 0) (v := .int (G1 3)) (ty := tyX0 4) (C := RX0) (T := TX0) (N := 12) hx hb hts inX0 tyX0 tyX0_ok nmX0 hown hK hP hD hS 0 rfl rfl 4 (by decide) (hts _ q_76) (fun _ h9 => h9) rfl (tyX0_ok 4 (by decide)) rfl rfl (Nat.le_of_ble_eq_true rfl) dX0_copyFrom_55 (fun H locs hP hD hS => ?_)
  have hP : va_P D vwCl [(h0, .inr (0, [.ref hw, .int (G1 0), .int (G1 1), .int (G1 2), .int (G1 3), .int (G 4), .int (G 5), .int (G 6), .int (G 7), .int (G 8), .int (G 9), .int (G 10)])), (hw, .inl (kA 0, 24, .inl (va_cpy (fun t => G1 (t + 11)) (fun t => G (t + 11)) (0 : Int32).toNatClampNeg (0 : Int32).toNatClampNeg (24 : Int32).toNatClampNeg))), (h1, gC hx1 G1), (hx1, wC kA G1)] H := hP
  have hD : va_D (Aw [(h0, gC hw G), (hw, wC kA G), (h1, gC hx1 G1), (hx1, wC kA G1)]) [(h0, .inr (0, [.ref hw, .int (G1 0), .int (G1 1), .int (G1 2), .int (G1 3), .int (G 4), .int (G 5), .int (G 6), .int (G 7), .int (G 8), .int (G 9), .int (G 10)])), (hw, .inl (kA 0, 24, .inl (va_cpy (fun t => G1 (t + 11)) (fun t => G (t + 11)) (0 : Int32).toNatClampNeg (0 : Int32).toNatClampNeg (24 : Int32).toNatClampNeg))), (h1, gC hx1 G1), (hx1, wC kA G1)] := hD
  refine lv_aload_n hx hb dX0_copyFrom_58 rfl (lv_at hl 0 rfl) ?_
  refine lv_aload_n hx hb dX0_copyFrom_59 rfl (lv_at hl 1 rfl) ?_
  refine va_get (ci := 0) (v := .int (G1 4)) (C := RX0) (T := TX0) (N := 12) hx hb hts inX0 hown hK hP 2 rfl rfl 5 (by decide) (hts _ q_77) (fun _ h9 => h9) rfl dX0_copyFrom_60 ?_
  refine va_put (ci := 0) (v := .int (G1 4)) (ty := tyX0 5) (C := RX0) (T := TX0) (N := 12) hx hb hts inX0 tyX0 tyX0_ok nmX0 hown hK hP hD hS 0 rfl rfl 5 (by decide) (hts _ q_77) (fun _ h9 => h9) rfl (tyX0_ok 5 (by decide)) rfl rfl (Nat.le_of_ble_eq_true rfl) dX0_copyFrom_63 (fun H locs hP hD hS => ?_)
  have hP : va_P D vwCl [(h0, .inr (0, [.ref hw, .int (G1 0), .int (G1 1), .int (G1 2), .int (G1 3), .int (G1 4), .int (G 5), .int (G 6), .int (G 7), .int (G 8), .int (G 9), .int (G 10)])), (hw, .inl (kA 0, 24, .inl (va_cpy (fun t => G1 (t + 11)) (fun t => G (t + 11)) (0 : Int32).toNatClampNeg (0 : Int32).toNatClampNeg (24 : Int32).toNatClampNeg))), (h1, gC hx1 G1), (hx1, wC kA G1)] H := hP
  have hD : va_D (Aw [(h0, gC hw G), (hw, wC kA G), (h1, gC hx1 G1), (hx1, wC kA G1)]) [(h0, .inr (0, [.ref hw, .int (G1 0), .int (G1 1), .int (G1 2), .int (G1 3), .int (G1 4), .int (G 5), .int (G 6), .int (G 7), .int (G 8), .int (G 9), .int (G 10)])), (hw, .inl (kA 0, 24, .inl (va_cpy (fun t => G1 (t + 11)) (fun t => G (t + 11)) (0 : Int32).toNatClampNeg (0 : Int32).toNatClampNeg (24 : Int32).toNatClampNeg))), (h1, gC hx1 G1), (hx1, wC kA G1)] := hD
  refine lv_aload_n hx hb dX0_copyFrom_66 rfl (lv_at hl 0 rfl) ?_
  refine lv_aload_n hx hb dX0_copyFrom_67 rfl (lv_at hl 1 rfl) ?_
  refine va_get (ci := 0) (v := .int (G1 5)) (C := RX0) (T := TX0) (N := 12) hx hb hts inX0 hown hK hP 2 rfl rfl 6 (by decide) (hts _ q_78) (fun _ h9 => h9) rfl dX0_copyFrom_68 ?_
  refine va_put (ci := 0) (v := .int (G1 5)) (ty := tyX0 6) (C := RX0) (T := TX0) (N := 12) hx hb hts inX0 tyX0 tyX0_ok nmX0 hown hK hP hD hS 0 rfl rfl 6 (by decide) (hts _ q_78) (fun _ h9 => h9) rfl (tyX0_ok 6 (by decide)) rfl rfl (Nat.le_of_ble_eq_true rfl) dX0_copyFrom_71 (fun H locs hP hD hS => ?_)
  have hP : va_P D vwCl [(h0, .inr (0, [.ref hw, .int (G1 0), .int (G1 1), .int (G1 2), .int (G1 3), .int (G1 4), .int (G1 5), .int (G 6), .int (G 7), .int (G 8), .int (G 9), .int (G 10)])), (hw, .inl (kA 0, 24, .inl (va_cpy (fun t => G1 (t + 11)) (fun t => G (t + 11)) (0 : Int32).toNatClampNeg (0 : Int32).toNatClampNeg (24 : Int32).toNatClampNeg))), (h1, gC hx1 G1), (hx1, wC kA G1)] H := hP
  have hD : va_D (Aw [(h0, gC hw G), (hw, wC kA G), (h1, gC hx1 G1), (hx1, wC kA G1)]) [(h0, .inr (0, [.ref hw, .int (G1 0), .int (G1 1), .int (G1 2), .int (G1 3), .int (G1 4), .int (G1 5), .int (G 6), .int (G 7), .int (G 8), .int (G 9), .int (G 10)])), (hw, .inl (kA 0, 24, .inl (va_cpy (fun t => G1 (t + 11)) (fun t => G (t + 11)) (0 : Int32).toNatClampNeg (0 : Int32).toNatClampNeg (24 : Int32).toNatClampNeg))), (h1, gC hx1 G1), (hx1, wC kA G1)] := hD
  refine lv_aload_n hx hb dX0_copyFrom_74 rfl (lv_at hl 0 rfl) ?_
  refine lv_aload_n hx hb dX0_copyFrom_75 rfl (lv_at hl 1 rfl) ?_
  refine va_get (ci := 0) (v := .int (G1 6)) (C := RX0) (T := TX0) (N := 12) hx hb hts inX0 hown hK hP 2 rfl rfl 7 (by decide) (hts _ q_80) (fun _ h9 => h9) rfl dX0_copyFrom_76 ?_
  refine va_put (ci := 0) (v := .int (G1 6)) (ty := tyX0 7) (C := RX0) (T := TX0) (N := 12) hx hb hts inX0 tyX0 tyX0_ok nmX0 hown hK hP hD hS 0 rfl rfl 7 (by decide) (hts _ q_80) (fun _ h9 => h9) rfl (tyX0_ok 7 (by decide)) rfl rfl (Nat.le_of_ble_eq_true rfl) dX0_copyFrom_79 (fun H locs hP hD hS => ?_)
  have hP : va_P D vwCl [(h0, .inr (0, [.ref hw, .int (G1 0), .int (G1 1), .int (G1 2), .int (G1 3), .int (G1 4), .int (G1 5), .int (G1 6), .int (G 7), .int (G 8), .int (G 9), .int (G 10)])), (hw, .inl (kA 0, 24, .inl (va_cpy (fun t => G1 (t + 11)) (fun t => G (t + 11)) (0 : Int32).toNatClampNeg (0 : Int32).toNatClampNeg (24 : Int32).toNatClampNeg))), (h1, gC hx1 G1), (hx1, wC kA G1)] H := hP
  have hD : va_D (Aw [(h0, gC hw G), (hw, wC kA G), (h1, gC hx1 G1), (hx1, wC kA G1)]) [(h0, .inr (0, [.ref hw, .int (G1 0), .int (G1 1), .int (G1 2), .int (G1 3), .int (G1 4), .int (G1 5), .int (G1 6), .int (G 7), .int (G 8), .int (G 9), .int (G 10)])), (hw, .inl (kA 0, 24, .inl (va_cpy (fun t => G1 (t + 11)) (fun t => G (t + 11)) (0 : Int32).toNatClampNeg (0 : Int32).toNatClampNeg (24 : Int32).toNatClampNeg))), (h1, gC hx1 G1), (hx1, wC kA G1)] := hD
  refine lv_aload_n hx hb dX0_copyFrom_82 rfl (lv_at hl 0 rfl) ?_
  refine lv_aload_n hx hb dX0_copyFrom_83 rfl (lv_at hl 1 rfl) ?_
  refine va_get (ci := 0) (v := .int (G1 7)) (C := RX0) (T := TX0) (N := 12) hx hb hts inX0 hown hK hP 2 rfl rfl 8 (by decide) (hts _ q_82) (fun _ h9 => h9) rfl dX0_copyFrom_84 ?_
  refine va_put (ci := 0) (v := .int (G1 7)) (ty := tyX0 8) (C := RX0) (T := TX0) (N := 12) hx hb hts inX0 tyX0 tyX0_ok nmX0 hown hK hP hD hS 0 rfl rfl 8 (by decide) (hts _ q_82) (fun _ h9 => h9) rfl (tyX0_ok 8 (by decide)) rfl rfl (Nat.le_of_ble_eq_true rfl) dX0_copyFrom_87 (fun H locs hP hD hS => ?_)
  have hP : va_P D vwCl [(h0, .inr (0, [.ref hw, .int (G1 0), .int (G1 1), .int (G1 2), .int (G1 3), .int (G1 4), .int (G1 5), .int (G1 6), .int (G1 7), .int (G 8), .int (G 9), .int (G 10)])), (hw, .inl (kA 0, 24, .inl (va_cpy (fun t => G1 (t + 11)) (fun t => G (t + 11)) (0 : Int32).toNatClampNeg (0 : Int32).toNatClampNeg (24 : Int32).toNatClampNeg))), (h1, gC hx1 G1), (hx1, wC kA G1)] H := hP
  have hD : va_D (Aw [(h0, gC hw G), (hw, wC kA G), (h1, gC hx1 G1), (hx1, wC kA G1)]) [(h0, .inr (0, [.ref hw, .int (G1 0), .int (G1 1), .int (G1 2), .int (G1 3), .int (G1 4), .int (G1 5), .int (G1 6), .int (G1 7), .int (G 8), .int (G 9), .int (G 10)])), (hw, .inl (kA 0, 24, .inl (va_cpy (fun t => G1 (t + 11)) (fun t => G (t + 11)) (0 : Int32).toNatClampNeg (0 : Int32).toNatClampNeg (24 : Int32).toNatClampNeg))), (h1, gC hx1 G1), (hx1, wC kA G1)] := hD
  refine lv_aload_n hx hb dX0_copyFrom_90 rfl (lv_at hl 0 rfl) ?_
  refine lv_aload_n hx hb dX0_copyFrom_91 rfl (lv_at hl 1 rfl) ?_
  refine va_get (ci := 0) (v := .int (G1 8)) (C := RX0) (T := TX0) (N := 12) hx hb hts inX0 hown hK hP 2 rfl rfl 9 (by decide) (hts _ q_83) (fun _ h9 => h9) rfl dX0_copyFrom_92 ?_
  refine va_put (ci := 0) (v := .int (G1 8)) (ty := tyX0 9) (C := RX0) (T := TX0) (N := 12) hx hb hts inX0 tyX0 tyX0_ok nmX0 hown hK hP hD hS 0 rfl rfl 9 (by decide) (hts _ q_83) (fun _ h9 => h9) rfl (tyX0_ok 9 (by decide)) rfl rfl (Nat.le_of_ble_eq_true rfl) dX0_copyFrom_95 (fun H locs hP hD hS => ?_)
  have hP : va_P D vwCl [(h0, .inr (0, [.ref hw, .int (G1 0), .int (G1 1), .int (G1 2), .int (G1 3), .int (G1 4), .int (G1 5), .int (G1 6), .int (G1 7), .int (G1 8), .int (G 9), .int (G 10)])), (hw, .inl (kA 0, 24, .inl (va_cpy (fun t => G1 (t + 11)) (fun t => G (t + 11)) (0 : Int32).toNatClampNeg (0 : Int32).toNatClampNeg (24 : Int32).toNatClampNeg))), (h1, gC hx1 G1), (hx1, wC kA G1)] H := hP
  have hD : va_D (Aw [(h0, gC hw G), (hw, wC kA G), (h1, gC hx1 G1), (hx1, wC kA G1)]) [(h0, .inr (0, [.ref hw, .int (G1 0), .int (G1 1), .int (G1 2), .int (G1 3), .int (G1 4), .int (G1 5), .int (G1 6), .int (G1 7), .int (G1 8), .int (G 9), .int (G 10)])), (hw, .inl (kA 0, 24, .inl (va_cpy (fun t => G1 (t + 11)) (fun t => G (t + 11)) (0 : Int32).toNatClampNeg (0 : Int32).toNatClampNeg (24 : Int32).toNatClampNeg))), (h1, gC hx1 G1), (hx1, wC kA G1)] := hD
  refine lv_aload_n hx hb dX0_copyFrom_98 rfl (lv_at hl 0 rfl) ?_
  refine lv_aload_n hx hb dX0_copyFrom_99 rfl (lv_at hl 1 rfl) ?_
  refine va_get (ci := 0) (v := .int (G1 9)) (C := RX0) (T := TX0) (N := 12) hx hb hts inX0 hown hK hP 2 rfl rfl 10 (by decide) (hts _ q_84) (fun _ h9 => h9) rfl dX0_copyFrom_100 ?_
  refine va_put (ci := 0) (v := .int (G1 9)) (ty := tyX0 10) (C := RX0) (T := TX0) (N := 12) hx hb hts inX0 tyX0 tyX0_ok nmX0 hown hK hP hD hS 0 rfl rfl 10 (by decide) (hts _ q_84) (fun _ h9 => h9) rfl (tyX0_ok 10 (by decide)) rfl rfl (Nat.le_of_ble_eq_true rfl) dX0_copyFrom_103 (fun H locs hP hD hS => ?_)
  have hP : va_P D vwCl [(h0, .inr (0, [.ref hw, .int (G1 0), .int (G1 1), .int (G1 2), .int (G1 3), .int (G1 4), .int (G1 5), .int (G1 6), .int (G1 7), .int (G1 8), .int (G1 9), .int (G 10)])), (hw, .inl (kA 0, 24, .inl (va_cpy (fun t => G1 (t + 11)) (fun t => G (t + 11)) (0 : Int32).toNatClampNeg (0 : Int32).toNatClampNeg (24 : Int32).toNatClampNeg))), (h1, gC hx1 G1), (hx1, wC kA G1)] H := hP
  have hD : va_D (Aw [(h0, gC hw G), (hw, wC kA G), (h1, gC hx1 G1), (hx1, wC kA G1)]) [(h0, .inr (0, [.ref hw, .int (G1 0), .int (G1 1), .int (G1 2), .int (G1 3), .int (G1 4), .int (G1 5), .int (G1 6), .int (G1 7), .int (G1 8), .int (G1 9), .int (G 10)])), (hw, .inl (kA 0, 24, .inl (va_cpy (fun t => G1 (t + 11)) (fun t => G (t + 11)) (0 : Int32).toNatClampNeg (0 : Int32).toNatClampNeg (24 : Int32).toNatClampNeg))), (h1, gC hx1 G1), (hx1, wC kA G1)] := hD
  refine lv_aload_n hx hb dX0_copyFrom_106 rfl (lv_at hl 0 rfl) ?_
  refine lv_aload_n hx hb dX0_copyFrom_107 rfl (lv_at hl 1 rfl) ?_
  refine va_get (ci := 0) (v := .int (G1 10)) (C := RX0) (T := TX0) (N := 12) hx hb hts inX0 hown hK hP 2 rfl rfl 11 (by decide) (hts _ q_85) (fun _ h9 => h9) rfl dX0_copyFrom_108 ?_
  refine va_put (ci := 0) (v := .int (G1 10)) (ty := tyX0 11) (C := RX0) (T := TX0) (N := 12) hx hb hts inX0 tyX0 tyX0_ok nmX0 hown hK hP hD hS 0 rfl rfl 11 (by decide) (hts _ q_85) (fun _ h9 => h9) rfl (tyX0_ok 11 (by decide)) rfl rfl (Nat.le_of_ble_eq_true rfl) dX0_copyFrom_111 (fun H locs hP hD hS => ?_)
  have hP : va_P D vwCl [(h0, .inr (0, [.ref hw, .int (G1 0), .int (G1 1), .int (G1 2), .int (G1 3), .int (G1 4), .int (G1 5), .int (G1 6), .int (G1 7), .int (G1 8), .int (G1 9), .int (G1 10)])), (hw, .inl (kA 0, 24, .inl (va_cpy (fun t => G1 (t + 11)) (fun t => G (t + 11)) (0 : Int32).toNatClampNeg (0 : Int32).toNatClampNeg (24 : Int32).toNatClampNeg))), (h1, gC hx1 G1), (hx1, wC kA G1)] H := hP
  have hD : va_D (Aw [(h0, gC hw G), (hw, wC kA G), (h1, gC hx1 G1), (hx1, wC kA G1)]) [(h0, .inr (0, [.ref hw, .int (G1 0), .int (G1 1), .int (G1 2), .int (G1 3), .int (G1 4), .int (G1 5), .int (G1 6), .int (G1 7), .int (G1 8), .int (G1 9), .int (G1 10)])), (hw, .inl (kA 0, 24, .inl (va_cpy (fun t => G1 (t + 11)) (fun t => G (t + 11)) (0 : Int32).toNatClampNeg (0 : Int32).toNatClampNeg (24 : Int32).toNatClampNeg))), (h1, gC hx1 G1), (hx1, wC kA G1)] := hD
  have hP : va_P D vwCl [(h0, .inr (0, [.ref hw, .int (G1 0), .int (G1 1), .int (G1 2), .int (G1 3), .int (G1 4), .int (G1 5), .int (G1 6), .int (G1 7), .int (G1 8), .int (G1 9), .int (G1 10)])), (hw, .inl (kA 0, 24, .inl (va_cpy (fun t => G1 (t + 11)) (fun t => G (t + 11)) (0 : Int32).toNatClampNeg (0 : Int32).toNatClampNeg (24 : Int32).toNatClampNeg))), (h1, gC hx1 G1), (hx1, wC kA G1)] _ := hP.sub [0, 1, 2, 3] rfl
  exact end_fv hx hb hrt hlk hP hS (by intro h; exact h.ints 1 (fun t => G1 (t + 11)) rfl (fun j hj => (pk_cpy_in (sp := 0) (dp := 0) (n := 24) (Nat.zero_le _) (by omega)).trans (by rw [Nat.zero_add, Nat.sub_zero]))) dX0_copyFrom_114
end
section
/-! the rules' and the reader's own words -/
def rvF (R : Nat → Int32) (k : Int32) : Int32 := if k = 0 then R 0 else if k = 1 then R 1 else if k = 2 then R 2 else if k = 3 then R 3 else if k = 4 then R 4 else R 5
def rpF (R : Nat → Int32) (k v : Int32) : Nat → Int32 := if k = 0 then upd R 0 v else if k = 1 then upd R 1 v else if k = 2 then upd R 2 v else if k = 3 then upd R 3 v else if k = 4 then upd R 4 v else upd R 5 v
def dC (Q : Nat → Int32) : va_E := .inr (2, [.int (Q 0), .int (Q 1), .int (Q 2), .int (Q 3)])
def mkQ (a b c d : Int32) : Nat → Int32
  | 0 => a
  | 1 => b
  | 2 => c
  | _ => d
def tkLetter (Q : Nat → Int32) (c : Int32) : Bool × (Nat → Int32) := if c < 97 then (false, Q) else if c < 101 then (true, mkQ 1 (c - 97) (Q 2) (Q 3)) else (false, Q)
def tkKind (Q : Nat → Int32) (c : Int32) : Bool × (Nat → Int32) :=
  if c = 43 then (true, mkQ 2 (Q 1) c (Q 3)) else if c = 45 then (true, mkQ 2 (Q 1) c (Q 3)) else if c = 61 then (true, mkQ 2 (Q 1) c (Q 3)) else if c = 104 then (true, mkQ 4 (Q 1) c (Q 3)) else if c = 103 then (true, mkQ 4 (Q 1) c (Q 3)) else (false, Q)
def tkFirst (Q : Nat → Int32) (c : Int32) : Bool × (Nat → Int32) :=
  if Q 2 = 61 then (if c < 48 then (false, Q) else if 57 < c then (false, Q) else (true, mkQ 3 (Q 1) (Q 2) (c - 48))) else (if c < 49 then (false, Q) else if 57 < c then (false, Q) else (true, mkQ 3 (Q 1) (Q 2) (c - 48)))
def tkSecond (Q : Nat → Int32) (c : Int32) : Bool × (Nat → Int32) :=
  if Q 2 = 61 then (if c < 48 then (false, Q) else if 57 < c then (false, Q) else if Q 3 = 0 then (false, Q) else if 23 < 10 * Q 3 + c - 48 then (false, Q) else (true, mkQ 4 (Q 1) (Q 2) (10 * Q 3 + c - 48)))
  else (if c < 48 then (false, Q) else if 57 < c then (false, Q) else if Q 3 = 0 then (false, Q) else if 24 < 10 * Q 3 + c - 48 then (false, Q) else (true, mkQ 4 (Q 1) (Q 2) (10 * Q 3 + c - 48)))
def tkSep (Q : Nat → Int32) (c : Int32) : Bool × (Nat → Int32) := if c = 59 then (true, mkQ 0 (Q 1) (Q 2) (Q 3)) else (false, Q)
def tk (Q : Nat → Int32) (c : Int32) : Bool × (Nat → Int32) :=
  if Q 0 = 0 then tkLetter Q c else if Q 0 = 1 then tkKind Q c else if Q 0 = 2 then tkFirst Q c else if Q 0 = 3 then (if (tkSecond Q c).1 = true then (true, (tkSecond Q c).2) else tkSep (tkSecond Q c).2 c) else tkSep Q c
def tkEnd (Q : Nat → Int32) : Bool := if Q 0 = 3 then true else if Q 0 = 4 then true else false
end
section
theorem hd_X3_valueOf : yX3_valueOf.cls ≠ "java/lang/invoke/MethodHandle" ∧ yX3_valueOf.cls ≠ "java/lang/invoke/VarHandle" ∧ (parseMethodDescriptor yX3_valueOf.desc).map (fun d => d.parameters.length) = some 1 := by decide +kernel
set_option maxRecDepth 100000 in
set_option maxHeartbeats 4000000 in
theorem m_X3_valueOf (l : Launch) (D : va_G) (kA : Nat → Nat) (h9 : Nat) (R : Nat → Int32) (p0 : Int32) : Met l yX3_valueOf (Cond.code yX3_valueOf cX3_valueOf 2 (some .int) :: AW) ({ frames := 0, cells := 0, slots := 0, locals := 0 } : Room) (Pz [.ref h9, .int p0] D (TY kA) [(h9, rC R)]) (pQ (some (.int (rvF R p0)))) 0 0 (fun _ => False) := by
  refine MetZ (by decide +kernel) (Nat.le_of_ble_eq_true rfl) ?_
  intro p e s m below meth c ls hx hb hrt hts hown hml hlk hnm hP hK hD hS hl
  have hl : lv_has ls 2 [(0, .ref h9), (1, .int p0)] := hl
  refine lv_iload_n hx hb dX3_valueOf_0 rfl (lv_at hl 1 rfl) ?_
  by_cases c_1 : p0 = 0
  · skip
    refine lv_tableIn (off := 35) (tgt := 36) hx hb dX3_valueOf_1 (by rw [c_1]; decide) (by rw [c_1]; decide) (by rw [c_1]; decide +kernel) (by decide) ?_
    refine lv_aload_n hx hb dX3_valueOf_36 rfl (lv_at hl 0 rfl) ?_
    refine va_get (ci := 3) (v := .int (R 0)) (C := RX3) (T := TX3) (N := 6) hx hb hts inX3 hown hK hP 0 rfl rfl 0 (by decide) (hts _ q_35) (fun _ h9 => h9) rfl dX3_valueOf_37 ?_
    exact end_pi hx hb hrt hlk (by rw [rvF, if_pos c_1]) dX3_valueOf_40
  by_cases c_2 : p0 = 1
  · skip
    refine lv_tableIn (off := 40) (tgt := 41) hx hb dX3_valueOf_1 (by rw [c_2]; decide) (by rw [c_2]; decide) (by rw [c_2]; decide +kernel) (by decide) ?_
    refine lv_aload_n hx hb dX3_valueOf_41 rfl (lv_at hl 0 rfl) ?_
    refine va_get (ci := 3) (v := .int (R 1)) (C := RX3) (T := TX3) (N := 6) hx hb hts inX3 hown hK hP 0 rfl rfl 1 (by decide) (hts _ q_37) (fun _ h9 => h9) rfl dX3_valueOf_42 ?_
    exact end_pi hx hb hrt hlk (by rw [rvF, if_neg c_1, if_pos c_2]) dX3_valueOf_45
  by_cases c_3 : p0 = 2
  · skip
    refine lv_tableIn (off := 45) (tgt := 46) hx hb dX3_valueOf_1 (by rw [c_3]; decide) (by rw [c_3]; decide) (by rw [c_3]; decide +kernel) (by decide) ?_
    refine lv_aload_n hx hb dX3_valueOf_46 rfl (lv_at hl 0 rfl) ?_
    refine va_get (ci := 3) (v := .int (R 2)) (C := RX3) (T := TX3) (N := 6) hx hb hts inX3 hown hK hP 0 rfl rfl 2 (by decide) (hts _ q_39) (fun _ h9 => h9) rfl dX3_valueOf_47 ?_
    exact end_pi hx hb hrt hlk (by rw [rvF, if_neg c_1, if_neg c_2, if_pos c_3]) dX3_valueOf_50
  by_cases c_4 : p0 = 3
  · skip
    refine lv_tableIn (off := 50) (tgt := 51) hx hb dX3_valueOf_1 (by rw [c_4]; decide) (by rw [c_4]; decide) (by rw [c_4]; decide +kernel) (by decide) ?_
    refine lv_aload_n hx hb dX3_valueOf_51 rfl (lv_at hl 0 rfl) ?_
    refine va_get (ci := 3) (v := .int (R 3)) (C := RX3) (T := TX3) (N := 6) hx hb hts inX3 hown hK hP 0 rfl rfl 3 (by decide) (hts _ q_42) (fun _ h9 => h9) rfl dX3_valueOf_52 ?_
    exact end_pi hx hb hrt hlk (by rw [rvF, if_neg c_1, if_neg c_2, if_neg c_3, if_pos c_4]) dX3_valueOf_55
  by_cases c_5 : p0 = 4
  · skip
    refine lv_tableIn (off := 55) (tgt := 56) hx hb dX3_valueOf_1 (by rw [c_5]; decide) (by rw [c_5]; decide) (by rw [c_5]; decide +kernel) (by decide) ?_
    refine lv_aload_n hx hb dX3_valueOf_56 rfl (lv_at hl 0 rfl) ?_
    refine va_get (ci := 3) (v := .int (R 4)) (C := RX3) (T := TX3) (N := 6) hx hb hts inX3 hown hK hP 0 rfl rfl 4 (by decide) (hts _ q_44) (fun _ h9 => h9) rfl dX3_valueOf_57 ?_
    exact end_pi hx hb hrt hlk (by rw [rvF, if_neg c_1, if_neg c_2, if_neg c_3, if_neg c_4, if_pos c_5]) dX3_valueOf_60
  refine lv_tableOut (tgt := 61) hx hb dX3_valueOf_1 (sw_out 0 4 (by intro k h1 h2; rcases (show k = 0 ∨ k = 1 ∨ k = 2 ∨ k = 3 ∨ k = 4 by omega) with rfl | rfl | rfl | rfl | rfl <;> first | exact lv_neT c_1 (by decide) | exact lv_neT c_2 (by decide) | exact lv_neT c_3 (by decide) | exact lv_neT c_4 (by decide) | exact lv_neT c_5 (by decide))) (by decide) ?_
  refine lv_aload_n hx hb dX3_valueOf_61 rfl (lv_at hl 0 rfl) ?_
  refine va_get (ci := 3) (v := .int (R 5)) (C := RX3) (T := TX3) (N := 6) hx hb hts inX3 hown hK hP 0 rfl rfl 5 (by decide) (hts _ q_46) (fun _ h9 => h9) rfl dX3_valueOf_62 ?_
  exact end_pi hx hb hrt hlk (by rw [rvF, if_neg c_1, if_neg c_2, if_neg c_3, if_neg c_4, if_neg c_5]) dX3_valueOf_65

theorem hd_X3_put : yX3_put.cls ≠ "java/lang/invoke/MethodHandle" ∧ yX3_put.cls ≠ "java/lang/invoke/VarHandle" ∧ (parseMethodDescriptor yX3_put.desc).map (fun d => d.parameters.length) = some 2 := by decide +kernel
set_option maxRecDepth 100000 in
set_option maxHeartbeats 4000000 in
theorem m_X3_put (l : Launch) (D : va_G) (kA : Nat → Nat) (h9 : Nat) (R : Nat → Int32) (p0 : Int32) (p1 : Int32) : Met l yX3_put (Cond.code yX3_put cX3_put 3 none :: AW) ({ frames := 0, cells := 0, slots := 0, locals := 0 } : Room) (Pz [.ref h9, .int p0, .int p1] D (TY kA) [(h9, rC R)]) (fQ none D [(h9, rC R)] [(h9, rC (rpF R p0 p1))]) 0 0 (Aw [(h9, rC R)]) := by
  refine MetZ (by decide +kernel) (Nat.le_of_ble_eq_true rfl) ?_
  intro p e s m below meth c ls hx hb hrt hts hown hml hlk hnm hP hK hD hS hl
  have hl : lv_has ls 3 [(0, .ref h9), (1, .int p0), (2, .int p1)] := hl
  refine lv_iload_n hx hb dX3_put_0 rfl (lv_at hl 1 rfl) ?_
  by_cases c_1 : p0 = 0
  · skip
    refine lv_tableIn (off := 35) (tgt := 36) hx hb dX3_put_1 (by rw [c_1]; decide) (by rw [c_1]; decide) (by rw [c_1]; decide +kernel) (by decide) ?_
    refine lv_aload_n hx hb dX3_put_36 rfl (lv_at hl 0 rfl) ?_
    refine lv_iload_n hx hb dX3_put_37 rfl (lv_at hl 2 rfl) ?_
    refine va_put (ci := 3) (v := .int p1) (ty := tyX3 0) (C := RX3) (T := TX3) (N := 6) hx hb hts inX3 tyX3 tyX3_ok nmX3 hown hK hP hD hS 0 rfl rfl 0 (by decide) (hts _ q_35) (fun _ h9 => h9) rfl (tyX3_ok 0 (by decide)) rfl rfl (Nat.le_of_ble_eq_true rfl) dX3_put_38 (fun H locs hP hD hS => ?_)
    have hP : va_P D vwCl [(h9, .inr (3, [.int p1, .int (R 1), .int (R 2), .int (R 3), .int (R 4), .int (R 5)]))] H := hP
    have hD : va_D (Aw [(h9, rC R)]) [(h9, .inr (3, [.int p1, .int (R 1), .int (R 2), .int (R 3), .int (R 4), .int (R 5)]))] := hD
    refine lv_goto (tgt := 81) hx hb dX3_put_41 (by decide) ?_
    have hP : va_P D vwCl [(h9, .inr (3, [.int p1, .int (R 1), .int (R 2), .int (R 3), .int (R 4), .int (R 5)]))] _ := hP.sub [0] rfl
    exact end_fv hx hb hrt hlk hP hS (by intro h; rw [rpF, if_pos c_1]; exact h) dX3_put_81
  by_cases c_2 : p0 = 1
  · skip
    refine lv_tableIn (off := 43) (tgt := 44) hx hb dX3_put_1 (by rw [c_2]; decide) (by rw [c_2]; decide) (by rw [c_2]; decide +kernel) (by decide) ?_
    refine lv_aload_n hx hb dX3_put_44 rfl (lv_at hl 0 rfl) ?_
    refine lv_iload_n hx hb dX3_put_45 rfl (lv_at hl 2 rfl) ?_
    refine va_put (ci := 3) (v := .int p1) (ty := tyX3 1) (C := RX3) (T := TX3) (N := 6) hx hb hts inX3 tyX3 tyX3_ok nmX3 hown hK hP hD hS 0 rfl rfl 1 (by decide) (hts _ q_37) (fun _ h9 => h9) rfl (tyX3_ok 1 (by decide)) rfl rfl (Nat.le_of_ble_eq_true rfl) dX3_put_46 (fun H locs hP hD hS => ?_)
    have hP : va_P D vwCl [(h9, .inr (3, [.int (R 0), .int p1, .int (R 2), .int (R 3), .int (R 4), .int (R 5)]))] H := hP
    have hD : va_D (Aw [(h9, rC R)]) [(h9, .inr (3, [.int (R 0), .int p1, .int (R 2), .int (R 3), .int (R 4), .int (R 5)]))] := hD
    refine lv_goto (tgt := 81) hx hb dX3_put_49 (by decide) ?_
    have hP : va_P D vwCl [(h9, .inr (3, [.int (R 0), .int p1, .int (R 2), .int (R 3), .int (R 4), .int (R 5)]))] _ := hP.sub [0] rfl
    exact end_fv hx hb hrt hlk hP hS (by intro h; rw [rpF, if_neg c_1, if_pos c_2]; exact h) dX3_put_81
  by_cases c_3 : p0 = 2
  · skip
    refine lv_tableIn (off := 51) (tgt := 52) hx hb dX3_put_1 (by rw [c_3]; decide) (by rw [c_3]; decide) (by rw [c_3]; decide +kernel) (by decide) ?_
    refine lv_aload_n hx hb dX3_put_52 rfl (lv_at hl 0 rfl) ?_
    refine lv_iload_n hx hb dX3_put_53 rfl (lv_at hl 2 rfl) ?_
    refine va_put (ci := 3) (v := .int p1) (ty := tyX3 2) (C := RX3) (T := TX3) (N := 6) hx hb hts inX3 tyX3 tyX3_ok nmX3 hown hK hP hD hS 0 rfl rfl 2 (by decide) (hts _ q_39) (fun _ h9 => h9) rfl (tyX3_ok 2 (by decide)) rfl rfl (Nat.le_of_ble_eq_true rfl) dX3_put_54 (fun H locs hP hD hS => ?_)
    have hP : va_P D vwCl [(h9, .inr (3, [.int (R 0), .int (R 1), .int p1, .int (R 3), .int (R 4), .int (R 5)]))] H := hP
    have hD : va_D (Aw [(h9, rC R)]) [(h9, .inr (3, [.int (R 0), .int (R 1), .int p1, .int (R 3), .int (R 4), .int (R 5)]))] := hD
    refine lv_goto (tgt := 81) hx hb dX3_put_57 (by decide) ?_
    have hP : va_P D vwCl [(h9, .inr (3, [.int (R 0), .int (R 1), .int p1, .int (R 3), .int (R 4), .int (R 5)]))] _ := hP.sub [0] rfl
    exact end_fv hx hb hrt hlk hP hS (by intro h; rw [rpF, if_neg c_1, if_neg c_2, if_pos c_3]; exact h) dX3_put_81
  by_cases c_4 : p0 = 3
  · skip
    refine lv_tableIn (off := 59) (tgt := 60) hx hb dX3_put_1 (by rw [c_4]; decide) (by rw [c_4]; decide) (by rw [c_4]; decide +kernel) (by decide) ?_
    refine lv_aload_n hx hb dX3_put_60 rfl (lv_at hl 0 rfl) ?_
    refine lv_iload_n hx hb dX3_put_61 rfl (lv_at hl 2 rfl) ?_
    refine va_put (ci := 3) (v := .int p1) (ty := tyX3 3) (C := RX3) (T := TX3) (N := 6) hx hb hts inX3 tyX3 tyX3_ok nmX3 hown hK hP hD hS 0 rfl rfl 3 (by decide) (hts _ q_42) (fun _ h9 => h9) rfl (tyX3_ok 3 (by decide)) rfl rfl (Nat.le_of_ble_eq_true rfl) dX3_put_62 (fun H locs hP hD hS => ?_)
    have hP : va_P D vwCl [(h9, .inr (3, [.int (R 0), .int (R 1), .int (R 2), .int p1, .int (R 4), .int (R 5)]))] H := hP
    have hD : va_D (Aw [(h9, rC R)]) [(h9, .inr (3, [.int (R 0), .int (R 1), .int (R 2), .int p1, .int (R 4), .int (R 5)]))] := hD
    refine lv_goto (tgt := 81) hx hb dX3_put_65 (by decide) ?_
    have hP : va_P D vwCl [(h9, .inr (3, [.int (R 0), .int (R 1), .int (R 2), .int p1, .int (R 4), .int (R 5)]))] _ := hP.sub [0] rfl
    exact end_fv hx hb hrt hlk hP hS (by intro h; rw [rpF, if_neg c_1, if_neg c_2, if_neg c_3, if_pos c_4]; exact h) dX3_put_81
  by_cases c_5 : p0 = 4
  · skip
    refine lv_tableIn (off := 67) (tgt := 68) hx hb dX3_put_1 (by rw [c_5]; decide) (by rw [c_5]; decide) (by rw [c_5]; decide +kernel) (by decide) ?_
    refine lv_aload_n hx hb dX3_put_68 rfl (lv_at hl 0 rfl) ?_
    refine lv_iload_n hx hb dX3_put_69 rfl (lv_at hl 2 rfl) ?_
    refine va_put (ci := 3) (v := .int p1) (ty := tyX3 4) (C := RX3) (T := TX3) (N := 6) hx hb hts inX3 tyX3 tyX3_ok nmX3 hown hK hP hD hS 0 rfl rfl 4 (by decide) (hts _ q_44) (fun _ h9 => h9) rfl (tyX3_ok 4 (by decide)) rfl rfl (Nat.le_of_ble_eq_true rfl) dX3_put_70 (fun H locs hP hD hS => ?_)
    have hP : va_P D vwCl [(h9, .inr (3, [.int (R 0), .int (R 1), .int (R 2), .int (R 3), .int p1, .int (R 5)]))] H := hP
    have hD : va_D (Aw [(h9, rC R)]) [(h9, .inr (3, [.int (R 0), .int (R 1), .int (R 2), .int (R 3), .int p1, .int (R 5)]))] := hD
    refine lv_goto (tgt := 81) hx hb dX3_put_73 (by decide) ?_
    have hP : va_P D vwCl [(h9, .inr (3, [.int (R 0), .int (R 1), .int (R 2), .int (R 3), .int p1, .int (R 5)]))] _ := hP.sub [0] rfl
    exact end_fv hx hb hrt hlk hP hS (by intro h; rw [rpF, if_neg c_1, if_neg c_2, if_neg c_3, if_neg c_4, if_pos c_5]; exact h) dX3_put_81
  refine lv_tableOut (tgt := 76) hx hb dX3_put_1 (sw_out 0 4 (by intro k h1 h2; rcases (show k = 0 ∨ k = 1 ∨ k = 2 ∨ k = 3 ∨ k = 4 by omega) with rfl | rfl | rfl | rfl | rfl <;> first | exact lv_neT c_1 (by decide) | exact lv_neT c_2 (by decide) | exact lv_neT c_3 (by decide) | exact lv_neT c_4 (by decide) | exact lv_neT c_5 (by decide))) (by decide) ?_
  refine lv_aload_n hx hb dX3_put_76 rfl (lv_at hl 0 rfl) ?_
  refine lv_iload_n hx hb dX3_put_77 rfl (lv_at hl 2 rfl) ?_
  refine va_put (ci := 3) (v := .int p1) (ty := tyX3 5) (C := RX3) (T := TX3) (N := 6) hx hb hts inX3 tyX3 tyX3_ok nmX3 hown hK hP hD hS 0 rfl rfl 5 (by decide) (hts _ q_46) (fun _ h9 => h9) rfl (tyX3_ok 5 (by decide)) rfl rfl (Nat.le_of_ble_eq_true rfl) dX3_put_78 (fun H locs hP hD hS => ?_)
  have hP : va_P D vwCl [(h9, .inr (3, [.int (R 0), .int (R 1), .int (R 2), .int (R 3), .int (R 4), .int p1]))] H := hP
  have hD : va_D (Aw [(h9, rC R)]) [(h9, .inr (3, [.int (R 0), .int (R 1), .int (R 2), .int (R 3), .int (R 4), .int p1]))] := hD
  have hP : va_P D vwCl [(h9, .inr (3, [.int (R 0), .int (R 1), .int (R 2), .int (R 3), .int (R 4), .int p1]))] _ := hP.sub [0] rfl
  exact end_fv hx hb hrt hlk hP hS (by intro h; rw [rpF, if_neg c_1, if_neg c_2, if_neg c_3, if_neg c_4, if_neg c_5]; exact h) dX3_put_81

theorem hd_X3_copyFrom : yX3_copyFrom.cls ≠ "java/lang/invoke/MethodHandle" ∧ yX3_copyFrom.cls ≠ "java/lang/invoke/VarHandle" ∧ (parseMethodDescriptor yX3_copyFrom.desc).map (fun d => d.parameters.length) = some 1 := by decide +kernel
set_option maxRecDepth 100000 in
set_option maxHeartbeats 4000000 in
theorem m_X3_copyFrom (l : Launch) (D : va_G) (kA : Nat → Nat) (h9 : Nat) (R : Nat → Int32) (h8 : Nat) (R1 : Nat → Int32) : Met l yX3_copyFrom (Cond.code yX3_copyFrom cX3_copyFrom 2 none :: AW) ({ frames := 0, cells := 0, slots := 0, locals := 0 } : Room) (Pz [.ref h9, .ref h8] D (TY kA) [(h9, rC R), (h8, rC R1)]) (fQ none D [(h9, rC R), (h8, rC R1)] [(h9, rC R1), (h8, rC R1)]) 0 0 (Aw [(h9, rC R), (h8, rC R1)]) := by
  refine MetZ (by decide +kernel) (Nat.le_of_ble_eq_true rfl) ?_
  intro p e s m below meth c ls hx hb hrt hts hown hml hlk hnm hP hK hD hS hl
  have hl : lv_has ls 2 [(0, .ref h9), (1, .ref h8)] := hl
  refine lv_aload_n hx hb dX3_copyFrom_0 rfl (lv_at hl 0 rfl) ?_
  refine lv_aload_n hx hb dX3_copyFrom_1 rfl (lv_at hl 1 rfl) ?_
  refine va_get (ci := 3) (v := .int (R1 0)) (C := RX3) (T := TX3) (N := 6) hx hb hts inX3 hown hK hP 1 rfl rfl 0 (by decide) (hts _ q_35) (fun _ h9 => h9) rfl dX3_copyFrom_2 ?_
  refine va_put (ci := 3) (v := .int (R1 0)) (ty := tyX3 0) (C := RX3) (T := TX3) (N := 6) hx hb hts inX3 tyX3 tyX3_ok nmX3 hown hK hP hD hS 0 rfl rfl 0 (by decide) (hts _ q_35) (fun _ h9 => h9) rfl (tyX3_ok 0 (by decide)) rfl rfl (Nat.le_of_ble_eq_true rfl) dX3_copyFrom_5 (fun H locs hP hD hS => ?_)
  have hP : va_P D vwCl [(h9, .inr (3, [.int (R1 0), .int (R 1), .int (R 2), .int (R 3), .int (R 4), .int (R 5)])), (h8, rC R1)] H := hP
  have hD : va_D (Aw [(h9, rC R), (h8, rC R1)]) [(h9, .inr (3, [.int (R1 0), .int (R 1), .int (R 2), .int (R 3), .int (R 4), .int (R 5)])), (h8, rC R1)] := hD
  refine lv_aload_n hx hb dX3_copyFrom_8 rfl (lv_at hl 0 rfl) ?_
  refine lv_aload_n hx hb dX3_copyFrom_9 rfl (lv_at hl 1 rfl) ?_
  refine va_get (ci := 3) (v := .int (R1 1)) (C := RX3) (T := TX3) (N := 6) hx hb hts inX3 hown hK hP 1 rfl rfl 1 (by decide) (hts _ q_37) (fun _ h9 => h9) rfl dX3_copyFrom_10 ?_
  refine va_put (ci := 3) (v := .int (R1 1)) (ty := tyX3 1) (C := RX3) (T := TX3) (N := 6) hx hb hts inX3 tyX3 tyX3_ok nmX3 hown hK hP hD hS 0 rfl rfl 1 (by decide) (hts _ q_37) (fun _ h9 => h9) rfl (tyX3_ok 1 (by decide)) rfl rfl (Nat.le_of_ble_eq_true rfl) dX3_copyFrom_13 (fun H locs hP hD hS => ?_)
  have hP : va_P D vwCl [(h9, .inr (3, [.int (R1 0), .int (R1 1), .int (R 2), .int (R 3), .int (R 4), .int (R 5)])), (h8, rC R1)] H := hP
  have hD : va_D (Aw [(h9, rC R), (h8, rC R1)]) [(h9, .inr (3, [.int (R1 0), .int (R1 1), .int (R 2), .int (R 3), .int (R 4), .int (R 5)])), (h8, rC R1)] := hD
  refine lv_aload_n hx hb dX3_copyFrom_16 rfl (lv_at hl 0 rfl) ?_
  refine lv_aload_n hx hb dX3_copyFrom_17 rfl (lv_at hl 1 rfl) ?_
  refine va_get (ci := 3) (v := .int (R1 2)) (C := RX3) (T := TX3) (N := 6) hx hb hts inX3 hown hK hP 1 rfl rfl 2 (by decide) (hts _ q_39) (fun _ h9 => h9) rfl dX3_copyFrom_18 ?_
  refine va_put (ci := 3) (v := .int (R1 2)) (ty := tyX3 2) (C := RX3) (T := TX3) (N := 6) hx hb hts inX3 tyX3 tyX3_ok nmX3 hown hK hP hD hS 0 rfl rfl 2 (by decide) (hts _ q_39) (fun _ h9 => h9) rfl (tyX3_ok 2 (by decide)) rfl rfl (Nat.le_of_ble_eq_true rfl) dX3_copyFrom_21 (fun H locs hP hD hS => ?_)
  have hP : va_P D vwCl [(h9, .inr (3, [.int (R1 0), .int (R1 1), .int (R1 2), .int (R 3), .int (R 4), .int (R 5)])), (h8, rC R1)] H := hP
  have hD : va_D (Aw [(h9, rC R), (h8, rC R1)]) [(h9, .inr (3, [.int (R1 0), .int (R1 1), .int (R1 2), .int (R 3), .int (R 4), .int (R 5)])), (h8, rC R1)] := hD
  refine lv_aload_n hx hb dX3_copyFrom_24 rfl (lv_at hl 0 rfl) ?_
  refine lv_aload_n hx hb dX3_copyFrom_25 rfl (lv_at hl 1 rfl) ?_
  refine va_get (ci := 3) (v := .int (R1 3)) (C := RX3) (T := TX3) (N := 6) hx hb hts inX3 hown hK hP 1 rfl rfl 3 (by decide) (hts _ q_42) (fun _ h9 => h9) rfl dX3_copyFrom_26 ?_
  refine va_put (ci := 3) (v := .int (R1 3)) (ty := tyX3 3) (C := RX3) (T := TX3) (N := 6) hx hb hts inX3 tyX3 tyX3_ok nmX3 hown hK hP hD hS 0 rfl rfl 3 (by decide) (hts _ q_42) (fun _ h9 => h9) rfl (tyX3_ok 3 (by decide)) rfl rfl (Nat.le_of_ble_eq_true rfl) dX3_copyFrom_29 (fun H locs hP hD hS => ?_)
  have hP : va_P D vwCl [(h9, .inr (3, [.int (R1 0), .int (R1 1), .int (R1 2), .int (R1 3), .int (R 4), .int (R 5)])), (h8, rC R1)] H := hP
  have hD : va_D (Aw [(h9, rC R), (h8, rC R1)]) [(h9, .inr (3, [.int (R1 0), .int (R1 1), .int (R1 2), .int (R1 3), .int (R 4), .int (R 5)])), (h8, rC R1)] := hD
  refine lv_aload_n hx hb dX3_copyFrom_32 rfl (lv_at hl 0 rfl) ?_
  refine lv_aload_n hx hb dX3_copyFrom_33 rfl (lv_at hl 1 rfl) ?_
  refine va_get (ci := 3) (v := .int (R1 4)) (C := RX3) (T := TX3) (N := 6) hx hb hts inX3 hown hK hP 1 rfl rfl 4 (by decide) (hts _ q_44) (fun _ h9 => h9) rfl dX3_copyFrom_34 ?_
  refine va_put (ci := 3) (v := .int (R1 4)) (ty := tyX3 4) (C := RX3) (T := TX3) (N := 6) hx hb hts inX3 tyX3 tyX3_ok nmX3 hown hK hP hD hS 0 rfl rfl 4 (by decide) (hts _ q_44) (fun _ h9 => h9) rfl (tyX3_ok 4 (by decide)) rfl rfl (Nat.le_of_ble_eq_true rfl) dX3_copyFrom_37 (fun H locs hP hD hS => ?_)
  have hP : va_P D vwCl [(h9, .inr (3, [.int (R1 0), .int (R1 1), .int (R1 2), .int (R1 3), .int (R1 4), .int (R 5)])), (h8, rC R1)] H := hP
  have hD : va_D (Aw [(h9, rC R), (h8, rC R1)]) [(h9, .inr (3, [.int (R1 0), .int (R1 1), .int (R1 2), .int (R1 3), .int (R1 4), .int (R 5)])), (h8, rC R1)] := hD
  refine lv_aload_n hx hb dX3_copyFrom_40 rfl (lv_at hl 0 rfl) ?_
  refine lv_aload_n hx hb dX3_copyFrom_41 rfl (lv_at hl 1 rfl) ?_
  refine va_get (ci := 3) (v := .int (R1 5)) (C := RX3) (T := TX3) (N := 6) hx hb hts inX3 hown hK hP 1 rfl rfl 5 (by decide) (hts _ q_46) (fun _ h9 => h9) rfl dX3_copyFrom_42 ?_
  refine va_put (ci := 3) (v := .int (R1 5)) (ty := tyX3 5) (C := RX3) (T := TX3) (N := 6) hx hb hts inX3 tyX3 tyX3_ok nmX3 hown hK hP hD hS 0 rfl rfl 5 (by decide) (hts _ q_46) (fun _ h9 => h9) rfl (tyX3_ok 5 (by decide)) rfl rfl (Nat.le_of_ble_eq_true rfl) dX3_copyFrom_45 (fun H locs hP hD hS => ?_)
  have hP : va_P D vwCl [(h9, .inr (3, [.int (R1 0), .int (R1 1), .int (R1 2), .int (R1 3), .int (R1 4), .int (R1 5)])), (h8, rC R1)] H := hP
  have hD : va_D (Aw [(h9, rC R), (h8, rC R1)]) [(h9, .inr (3, [.int (R1 0), .int (R1 1), .int (R1 2), .int (R1 3), .int (R1 4), .int (R1 5)])), (h8, rC R1)] := hD
  have hP : va_P D vwCl [(h9, .inr (3, [.int (R1 0), .int (R1 1), .int (R1 2), .int (R1 3), .int (R1 4), .int (R1 5)])), (h8, rC R1)] _ := hP.sub [0, 1] rfl
  exact end_fv hx hb hrt hlk hP hS (fun h => h) dX3_copyFrom_48
end
section
/-! the class's world: 84 cells at the addresses ad 0 .. ad 83, their numbers in the rows X 0 .. X 9 (0 to 6: a state each, as one row of 148 numbers; 7: the trial axis; 8: newest, kept, length, and the reader's four; 9: the buffer) -/
def sl (z : Nat → Int32) (a : Nat) : Nat → Int32 := fun i => if i < 35 then z (i + (8 + 35 * a)) else 0
abbrev gA (ad : Nat → Nat) (r a : Nat) : Nat := ad (2 * (4 * r + a) + 5)
abbrev wA (ad : Nat → Nat) (r a : Nat) : Nat := ad (2 * (4 * r + a) + 6)
abbrev sA (ad : Nat → Nat) (r : Nat) : Nat := ad (3 * r + 63)
abbrev rA (ad : Nat → Nat) (r : Nat) : Nat := ad (3 * r + 64)
abbrev qA (ad : Nat → Nat) (r : Nat) : Nat := ad (3 * r + 65)
def sC (ad : Nat → Nat) (r : Nat) (z : Nat → Int32) : va_E := .inr (4, [.ref (rA ad r), .ref (qA ad r), .int (z 6), .int (z 7)])
def qC (kA ad : Nat → Nat) (r : Nat) : va_E := .inl (kA 1, 4, .inr (.inr (.inr (.inr (fun j => some (gA ad r j))))))
def aC (ad : Nat → Nat) (u : Nat → Int32) : va_E := .inr (5, [.ref (sA ad 0), .ref (ad 1), .ref (gA ad 7 0), .ref (ad 3), .ref (ad 4), .int (u 2)])
def hC (ad : Nat → Nat) (u : Nat → Int32) : va_E := .inr (1, [.ref (ad 2), .int (u 0), .int (u 1)])
def oC (kA ad : Nat → Nat) : va_E := .inl (kA 2, 6, .inr (.inr (.inr (.inr (fun j => some (sA ad (j + 1)))))))
def bC (kA : Nat → Nat) (t : Nat → Int32) : va_E := .inl (kA 0, 60, .inl t)
def qz (u : Nat → Int32) : Nat → Int32 := mkQ (u 3) (u 4) (u 5) (u 6)
def cX (kA ad : Nat → Nat) (X : Nat → Nat → Int32) (k : Nat) : va_E :=
  if k = 0 then aC ad (X 8) else if k = 1 then hC ad (X 8) else if k = 2 then oC kA ad else if k = 3 then dC (qz (X 8)) else if k = 4 then bC kA (X 9)
  else if k < 63 then (if k % 2 = 1 then gC (wA ad ((k - 5) / 8) ((k - 5) / 2 % 4)) (sl (X ((k - 5) / 8)) ((k - 5) / 2 % 4)) else wC kA (sl (X ((k - 5) / 8)) ((k - 5) / 2 % 4)))
  else if k % 3 = 0 then sC ad ((k - 63) / 3) (X ((k - 63) / 3)) else if k % 3 = 1 then rC (X ((k - 63) / 3)) else qC kA ad ((k - 63) / 3)
def cw (kA ad : Nat → Nat) (X : Nat → Nat → Int32) : va_W := (List.range 84).map fun k => (ad k, cX kA ad X k)
theorem cw_get {kA ad : Nat → Nat} {X : Nat → Nat → Int32} {k : Nat} (h : k < 84) {e : va_E} (he : cX kA ad X k = e) : (cw kA ad X)[k]? = some (ad k, e) := by
  subst he
  simp [cw, h]
theorem cw_len {kA ad : Nat → Nat} {X : Nat → Nat → Int32} : (cw kA ad X).length = 84 := by simp [cw]
theorem cw_inv {kA ad : Nat → Nat} {X : Nat → Nat → Int32} {k : Nat} {q : Nat × va_E} (h : (cw kA ad X)[k]? = some q) : k < 84 ∧ q = (ad k, cX kA ad X k) := by
  have hk : k < 84 := by rw [← cw_len (kA := kA) (ad := ad) (X := X)]; exact (List.getElem?_eq_some_iff.mp h).1
  exact ⟨hk, Option.some.inj (h.symm.trans (cw_get hk rfl))⟩
section CW
variable {kA ad : Nat → Nat} {X X' : Nat → Nat → Int32}
theorem cw_arm : (cw kA ad X)[0]? = some (ad 0, aC ad (X 8)) := cw_get (by omega) rfl
theorem cw_hist : (cw kA ad X)[1]? = some (ad 1, hC ad (X 8)) := cw_get (by omega) rfl
theorem cw_rows : (cw kA ad X)[2]? = some (ad 2, oC kA ad) := cw_get (by omega) rfl
theorem cw_read : (cw kA ad X)[3]? = some (ad 3, dC (qz (X 8))) := cw_get (by omega) rfl
theorem cw_buf : (cw kA ad X)[4]? = some (ad 4, bC kA (X 9)) := cw_get (by omega) rfl
theorem cX_gear {r a : Nat} (ha : a < 4) (hg : 4 * r + a < 29) : cX kA ad X (2 * (4 * r + a) + 5) = gC (wA ad r a) (sl (X r) a) := by
  have e1 : (2 * (4 * r + a) + 5 - 5) / 8 = r := by omega
  have e2 : (2 * (4 * r + a) + 5 - 5) / 2 % 4 = a := by omega
  rw [cX, if_neg (by omega), if_neg (by omega), if_neg (by omega), if_neg (by omega), if_neg (by omega), if_pos (by omega), if_pos (by omega), e1, e2]
theorem cX_wears {r a : Nat} (ha : a < 4) (hg : 4 * r + a < 29) : cX kA ad X (2 * (4 * r + a) + 6) = wC kA (sl (X r) a) := by
  have e1 : (2 * (4 * r + a) + 6 - 5) / 8 = r := by omega
  have e2 : (2 * (4 * r + a) + 6 - 5) / 2 % 4 = a := by omega
  rw [cX, if_neg (by omega), if_neg (by omega), if_neg (by omega), if_neg (by omega), if_neg (by omega), if_pos (by omega), if_neg (by omega), e1, e2]
theorem cX_state {r : Nat} : cX kA ad X (3 * r + 63) = sC ad r (X r) := by
  have e1 : (3 * r + 63 - 63) / 3 = r := by omega
  rw [cX, if_neg (by omega), if_neg (by omega), if_neg (by omega), if_neg (by omega), if_neg (by omega), if_neg (by omega), if_pos (by omega), e1]
theorem cX_rules {r : Nat} : cX kA ad X (3 * r + 64) = rC (X r) := by
  have e1 : (3 * r + 64 - 63) / 3 = r := by omega
  rw [cX, if_neg (by omega), if_neg (by omega), if_neg (by omega), if_neg (by omega), if_neg (by omega), if_neg (by omega), if_neg (by omega), if_pos (by omega), e1]
theorem cX_gears {r : Nat} : cX kA ad X (3 * r + 65) = qC kA ad r := by
  have e1 : (3 * r + 65 - 63) / 3 = r := by omega
  rw [cX, if_neg (by omega), if_neg (by omega), if_neg (by omega), if_neg (by omega), if_neg (by omega), if_neg (by omega), if_neg (by omega), if_neg (by omega), e1]
theorem cw_gear {r a : Nat} (ha : a < 4) (hg : 4 * r + a < 29) : (cw kA ad X)[2 * (4 * r + a) + 5]? = some (gA ad r a, gC (wA ad r a) (sl (X r) a)) := cw_get (by omega) (cX_gear ha hg)
theorem cw_wears {r a : Nat} (ha : a < 4) (hg : 4 * r + a < 29) : (cw kA ad X)[2 * (4 * r + a) + 6]? = some (wA ad r a, wC kA (sl (X r) a)) := cw_get (by omega) (cX_wears ha hg)
theorem cw_state {r : Nat} (hr : r < 7) : (cw kA ad X)[3 * r + 63]? = some (sA ad r, sC ad r (X r)) := cw_get (by omega) cX_state
theorem cw_rules {r : Nat} (hr : r < 7) : (cw kA ad X)[3 * r + 64]? = some (rA ad r, rC (X r)) := cw_get (by omega) cX_rules
theorem cw_gears {r : Nat} (hr : r < 7) : (cw kA ad X)[3 * r + 65]? = some (qA ad r, qC kA ad r) := cw_get (by omega) cX_gears
/-- which numbers a cell holds -/
def dep (j r i : Nat) : Prop :=
  (j = 0 ∧ r = 8 ∧ i = 2) ∨ (j = 1 ∧ r = 8 ∧ i < 2) ∨ (j = 3 ∧ r = 8 ∧ 3 ≤ i ∧ i < 7) ∨ (j = 4 ∧ r = 9) ∨ (5 ≤ j ∧ j < 63 ∧ r = (j - 5) / 8 ∧ 8 + 35 * ((j - 5) / 2 % 4) ≤ i ∧ i < 8 + 35 * ((j - 5) / 2 % 4) + 35) ∨ (63 ≤ j ∧ r = (j - 63) / 3 ∧ j % 3 = 0 ∧ 6 ≤ i ∧ i < 8) ∨ (63 ≤ j ∧ r = (j - 63) / 3 ∧ j % 3 = 1 ∧ i < 6)
theorem sl_eq {z z' : Nat → Int32} {a : Nat} (h : ∀ i, 8 + 35 * a ≤ i → i < 8 + 35 * a + 35 → z' i = z i) : sl z' a = sl z a := by
  funext i
  unfold sl
  by_cases hi : i < 35
  · rw [if_pos hi, if_pos hi]; exact h _ (by omega) (by omega)
  · rw [if_neg hi, if_neg hi]
theorem cX_eq {j : Nat} (h : ∀ r i, dep j r i → X' r i = X r i) : cX kA ad X' j = cX kA ad X j := by
  unfold cX
  by_cases h0 : j = 0
  · rw [if_pos h0, if_pos h0]; unfold aC; rw [h 8 2 (Or.inl ⟨h0, rfl, rfl⟩)]
  rw [if_neg h0, if_neg h0]
  by_cases h1 : j = 1
  · rw [if_pos h1, if_pos h1]; unfold hC; rw [h 8 0 (Or.inr (Or.inl ⟨h1, rfl, by omega⟩)), h 8 1 (Or.inr (Or.inl ⟨h1, rfl, by omega⟩))]
  rw [if_neg h1, if_neg h1]
  by_cases h2 : j = 2
  · rw [if_pos h2, if_pos h2]
  rw [if_neg h2, if_neg h2]
  by_cases h3 : j = 3
  · rw [if_pos h3, if_pos h3]
    have g : ∀ i, 3 ≤ i → i < 7 → X' 8 i = X 8 i := fun i a b => h 8 i (Or.inr (Or.inr (Or.inl ⟨h3, rfl, a, b⟩)))
    unfold qz; rw [g 3 (by omega) (by omega), g 4 (by omega) (by omega), g 5 (by omega) (by omega), g 6 (by omega) (by omega)]
  rw [if_neg h3, if_neg h3]
  by_cases h4 : j = 4
  · rw [if_pos h4, if_pos h4]
    have g : X' 9 = X 9 := funext fun i => h 9 i (Or.inr (Or.inr (Or.inr (Or.inl ⟨h4, rfl⟩))))
    rw [g]
  rw [if_neg h4, if_neg h4]
  by_cases h5 : j < 63
  · rw [if_pos h5, if_pos h5]
    have g : sl (X' ((j - 5) / 8)) ((j - 5) / 2 % 4) = sl (X ((j - 5) / 8)) ((j - 5) / 2 % 4) := sl_eq fun i a b => h _ i (Or.inr (Or.inr (Or.inr (Or.inr (Or.inl ⟨by omega, h5, rfl, a, b⟩)))))
    rw [g]
  rw [if_neg h5, if_neg h5]
  by_cases h6 : j % 3 = 0
  · rw [if_pos h6, if_pos h6]
    have g : ∀ i, 6 ≤ i → i < 8 → X' ((j - 63) / 3) i = X ((j - 63) / 3) i := fun i a b => h _ i (Or.inr (Or.inr (Or.inr (Or.inr (Or.inr (Or.inl ⟨by omega, rfl, h6, a, b⟩))))))
    unfold sC
    rw [g 6 (by omega) (by omega), g 7 (by omega) (by omega)]
  rw [if_neg h6, if_neg h6]
  by_cases h7 : j % 3 = 1
  · rw [if_pos h7, if_pos h7]
    have g : ∀ i, i < 6 → X' ((j - 63) / 3) i = X ((j - 63) / 3) i := fun i a => h _ i (Or.inr (Or.inr (Or.inr (Or.inr (Or.inr (Or.inr ⟨by omega, rfl, h7, a⟩))))))
    unfold rC
    rw [g 0 (by omega), g 1 (by omega), g 2 (by omega), g 3 (by omega), g 4 (by omega), g 5 (by omega)]
  rw [if_neg h7, if_neg h7]
theorem cw_fst : (cw kA ad X').map (fun q => q.1) = (cw kA ad X).map (fun q => q.1) := by unfold cw; rw [List.map_map, List.map_map]; rfl
theorem cw_D {A : Nat → Prop} (h : va_D A (cw kA ad X)) : va_D A (cw kA ad X') := h.congr cw_fst
theorem cw_set {k : Nat} (hk : k < 84) {e : va_E} (he : cX kA ad X' k = e) (hX : ∀ j, j < 84 → j ≠ k → cX kA ad X' j = cX kA ad X j) : (cw kA ad X).set k (ad k, e) = cw kA ad X' := by
  apply List.ext_getElem?
  intro j
  by_cases hj : j = k
  · subst hj
    rw [List.getElem?_set_self (by rw [cw_len]; exact hk), cw_get hk he]
  · rw [List.getElem?_set_ne (fun h => hj h.symm)]
    by_cases h84 : j < 84
    · rw [cw_get h84 rfl, cw_get h84 (hX j h84 hj)]
    · rw [List.getElem?_eq_none (by rw [cw_len]; omega), List.getElem?_eq_none (by rw [cw_len]; omega)]
def up2 (X : Nat → Nat → Int32) (r : Nat) (z : Nat → Int32) : Nat → Nat → Int32 := fun q => if q = r then z else X q
def up3 (X : Nat → Nat → Int32) (r i : Nat) (v : Int32) : Nat → Nat → Int32 := up2 X r (upd (X r) i v)
/-- the axis a of the row z becomes G -/
def inG (z : Nat → Int32) (a : Nat) (G : Nat → Int32) : Nat → Int32 := fun i => if 8 + 35 * a ≤ i ∧ i < 8 + 35 * a + 35 then G (i - (8 + 35 * a)) else z i
def upG (X : Nat → Nat → Int32) (r a : Nat) (G : Nat → Int32) : Nat → Nat → Int32 := up2 X r (inG (X r) a G)
def upQ (X : Nat → Nat → Int32) (Q : Nat → Int32) : Nat → Nat → Int32 := up2 X 8 (fun i => if 3 ≤ i ∧ i < 7 then Q (i - 3) else X 8 i)
theorem up2_s {r : Nat} {z : Nat → Int32} : up2 X r z r = z := if_pos rfl
theorem up2_n {r q : Nat} {z : Nat → Int32} (h : q ≠ r) : up2 X r z q = X q := if_neg h
theorem up3_ne {r i q k : Nat} {v : Int32} (h : q ≠ r ∨ k ≠ i) : up3 X r i v q k = X q k := by
  unfold up3
  by_cases hq : q = r
  · subst hq
    rw [up2_s]
    exact if_neg (h.elim (fun h => absurd rfl h) id)
  · rw [up2_n hq]
theorem up3_s {r i : Nat} {v : Int32} : up3 X r i v r i = v := by unfold up3; rw [up2_s]; exact if_pos rfl
theorem upG_ne {r a q k : Nat} {G : Nat → Int32} (h : q ≠ r ∨ k < 8 + 35 * a ∨ 8 + 35 * a + 35 ≤ k) : upG X r a G q k = X q k := by
  unfold upG
  by_cases hq : q = r
  · subst hq
    rw [up2_s]
    exact if_neg (h.elim (fun h => absurd rfl h) (fun h => by omega))
  · rw [up2_n hq]
theorem upG_s {r a : Nat} {G : Nat → Int32} {j : Nat} (hj : j < 35) : sl (upG X r a G r) a j = G j := by
  unfold upG sl inG
  rw [up2_s, if_pos hj, if_pos ⟨by omega, by omega⟩, Nat.add_sub_cancel]
theorem upQ_ne {Q : Nat → Int32} {q k : Nat} (h : q ≠ 8 ∨ k < 3 ∨ 7 ≤ k) : upQ X Q q k = X q k := by
  unfold upQ
  by_cases hq : q = 8
  · subst hq
    rw [up2_s]
    exact if_neg (h.elim (fun h => absurd rfl h) (fun h => by omega))
  · rw [up2_n hq]
end CW
end
section
/-! single cells changed, and worlds joined again behind a call -/
section CV
variable {kA ad : Nat → Nat} {X X' : Nat → Nat → Int32} {A0 : Nat → Prop} {D : va_G} {H H1 : Heap} {v : Int32}
theorem cw_congr (h : ∀ j, j < 84 → ∀ r i, dep j r i → X' r i = X r i) : cw kA ad X' = cw kA ad X := by
  unfold cw
  apply List.map_congr_left
  intro k hk
  rw [cX_eq (h k (List.mem_range.mp hk))]
theorem st_purse {r : Nat} (hr : r < 7) : (cw kA ad X).set (3 * r + 63) (sA ad r, .inr (4, [.ref (rA ad r), .ref (qA ad r), .int v, .int (X r 7)])) = cw kA ad (up3 X r 6 v) := by
  refine cw_set (by omega) ?_ (fun j hj hne => cX_eq (fun q i hd => up3_ne (by unfold dep at hd; omega)))
  rw [cX_state, sC, up3_s, up3_ne (Or.inr (by omega))]
theorem st_care {r : Nat} (hr : r < 7) : (cw kA ad X).set (3 * r + 63) (sA ad r, .inr (4, [.ref (rA ad r), .ref (qA ad r), .int (X r 6), .int v])) = cw kA ad (up3 X r 7 v) := by
  refine cw_set (by omega) ?_ (fun j hj hne => cX_eq (fun q i hd => up3_ne (by unfold dep at hd; omega)))
  rw [cX_state, sC, up3_s, up3_ne (Or.inr (by omega))]
theorem st_len : (cw kA ad X).set 0 (ad 0, .inr (5, [.ref (sA ad 0), .ref (ad 1), .ref (gA ad 7 0), .ref (ad 3), .ref (ad 4), .int v])) = cw kA ad (up3 X 8 2 v) := by
  refine cw_set (by omega) ?_ (fun j hj hne => cX_eq (fun q i hd => up3_ne (by unfold dep at hd; omega)))
  show aC ad (up3 X 8 2 v 8) = _
  rw [aC, up3_s]
theorem st_new : (cw kA ad X).set 1 (ad 1, .inr (1, [.ref (ad 2), .int v, .int (X 8 1)])) = cw kA ad (up3 X 8 0 v) := by
  refine cw_set (by omega) ?_ (fun j hj hne => cX_eq (fun q i hd => up3_ne (by unfold dep at hd; omega)))
  show hC ad (up3 X 8 0 v 8) = _
  rw [hC, up3_s, up3_ne (Or.inr (by omega))]
theorem st_kept : (cw kA ad X).set 1 (ad 1, .inr (1, [.ref (ad 2), .int (X 8 0), .int v])) = cw kA ad (up3 X 8 1 v) := by
  refine cw_set (by omega) ?_ (fun j hj hne => cX_eq (fun q i hd => up3_ne (by unfold dep at hd; omega)))
  show hC ad (up3 X 8 1 v 8) = _
  rw [hC, up3_s, up3_ne (Or.inr (by omega))]
theorem st_buf {i : Nat} : (cw kA ad X).set 4 (ad 4, .inl (kA 0, 60, .inl (upd (X 9) i v))) = cw kA ad (up3 X 9 i v) := by
  refine cw_set (by omega) ?_ (fun j hj hne => cX_eq (fun q i hd => up3_ne (by unfold dep at hd; omega)))
  show bC kA (up3 X 9 i v 9) = _
  unfold up3
  rw [up2_s]
  rfl
theorem sl_at {z : Nat → Int32} {a j : Nat} (hj : j < 35) : sl z a j = z (j + (8 + 35 * a)) := if_pos hj
theorem st_load {r a : Nat} (ha : a < 4) (hg : 4 * r + a < 29) : (cw kA ad X).set (2 * (4 * r + a) + 5) (gA ad r a, .inr (0, [.ref (wA ad r a), .int (sl (X r) a 0), .int (sl (X r) a 1), .int v, .int (sl (X r) a 3), .int (sl (X r) a 4), .int (sl (X r) a 5), .int (sl (X r) a 6), .int (sl (X r) a 7), .int (sl (X r) a 8), .int (sl (X r) a 9), .int (sl (X r) a 10)])) = cw kA ad (up3 X r (2 + (8 + 35 * a)) v) := by
  have g : ∀ j, j < 35 → j ≠ 2 → sl (up3 X r (2 + (8 + 35 * a)) v r) a j = sl (X r) a j := fun j hj hne => by rw [sl_at hj, sl_at hj, up3_ne (Or.inr (by omega))]
  have g2 : sl (up3 X r (2 + (8 + 35 * a)) v r) a 2 = v := by rw [sl_at (by omega), up3_s]
  refine cw_set (by omega) ?_ (fun j hj hne => ?_)
  · rw [cX_gear ha hg, gC, g2, g 0 (by omega) (by omega), g 1 (by omega) (by omega), g 3 (by omega) (by omega), g 4 (by omega) (by omega), g 5 (by omega) (by omega), g 6 (by omega) (by omega), g 7 (by omega) (by omega), g 8 (by omega) (by omega), g 9 (by omega) (by omega), g 10 (by omega) (by omega)]
  · by_cases hw : j = 2 * (4 * r + a) + 6
    · subst hw
      rw [cX_wears ha hg, cX_wears ha hg, wC, wC]
      have e : (fun t => sl (up3 X r (2 + (8 + 35 * a)) v r) a (t + 11)) = fun t => sl (X r) a (t + 11) := funext fun t => by
        by_cases ht : t + 11 < 35
        · exact g _ ht (by omega)
        · unfold sl; rw [if_neg ht, if_neg ht]
      rw [e]
    · exact cX_eq (fun q i hd => up3_ne (by unfold dep at hd; omega))
theorem st_greased {r a : Nat} (ha : a < 4) (hg : 4 * r + a < 29) : (cw kA ad X).set (2 * (4 * r + a) + 5) (gA ad r a, .inr (0, [.ref (wA ad r a), .int (sl (X r) a 0), .int (sl (X r) a 1), .int (sl (X r) a 2), .int (sl (X r) a 3), .int (sl (X r) a 4), .int v, .int (sl (X r) a 6), .int (sl (X r) a 7), .int (sl (X r) a 8), .int (sl (X r) a 9), .int (sl (X r) a 10)])) = cw kA ad (up3 X r (5 + (8 + 35 * a)) v) := by
  have g : ∀ j, j < 35 → j ≠ 5 → sl (up3 X r (5 + (8 + 35 * a)) v r) a j = sl (X r) a j := fun j hj hne => by rw [sl_at hj, sl_at hj, up3_ne (Or.inr (by omega))]
  have g2 : sl (up3 X r (5 + (8 + 35 * a)) v r) a 5 = v := by rw [sl_at (by omega), up3_s]
  refine cw_set (by omega) ?_ (fun j hj hne => ?_)
  · rw [cX_gear ha hg, gC, g2, g 0 (by omega) (by omega), g 1 (by omega) (by omega), g 2 (by omega) (by omega), g 3 (by omega) (by omega), g 4 (by omega) (by omega), g 6 (by omega) (by omega), g 7 (by omega) (by omega), g 8 (by omega) (by omega), g 9 (by omega) (by omega), g 10 (by omega) (by omega)]
  · by_cases hw : j = 2 * (4 * r + a) + 6
    · subst hw
      rw [cX_wears ha hg, cX_wears ha hg, wC, wC]
      have e : (fun t => sl (up3 X r (5 + (8 + 35 * a)) v r) a (t + 11)) = fun t => sl (X r) a (t + 11) := funext fun t => by
        by_cases ht : t + 11 < 35
        · exact g _ ht (by omega)
        · unfold sl; rw [if_neg ht, if_neg ht]
      rw [e]
    · exact cX_eq (fun q i hd => up3_ne (by unfold dep at hd; omega))
theorem P1 {cl : List vw_C} {ws : va_W} {x : Nat × va_E} (hP : va_P D cl ws H) {i : Nat} (hi : ws[i]? = some x) : va_P D cl [x] H := fun n q hq => by
  match n, hq with
  | 0, hq => cases hq; exact hP i _ hi
theorem P2 {cl : List vw_C} {ws : va_W} {x y : Nat × va_E} (hP : va_P D cl ws H) {i j : Nat} (hi : ws[i]? = some x) (hj : ws[j]? = some y) : va_P D cl [x, y] H := fun n q hq => by
  match n, hq with
  | 0, hq => cases hq; exact hP i _ hi
  | 1, hq => cases hq; exact hP j _ hj
theorem P3 {cl : List vw_C} {ws : va_W} {x y z : Nat × va_E} (hP : va_P D cl ws H) {i j k : Nat} (hi : ws[i]? = some x) (hj : ws[j]? = some y) (hk : ws[k]? = some z) : va_P D cl [x, y, z] H := fun n q hq => by
  match n, hq with
  | 0, hq => cases hq; exact hP i _ hi
  | 1, hq => cases hq; exact hP j _ hj
  | 2, hq => cases hq; exact hP k _ hk
theorem P4 {cl : List vw_C} {ws : va_W} {x y z u : Nat × va_E} (hP : va_P D cl ws H) {i j k n : Nat} (hi : ws[i]? = some x) (hj : ws[j]? = some y) (hk : ws[k]? = some z) (hn : ws[n]? = some u) : va_P D cl [x, y, z, u] H := fun n q hq => by
  match n, hq with
  | 0, hq => cases hq; exact hP i _ hi
  | 1, hq => cases hq; exact hP j _ hj
  | 2, hq => cases hq; exact hP k _ hk
  | 3, hq => cases hq; exact hP _ _ hn
theorem D1 {ws : va_W} {x : Nat × va_E} (hD : va_D A0 ws) {i : Nat} (hi : ws[i]? = some x) : va_D A0 [x] := hD.sub [i] rfl (by simp [hi])
theorem D2 {ws : va_W} {x y : Nat × va_E} (hD : va_D A0 ws) {i j : Nat} (hi : ws[i]? = some x) (hj : ws[j]? = some y) (h1 : i ≠ j) : va_D A0 [x, y] := hD.sub [i, j] (by simp [va_nd, h1]) (by simp [hi, hj])
theorem D3 {ws : va_W} {x y z : Nat × va_E} (hD : va_D A0 ws) {i j k : Nat} (hi : ws[i]? = some x) (hj : ws[j]? = some y) (hk : ws[k]? = some z) (h1 : i ≠ j) (h2 : i ≠ k) (h3 : j ≠ k) : va_D A0 [x, y, z] := hD.sub [i, j, k] (by simp [va_nd, h1, h2, h3]) (by simp [hi, hj, hk])
theorem D4 {ws : va_W} {x y z u : Nat × va_E} (hD : va_D A0 ws) {i j k n : Nat} (hi : ws[i]? = some x) (hj : ws[j]? = some y) (hk : ws[k]? = some z) (hn : ws[n]? = some u) (h1 : i ≠ j) (h2 : i ≠ k) (h3 : i ≠ n) (h4 : j ≠ k) (h5 : j ≠ n) (h6 : k ≠ n) : va_D A0 [x, y, z, u] := hD.sub [i, j, k, n] (by simp [va_nd, h1, h2, h3, h4, h5, h6]) (by simp [hi, hj, hk, hn])
theorem Aw_of {ws wc : va_W} (hD : va_D A0 ws) (h : ∀ q ∈ wc, ∃ i : Nat, ws[i]? = some q) : ∀ q, Aw wc q → A0 q := by
  intro q hq
  obtain ⟨k, e, h1⟩ := hq
  obtain ⟨i, hi⟩ := h _ (List.mem_of_getElem? h1)
  exact hD.2 i _ hi
theorem Aw_mem {wc : va_W} {q : Nat} (h : Aw wc q) : ∃ e, (q, e) ∈ wc := by
  obtain ⟨k, e, h1⟩ := h
  exact ⟨e, List.mem_of_getElem? h1⟩
theorem Aw_in {wc : va_W} {q : Nat × va_E} (h : q ∈ wc) : Aw wc q.1 := by
  obtain ⟨k, hk⟩ := List.getElem?_of_mem h
  exact ⟨k, q.2, hk⟩
/-- the class's world behind a call that changed some of its cells -/
theorem cw_join {wc : va_W} (hP : va_P D vwCl (cw kA ad X) H) (hk : ∀ q : Nat, q < H.size → ¬ Aw wc q → H1[q]? = H[q]?) (hin : ∀ k, k < 84 → Aw wc (ad k) → va_at D vwCl (ad k, cX kA ad X' k) H1) (hout : ∀ k, k < 84 → ¬ Aw wc (ad k) → cX kA ad X' k = cX kA ad X k) : va_P D vwCl (cw kA ad X') H1 := by
  intro k q hq
  obtain ⟨h84, rfl⟩ := cw_inv hq
  by_cases h : Aw wc (ad k)
  · exact hin k h84 h
  · rw [hout k h84 h]
    have h1 := hP k _ (cw_get h84 rfl)
    exact h1.kept (hk _ h1.lt h)
theorem cw_inj (hD : va_D A0 (cw kA ad X)) {i j : Nat} (hi : i < 84) (hj : j < 84) (h : ad i = ad j) : i = j := hD.1 i j _ _ (cw_get hi rfl) (cw_get hj rfl) h
theorem va_P.wears {D : va_G} {a : Nat} {G G' : Nat → Int32} (h : va_at D vwCl (a, wC kA G) H) (hG : ∀ t, t < 24 → G' (t + 11) = G (t + 11)) : va_at D vwCl (a, wC kA G') H := by
  have h1 : va_P D vwCl [(a, wC kA G)] H := fun n q hq => by
    match n, hq with
    | 0, hq => cases hq; exact h
  exact h1.ints 0 (fun t => G' (t + 11)) rfl (fun t ht => (hG t ht).symm) 0 _ rfl
/-- an axis has been changed by a call that saw it, and other cells that stay -/
theorem jn_G {r a : Nat} (ha : a < 4) (hg : 4 * r + a < 29) {G' : Nat → Int32} {wc w1 : va_W} (hP : va_P D vwCl (cw kA ad X) H) (hD : va_D A0 (cw kA ad X)) (hk : ∀ q : Nat, q < H.size → ¬ Aw wc q → H1[q]? = H[q]?) (hP1 : va_P D vwCl w1 H1)
    (h0 : w1[0]? = some (gA ad r a, gC (wA ad r a) G')) (h1 : w1[1]? = some (wA ad r a, wC kA G')) (hc0 : wc[0]? = some (gA ad r a, gC (wA ad r a) (sl (X r) a))) (hc1 : wc[1]? = some (wA ad r a, wC kA (sl (X r) a)))
    (hrest : ∀ q ∈ wc.drop 2, q ∈ w1 ∧ ∃ i, i < 84 ∧ i ≠ 2 * (4 * r + a) + 5 ∧ i ≠ 2 * (4 * r + a) + 6 ∧ q = (ad i, cX kA ad X i)) : va_P D vwCl (cw kA ad (upG X r a G')) H1 ∧ va_D A0 (cw kA ad (upG X r a G')) := by
  have hout : ∀ k, k < 84 → k ≠ 2 * (4 * r + a) + 5 → k ≠ 2 * (4 * r + a) + 6 → cX kA ad (upG X r a G') k = cX kA ad X k := fun k hk1 hk2 hk3 => cX_eq (fun q i hd => upG_ne (by unfold dep at hd; omega))
  refine ⟨cw_join hP hk (fun k h84 hA => ?_) (fun k h84 hA => ?_), cw_D hD⟩
  · by_cases e0 : k = 2 * (4 * r + a) + 5
    · subst e0
      rw [cX_gear ha hg]
      have hx := hP1 0 _ h0
      have e : gC (wA ad r a) (sl (upG X r a G' r) a) = gC (wA ad r a) G' := by
        unfold gC
        rw [upG_s (by omega), upG_s (by omega), upG_s (by omega), upG_s (by omega), upG_s (by omega), upG_s (by omega), upG_s (by omega), upG_s (by omega), upG_s (by omega), upG_s (by omega), upG_s (by omega)]
      rw [e]; exact hx
    by_cases e1 : k = 2 * (4 * r + a) + 6
    · subst e1
      rw [cX_wears ha hg]
      exact va_P.wears (hP1 1 _ h1) (fun t ht => upG_s (by omega))
    obtain ⟨n, e, hn⟩ := hA
    match n, hn with
    | 0, hn => exact absurd (cw_inj hD h84 (by omega) (congrArg Prod.fst (Option.some.inj (hn.symm.trans hc0)))) e0
    | 1, hn => exact absurd (cw_inj hD h84 (by omega) (congrArg Prod.fst (Option.some.inj (hn.symm.trans hc1)))) e1
    | n + 2, hn =>
      have hmem : (ad k, e) ∈ wc.drop 2 := List.mem_of_getElem? (i := n) (by rw [List.getElem?_drop, Nat.add_comm]; exact hn)
      obtain ⟨hm, i, hi, hi0, hi1, hq⟩ := hrest _ hmem
      have hki : k = i := cw_inj hD h84 hi (congrArg Prod.fst hq)
      subst hki
      obtain ⟨z, hz⟩ := List.getElem?_of_mem hm
      rw [hout k h84 e0 e1, ← (show e = cX kA ad X k from congrArg Prod.snd hq)]
      exact hP1 z _ hz
  · refine hout k h84 (fun h => hA ?_) (fun h => hA ?_)
    · subst h; exact ⟨0, _, hc0⟩
    · subst h; exact ⟨1, _, hc1⟩
end CV
end
section
/-! joins of the class's world, one a kind of call -/
section CJ
variable {kA ad : Nat → Nat} {X X' : Nat → Nat → Int32} {A0 : Nat → Prop} {D : va_G} {H H1 : Heap} {v : Int32}
theorem cw_Aw {q : Nat} (h : Aw (cw kA ad X') q) : Aw (cw kA ad X) q := by
  obtain ⟨k, e, h1⟩ := h
  obtain ⟨h84, h2⟩ := cw_inv h1
  exact ⟨k, _, by rw [cw_get h84 rfl, ← (show q = ad k from congrArg Prod.fst h2)]⟩
theorem cw_sub {wc : va_W} (h : ∀ q ∈ wc, ∃ k : Nat, k < 84 ∧ q.1 = ad k) : ∀ q, Aw wc q → Aw (cw kA ad X) q := by
  intro q hq
  obtain ⟨e, he⟩ := Aw_mem hq
  obtain ⟨k, hk, h1⟩ := h _ he
  exact ⟨k, _, by rw [cw_get hk rfl, ← h1]⟩
theorem jn_G3 {r a r' : Nat} (ha : a < 4) (hg : 4 * r + a < 29) (hr : r' < 7) {G' : Nat → Int32} (hP : va_P D vwCl (cw kA ad X) H) (hD : va_D A0 (cw kA ad X))
    (hk : ∀ q : Nat, q < H.size → ¬ Aw [(gA ad r a, gC (wA ad r a) (sl (X r) a)), (wA ad r a, wC kA (sl (X r) a)), (rA ad r', rC (X r'))] q → H1[q]? = H[q]?) (hP1 : va_P D vwCl [(gA ad r a, gC (wA ad r a) G'), (wA ad r a, wC kA G'), (rA ad r', rC (X r'))] H1) : va_P D vwCl (cw kA ad (upG X r a G')) H1 ∧ va_D A0 (cw kA ad (upG X r a G')) :=
  jn_G ha hg hP hD hk hP1 rfl rfl rfl rfl (fun q hq => by
    have hq2 : q = (rA ad r', rC (X r')) := List.mem_singleton.mp hq
    subst hq2
    exact ⟨List.mem_of_getElem? (i := 2) rfl, 3 * r' + 64, by omega, by omega, by omega, by rw [cX_rules]⟩)
theorem jn_G2 {r a : Nat} (ha : a < 4) (hg : 4 * r + a < 29) {G' : Nat → Int32} (hP : va_P D vwCl (cw kA ad X) H) (hD : va_D A0 (cw kA ad X))
    (hk : ∀ q : Nat, q < H.size → ¬ Aw [(gA ad r a, gC (wA ad r a) (sl (X r) a)), (wA ad r a, wC kA (sl (X r) a))] q → H1[q]? = H[q]?) (hP1 : va_P D vwCl [(gA ad r a, gC (wA ad r a) G'), (wA ad r a, wC kA G')] H1) : va_P D vwCl (cw kA ad (upG X r a G')) H1 ∧ va_D A0 (cw kA ad (upG X r a G')) :=
  jn_G ha hg hP hD hk hP1 rfl rfl rfl rfl (fun q hq => absurd hq List.not_mem_nil)
theorem jn_G4 {r a r' a' : Nat} (ha : a < 4) (hg : 4 * r + a < 29) (ha' : a' < 4) (hg' : 4 * r' + a' < 29) (hne : 4 * r + a ≠ 4 * r' + a') {G' : Nat → Int32} (hP : va_P D vwCl (cw kA ad X) H) (hD : va_D A0 (cw kA ad X))
    (hk : ∀ q : Nat, q < H.size → ¬ Aw [(gA ad r a, gC (wA ad r a) (sl (X r) a)), (wA ad r a, wC kA (sl (X r) a)), (gA ad r' a', gC (wA ad r' a') (sl (X r') a')), (wA ad r' a', wC kA (sl (X r') a'))] q → H1[q]? = H[q]?)
    (hP1 : va_P D vwCl [(gA ad r a, gC (wA ad r a) G'), (wA ad r a, wC kA G'), (gA ad r' a', gC (wA ad r' a') (sl (X r') a')), (wA ad r' a', wC kA (sl (X r') a'))] H1) : va_P D vwCl (cw kA ad (upG X r a G')) H1 ∧ va_D A0 (cw kA ad (upG X r a G')) :=
  jn_G ha hg hP hD hk hP1 rfl rfl rfl rfl (fun q hq => by
    rcases List.mem_cons.mp hq with hq2 | hq2
    · subst hq2
      exact ⟨List.mem_of_getElem? (i := 2) rfl, 2 * (4 * r' + a') + 5, by omega, by omega, by omega, by rw [cX_gear ha' hg']⟩
    · have hq3 := List.mem_singleton.mp hq2
      subst hq3
      exact ⟨List.mem_of_getElem? (i := 3) rfl, 2 * (4 * r' + a') + 6, by omega, by omega, by omega, by rw [cX_wears ha' hg']⟩)
theorem jn_Q {Q' : Nat → Int32} (hP : va_P D vwCl (cw kA ad X) H) (hD : va_D A0 (cw kA ad X)) (hk : ∀ q : Nat, q < H.size → ¬ Aw [(ad 3, dC (qz (X 8)))] q → H1[q]? = H[q]?) (hP1 : va_P D vwCl [(ad 3, dC Q')] H1) : va_P D vwCl (cw kA ad (upQ X Q')) H1 ∧ va_D A0 (cw kA ad (upQ X Q')) := by
  have hout : ∀ k, k < 84 → k ≠ 3 → cX kA ad (upQ X Q') k = cX kA ad X k := fun k hk1 hk2 => cX_eq (fun q i hd => upQ_ne (by unfold dep at hd; omega))
  refine ⟨cw_join hP hk (fun k h84 hA => ?_) (fun k h84 hA => hout k h84 (fun h => hA (by subst h; exact ⟨0, _, rfl⟩))), cw_D hD⟩
  obtain ⟨e, he⟩ := Aw_mem hA
  have h3 : ad k = ad 3 := congrArg Prod.fst (List.mem_singleton.mp he)
  have hk3 := cw_inj hD h84 (by omega) h3
  subst hk3
  have hx := hP1 0 _ rfl
  show va_at D vwCl (ad 3, dC (qz (upQ X Q' 8))) H1
  have e : dC (qz (upQ X Q' 8)) = dC Q' := by
    unfold upQ
    rw [up2_s]
    rfl
  rw [e]; exact hx
theorem jn_R {r : Nat} (hr : r < 7) {R' : Nat → Int32} (hR : ∀ i, 6 ≤ i → R' i = X r i) (hP : va_P D vwCl (cw kA ad X) H) (hD : va_D A0 (cw kA ad X)) (hk : ∀ q : Nat, q < H.size → ¬ Aw [(rA ad r, rC (X r))] q → H1[q]? = H[q]?) (hP1 : va_P D vwCl [(rA ad r, rC R')] H1) : va_P D vwCl (cw kA ad (up2 X r R')) H1 ∧ va_D A0 (cw kA ad (up2 X r R')) := by
  have hX : ∀ q i, q ≠ r ∨ 6 ≤ i → up2 X r R' q i = X q i := fun q i h => by
    by_cases hq : q = r
    · subst hq
      rw [up2_s]
      exact hR i (h.elim (fun h => absurd rfl h) id)
    · rw [up2_n hq]
  have hout : ∀ k, k < 84 → k ≠ 3 * r + 64 → cX kA ad (up2 X r R') k = cX kA ad X k := fun k hk1 hk2 => cX_eq (fun q i hd => hX q i (by unfold dep at hd; omega))
  refine ⟨cw_join hP hk (fun k h84 hA => ?_) (fun k h84 hA => hout k h84 (fun h => hA (by subst h; exact ⟨0, _, rfl⟩))), cw_D hD⟩
  obtain ⟨e, he⟩ := Aw_mem hA
  have h3 : ad k = rA ad r := congrArg Prod.fst (List.mem_singleton.mp he)
  have hk3 := cw_inj hD h84 (by omega) h3
  subst hk3
  rw [cX_rules, up2_s]
  exact hP1 0 _ rfl
/-- the rules of a state taken from another one's -/
def cpR (X : Nat → Nat → Int32) (r r' : Nat) : Nat → Nat → Int32 := up2 X r (fun i => if i < 6 then X r' i else X r i)
theorem jn_RR {r r' : Nat} (hr : r < 7) (hr' : r' < 7) (hne : r ≠ r') (hP : va_P D vwCl (cw kA ad X) H) (hD : va_D A0 (cw kA ad X)) (hk : ∀ q : Nat, q < H.size → ¬ Aw [(rA ad r, rC (X r)), (rA ad r', rC (X r'))] q → H1[q]? = H[q]?) (hP1 : va_P D vwCl [(rA ad r, rC (X r')), (rA ad r', rC (X r'))] H1) : va_P D vwCl (cw kA ad (cpR X r r')) H1 ∧ va_D A0 (cw kA ad (cpR X r r')) := by
  have hX : ∀ q i, q ≠ r ∨ 6 ≤ i → cpR X r r' q i = X q i := fun q i h => by
    unfold cpR
    by_cases hq : q = r
    · subst hq
      rw [up2_s]
      exact if_neg (by omega)
    · rw [up2_n hq]
  have hout : ∀ k, k < 84 → k ≠ 3 * r + 64 → cX kA ad (cpR X r r') k = cX kA ad X k := fun k hk1 hk2 => cX_eq (fun q i hd => hX q i (by unfold dep at hd; omega))
  refine ⟨cw_join hP hk (fun k h84 hA => ?_) (fun k h84 hA => hout k h84 (fun h => hA (by subst h; exact ⟨0, _, rfl⟩))), cw_D hD⟩
  by_cases hk0 : k = 3 * r + 64
  · subst hk0
    rw [cX_rules]
    have e : rC (cpR X r r' r) = rC (X r') := by
      unfold cpR
      rw [up2_s]
      rfl
    rw [e]
    exact hP1 0 _ rfl
  obtain ⟨e, he⟩ := Aw_mem hA
  rcases List.mem_cons.mp he with h1 | h1
  · exact absurd (cw_inj hD h84 (by omega) (congrArg Prod.fst h1 : ad k = rA ad r)) hk0
  · have h3 : ad k = rA ad r' := congrArg Prod.fst (List.mem_singleton.mp h1)
    have hk3 := cw_inj hD h84 (by omega) h3
    subst hk3
    rw [hout _ h84 hk0, cX_rules]
    exact hP1 1 _ rfl
end CJ
/-! the state's and the history's own words -/
def foldL (g : Nat → Int32 → Int32) : Nat → Nat → Int32 → Int32
  | 0, _, s => s
  | n + 1, j, s => foldL g n (j + 1) (g j s)
def sumX (z : Nat → Int32) (w : Int32) : Int32 := foldL (fun a s => s + propG (sl z a) w) 4 0 0
def wearX (z : Nat → Int32) : Int32 := foldL (fun a s => foldL (fun t s => s + gwr (sl z a) (nI t)) 24 0 s) 4 0 0
def wornX (z : Nat → Int32) (w : Int32) : Int32 := foldL (fun a s => foldL (fun t s => if gwr (sl z a) (nI t) < w then s else s + 1) 24 0 s) 4 0 0
def belX (z : Nat → Int32) : Int32 := foldL (fun a s => if sl z a 0 = sl z a 1 then s + 1 else s) 4 0 0
def payX (X : Nat → Nat → Int32) (r : Nat) (k : Int32) : Nat → Nat → Int32 := up3 (up3 X r 6 (X r 6 - k)) r 7 (up3 X r 6 (X r 6 - k) r 7 + k)
def nx6 (w : Nat) : Nat := if w + 1 < 6 then w + 1 else 0
def pv6 (w : Nat) : Nat := if 0 < w then w - 1 else 5
def kpU (k : Int32) : Int32 := if 6 < k + 1 then 6 else k + 1
def kpD (k : Int32) : Int32 := if k - 1 < 0 then 0 else k - 1
/-- the state 0 saved: w is where the newest row lies -/
def svX (X : Nat → Nat → Int32) (w : Nat) : Nat → Nat → Int32 := up2 (up3 (up3 X 8 0 (nI (nx6 w))) 8 1 (kpU (X 8 1))) (nx6 w + 1) (X 0)
def rsX (X : Nat → Nat → Int32) (w : Nat) : Nat → Nat → Int32 := up3 (up3 (up2 X 0 (X (w + 1))) 8 0 (nI (pv6 w))) 8 1 (kpD (X 8 1))
theorem clamp_j {x : Int32} {j : Nat} (e : x = nI j) (h : j < 2 ^ 31) : x.toNatClampNeg = j := by subst e; exact nI_clamp h
theorem neg_of {x : Int32} {j : Nat} (e : x = nI j) (h : j < 2 ^ 31) : ¬ x < 0 := by subst e; exact nI_pos h
theorem in_nI {x : Int32} {j N : Nat} (e : x = nI j) (h : j < N) (hN : N < 2 ^ 31) : vp_in x N := by subst e; exact vp_in_nI h hN
end
section
/-! pure rows for the state's and the history's walks -/
section CK
variable {X Y : Nat → Nat → Int32} {r r2 w j : Nat}
theorem le_of_bad {x : Int32} (h : x < 0 ∨ ¬ x < 4) (h0 : ¬ x < 0) : 4 ≤ x := by
  rcases h with h | h
  · exact absurd h h0
  · exact Int32.not_lt.mp h
theorem nx6_lt (w : Nat) : nx6 w < 6 := by unfold nx6; split <;> omega
theorem pv6_lt {w : Nat} (h : w < 6) : pv6 w < 6 := by unfold pv6; split <;> omega
theorem sv_w1 {x : Int32} (hw : x = nI w) (hw6 : w < 6) (c : x + 1 < 6) : x + 1 = nI (nx6 w) := by
  subst hw
  have h : w + 1 < 6 := by
    rw [nI_1] at c
    exact (nI_ltI (by omega) (by omega)).mp c
  rw [nI_1, nx6, if_pos h]
theorem sv_w0 {x : Int32} (hw : x = nI w) (hw6 : w < 6) (c : ¬ x + 1 < 6) : (0 : Int32) = nI (nx6 w) := by
  subst hw
  have h : ¬ w + 1 < 6 := fun h => c (by rw [nI_1]; exact (nI_ltI (b := 6) (by omega) (by omega)).mpr h)
  rw [nx6, if_neg h]
  rfl
theorem rs_w1 {x : Int32} (hw : x = nI w) (hw6 : w < 6) (c : 0 < x) : x - 1 = nI (pv6 w) := by
  subst hw
  have h : 0 < w := (nI_ltI (a := 0) (by omega) (by omega)).mp c
  obtain ⟨k, rfl⟩ : ∃ k, w = k + 1 := ⟨w - 1, by omega⟩
  rw [nI_pred, pv6, if_pos h]
  rfl
theorem rs_w0 {x : Int32} (hw : x = nI w) (hw6 : w < 6) (c : ¬ 0 < x) : (5 : Int32) = nI (pv6 w) := by
  subst hw
  have h : ¬ 0 < w := fun h => c ((nI_ltI (a := 0) (by omega) (by omega)).mpr h)
  rw [pv6, if_neg h]
  rfl
theorem sv_eq {v : Int32} {k : Nat} : up2 (up3 (up3 X 8 0 v) 8 1 (if 6 < up3 X 8 0 v 8 1 + 1 then 6 else up3 X 8 0 v 8 1 + 1)) k (up3 (up3 X 8 0 v) 8 1 (if 6 < up3 X 8 0 v 8 1 + 1 then 6 else up3 X 8 0 v 8 1 + 1) 0) = up2 (up3 (up3 X 8 0 v) 8 1 (kpU (X 8 1))) k (X 0) := by
  have e1 : up3 X 8 0 v 8 1 = X 8 1 := up3_ne (Or.inr (by omega))
  rw [e1]
  have e2 : up3 (up3 X 8 0 v) 8 1 (if 6 < X 8 1 + 1 then 6 else X 8 1 + 1) 0 = X 0 := funext fun i => by rw [up3_ne (Or.inl (by omega)), up3_ne (Or.inl (by omega))]
  rw [e2]
  rfl
theorem rs_eq {v : Int32} {z : Nat → Int32} : up3 (up3 (up2 X 0 z) 8 0 v) 8 1 (if up3 (up2 X 0 z) 8 0 v 8 1 - 1 < 0 then 0 else up3 (up2 X 0 z) 8 0 v 8 1 - 1) = up3 (up3 (up2 X 0 z) 8 0 v) 8 1 (kpD (X 8 1)) := by
  have e1 : up3 (up2 X 0 z) 8 0 v 8 1 = X 8 1 := by rw [up3_ne (Or.inr (by omega)), up2_n (by omega)]
  rw [e1]
  rfl
theorem cpR_ne {q i : Nat} (h : q ≠ r) : cpR X r r2 q i = X q i := by unfold cpR; rw [up2_n h]
theorem cp_0 (hne : r ≠ r2) : (∀ q i, q ≠ r → up3 (up3 (cpR X r r2) r 6 (cpR X r r2 r2 6)) r 7 (up3 (cpR X r r2) r 6 (cpR X r r2 r2 6) r2 7) q i = X q i) ∧ ∀ i, i < 8 + 35 * 0 → up3 (up3 (cpR X r r2) r 6 (cpR X r r2 r2 6)) r 7 (up3 (cpR X r r2) r 6 (cpR X r r2 r2 6) r2 7) r i = X r2 i := by
  have hn2 : r2 ≠ r := fun h => hne h.symm
  refine ⟨fun q i hq => by rw [up3_ne (Or.inl hq), up3_ne (Or.inl hq), cpR_ne hq], fun i hi => ?_⟩
  by_cases h7 : i = 7
  · subst h7
    rw [up3_s, up3_ne (Or.inl hn2), cpR_ne hn2]
  rw [up3_ne (Or.inr h7)]
  by_cases h6 : i = 6
  · subst h6
    rw [up3_s, cpR_ne hn2]
  rw [up3_ne (Or.inr h6)]
  unfold cpR
  rw [up2_s]
  exact if_pos (by omega)
theorem cp_1 (hne : r ≠ r2) (h : (∀ q i, q ≠ r → Y q i = X q i) ∧ ∀ i, i < 8 + 35 * j → Y r i = X r2 i) : (∀ q i, q ≠ r → upG Y r j (sl (Y r2) j) q i = X q i) ∧ ∀ i, i < 8 + 35 * (j + 1) → upG Y r j (sl (Y r2) j) r i = X r2 i := by
  refine ⟨fun q i hq => by rw [upG_ne (Or.inl hq)]; exact h.1 q i hq, fun i hi => ?_⟩
  by_cases h1 : i < 8 + 35 * j
  · rw [upG_ne (Or.inr (Or.inl h1))]
    exact h.2 i h1
  unfold upG inG
  rw [up2_s, if_pos ⟨by omega, by omega⟩, sl_at (by omega), h.1 r2 _ (fun q => hne q.symm)]
  congr 1
  omega
theorem cp_2 (hj : j = 4) (h : (∀ q i, q ≠ r → Y q i = X q i) ∧ ∀ i, i < 8 + 35 * j → Y r i = X r2 i) (hr : r < 7) : ∀ k, k < 84 → ∀ q i, dep k q i → up2 X r (X r2) q i = Y q i := by
  intro k hk q i hd
  by_cases hq : q = r
  · subst hq
    rw [up2_s]
    exact (h.2 i (by unfold dep at hd; omega)).symm
  · rw [up2_n hq]
    exact (h.1 q i hq).symm
theorem D0 {A : Nat → Prop} : va_D A [] := ⟨fun i j p q h => by simp at h, fun k q h => by simp at h⟩
end CK
theorem fold_1 {g : Nat → Int32 → Int32} {n j : Nat} {s v R : Int32} (hv : g j s = v) (h : foldL g (n + 1) j s = R) : foldL g n (j + 1) v = R := by subst hv; exact h
theorem fold_2 {g k : Nat → Int32 → Int32} {n m j t : Nat} {s v R : Int32} (hv : k t s = v) (h : foldL g n j (foldL k (m + 1) t s) = R) : foldL g n j (foldL k m (t + 1) v) = R := by subst hv; exact h
end
section
/-! the arm's own words, over a row z (a state as one row of 148 numbers) and the axis a -/
def wI (b : Bool) : Int32 := if b = true then 1 else -1
def canF (z : Nat → Int32) (a : Nat) (w : Int32) : Bool := if z 6 < tollG (sl z a) z w then false else true
def chF (z : Nat → Int32) (a : Nat) (q : Int32) : Int32 := if costG (sl z a) z q (-1) (-1) < costG (sl z a) z q 1 (-1) then -1 else 1
def cgF (z : Nat → Int32) (a : Nat) (q : Int32) : Bool := if sl z a 1 = q then true else if canF z a (chF z a q) = true then true else false
def gsF (z : Nat → Int32) : Bool := if z 6 < z 5 then false else true
/-- behind a step that could not be made, and behind one that could -/
def zB (z : Nat → Int32) (a : Nat) (w : Int32) : Nat → Int32 := inG z a (msG (sl z a) z w (z 6))
def zS (z : Nat → Int32) (a : Nat) (w : Int32) : Nat → Int32 := upd (zB z a w) 6 (zB z a w 6 - msR (sl z a) z w (z 6))
def msL (a : Nat) (w : Int32) : Nat → (Nat → Int32) → Int32 → Int32 × (Nat → Int32)
  | 0, z, c => (c, z)
  | n + 1, z, c => if msR (sl z a) z w (z 6) = 0 then (c, zB z a w) else msL a w n (zS z a w) (c + 1)
def gtL (a : Nat) (w q : Int32) : Nat → (Nat → Int32) → Int32 → Int32 × (Nat → Int32)
  | 0, z, s => (s, z)
  | n + 1, z, s => if sl z a 1 = q then (s, z) else if msR (sl z a) z w (z 6) = 0 then (s, zB z a w) else gtL a w q n (zS z a w) (s + msR (sl z a) z w (z 6))
def gtF (z : Nat → Int32) (a : Nat) (q : Int32) : Int32 × (Nat → Int32) := gtL a (chF z a q) q 24 z 0
def hmZ (z : Nat → Int32) (a : Nat) : Nat → Int32 := upd (inG z a (hmG (sl z a) z (z 6))) 6 (z 6 - hmP (sl z a) z (z 6))
def hmB (z : Nat → Int32) (a : Nat) : Bool := if sl z a 10 < sl (hmZ z a) a 10 then true else false
def payZ (z : Nat → Int32) (k : Int32) : Nat → Int32 := upd (upd z 6 (z 6 - k)) 7 (upd z 6 (z 6 - k) 7 + k)
def grZ (z : Nat → Int32) (a : Nat) : Nat → Int32 := upd (payZ z (z 5)) (5 + (8 + 35 * a)) (payZ z (z 5) 4)
def leF (z : Nat → Int32) (a : Nat) (q wo : Int32) : Int32 := if costG (sl z a) z q (-1) wo < costG (sl z a) z q 1 wo then costG (sl z a) z q (-1) wo else costG (sl z a) z q 1 wo
def woL (z : Nat → Int32) (a : Nat) (q : Int32) : Nat → Int32 → Int32 → Int32 → Int32
  | 0, _, best, _ => best
  | n + 1, t, best, least => if leF z a q t < least then woL z a q n (t + 1) t (leF z a q t) else woL z a q n (t + 1) best least
def woF (z : Nat → Int32) (a : Nat) (q : Int32) : Int32 := woL z a q 24 0 (-1) (leF z a q (-1))
def tsF (z : Nat → Int32) (a : Nat) (w : Int32) : Int32 := if turnG (sl z a) w = true then (if gwr (sl z a) (tW (sl z a 0) w) < z 2 then 1 else 2) else 0
/-- the trial axis -/
def t7 (z7 z : Nat → Int32) (a : Nat) : Nat → Int32 := inG z7 0 (sl z a)
def hfT (z7 z : Nat → Int32) (a : Nat) : Nat → Int32 := inG (t7 z7 z a) 0 (hmG (sl (t7 z7 z a) 0) z (z 6))
def hfF (z7 z : Nat → Int32) (a : Nat) (k : Int32) : Int32 := if k = 0 then sl (hfT z7 z a) 0 6 - sl z a 6 else if k = 1 then hmP (sl (t7 z7 z a) 0) z (z 6) else sl (hfT z7 z a) 0 10 - sl z a 10
def reL (z : Nat → Int32) (w : Int32) : Nat → (Nat → Int32) → Int32 → Int32 → Int32 × (Nat → Int32)
  | 0, T, _, c => (c, T)
  | n + 1, T, pu, c => if msR (sl T 0) z w pu = 0 then (c, inG T 0 (msG (sl T 0) z w pu)) else reL z w n (inG T 0 (msG (sl T 0) z w pu)) (pu - msR (sl T 0) z w pu) (c + 1)
def reF (z7 z : Nat → Int32) (a : Nat) (w : Int32) : Int32 × (Nat → Int32) := reL z w 100 (t7 z7 z a) (z 6) 0
def coF (X : Nat → Nat → Int32) (k : Int32) : Int32 :=
  if k = 0 then X 0 6 else if k = 1 then sumX (X 0) 6 else if k = 2 then sumX (X 0) 8 else if k = 3 then sumX (X 0) 7 else if k = 4 then X 0 7 else if k = 5 then wearX (X 0) else if k = 6 then wornX (X 0) (X 0 2) else if k = 7 then belX (X 0) else X 8 1
def cdF (b : Nat → Int32) (i : Int32) : Int32 := if i < 0 then 0 else if i < 60 then b i.toNatClampNeg else 0
def ieL (b : Nat → Int32) : Nat → (Nat → Int32) → Int32 → Int32 × (Nat → Int32)
  | 0, Q, i => (i, Q)
  | n + 1, Q, i => if (tk Q (cdF b i)).1 = true then ieL b n (tk Q (cdF b i)).2 (i + 1) else (i, (tk Q (cdF b i)).2)
def bgQ (Q : Nat → Int32) : Nat → Int32 := mkQ 0 (Q 1) (Q 2) (Q 3)
/-- a command carried out: whether, and the row behind it -/
def ccF (z : Nat → Int32) (a : Nat) (k : Nat) (kind num : Int32) : Bool × (Nat → Int32) :=
  if kind = 43 then ((if 0 < (msL a 1 k z 0).1 then true else false), (msL a 1 k z 0).2)
  else if kind = 45 then ((if 0 < (msL a (-1) k z 0).1 then true else false), (msL a (-1) k z 0).2)
  else if kind = 61 then (if cgF z a num = true then (true, (gtF z a num).2) else (false, z))
  else if kind = 103 then (if gsF z = true then (true, grZ z a) else (false, z))
  else (true, hmZ z a)
def foldJ (g : Nat → Int64 → Int64) : Nat → Nat → Int64 → Int64
  | 0, _, s => s
  | n + 1, j, s => foldJ g n (j + 1) (g j s)
def mx (h v : Int64) : Int64 := 31 * h + v
def mfF (G : Nat → Int32) (h : Int64) : Int64 := foldJ (fun j s => mx s (gwr G (nI j)).toInt64) 24 0 (foldJ (fun j s => mx s (propG G (nI j)).toInt64) 12 0 h)
section NF
variable {X : Nat → Nat → Int32} {r a : Nat} {z z' G : Nat → Int32} {v : Int32} {i : Nat}
theorem up2_self : up2 X r (X r) = X := funext fun q => by
  by_cases h : q = r
  · subst h; rw [up2_s]
  · rw [up2_n h]
theorem nf_2 : up2 (up2 X r z) r z' = up2 X r z' := funext fun q => by
  by_cases h : q = r
  · subst h; rw [up2_s, up2_s]
  · rw [up2_n h, up2_n h, up2_n h]
theorem nf_3 : up3 (up2 X r z) r i v = up2 X r (upd z i v) := by unfold up3; rw [nf_2, up2_s]
theorem nf_G : upG (up2 X r z) r a G = up2 X r (inG z a G) := by unfold upG; rw [nf_2, up2_s]
theorem nf_Q {Q Q' : Nat → Int32} : upQ (upQ X Q) Q' = upQ X Q' := by
  unfold upQ
  rw [nf_2]
  congr 1
  funext k
  by_cases h : 3 ≤ k ∧ k < 7
  · rw [if_pos h, if_pos h]
  · rw [if_neg h, if_neg h, up2_s, if_neg h]
theorem nf_2Q {Q : Nat → Int32} (h : r ≠ 8) : up2 (upQ X Q) r z = upQ (up2 X r z) Q := by
  have e : up2 X r z 8 = X 8 := up2_n (fun q => h q.symm)
  unfold upQ
  rw [e]
  funext q
  by_cases hq : q = r
  · subst hq; rw [up2_s, up2_n h, up2_s]
  · rw [up2_n hq]
    by_cases h8 : q = 8
    · subst h8; rw [up2_s, up2_s]
    · rw [up2_n h8, up2_n h8, up2_n hq]
theorem payX_eq {k : Int32} : payX X r k = up2 X r (payZ (X r) k) := by
  unfold payX payZ
  have e : up3 X r 6 (X r 6 - k) = up2 X r (upd (X r) 6 (X r 6 - k)) := rfl
  rw [e, nf_3, up2_s]
theorem svX_0 {w : Nat} : svX X w 0 = X 0 := by
  unfold svX
  rw [up2_n (by omega)]
  funext i
  rw [up3_ne (Or.inl (by omega)), up3_ne (Or.inl (by omega))]
end NF
end
section
theorem hd_X4_gearAt : yX4_gearAt.cls ≠ "java/lang/invoke/MethodHandle" ∧ yX4_gearAt.cls ≠ "java/lang/invoke/VarHandle" ∧ (parseMethodDescriptor yX4_gearAt.desc).map (fun d => d.parameters.length) = some 1 := by decide +kernel
set_option maxRecDepth 100000 in
set_option maxHeartbeats 4000000 in
theorem m_X4_gearAt (l : Launch) (D : va_G) (kA : Nat → Nat) (ad : Nat → Nat) (X : Nat → Nat → Int32) (r : Nat) (a : Nat) (p0 : Int32) (hr : r < 7) (hp : p0 = nI a) (ha : a < 4) : Met l yX4_gearAt (Cond.code yX4_gearAt cX4_gearAt 2 (some (.object "ArmTolls$Gear")) :: AW) ({ frames := 0, cells := 0, slots := 0, locals := 0 } : Room) (Pz [.ref (sA ad r), .int p0] D (TY kA) (cw kA ad X)) (pQ (some (.ref (gA ad r a)))) 0 0 (fun _ => False) := by
  refine MetZ (by decide +kernel) (Nat.le_of_ble_eq_true rfl) ?_
  intro p e s m below meth c ls hx hb hrt hts hown hml hlk hnm hP hK hD hS hl
  have hl : lv_has ls 2 [(0, .ref (sA ad r)), (1, .int p0)] := hl
  refine lv_iload_n hx hb dX4_gearAt_0 rfl (lv_at hl 1 rfl) ?_
  refine lv_if_lt (tgt := 22) hx hb dX4_gearAt_1 (by decide) (fun c_1 => ?_) (fun c_1 => ?_)
  · exact absurd c_1 (neg_of hp (by omega))
  · skip
    refine lv_iload_n hx hb dX4_gearAt_4 rfl (lv_at hl 1 rfl) ?_
    refine lv_aload_n hx hb dX4_gearAt_5 rfl (lv_at hl 0 rfl) ?_
    refine va_get (ci := 4) (v := .ref (qA ad r)) (C := RX4) (T := TX4) (N := 4) hx hb hts inX4 hown hK hP _ (cw_state (kA := kA) (ad := ad) (X := X) (r := r) (by omega)) rfl 1 (by decide) (hts _ q_115) (fun _ h9 => h9) rfl dX4_gearAt_6 ?_
    refine va_alen (v := 4) hx hb hK hP _ 1 (cw_gears (kA := kA) (ad := ad) (X := X) (r := r) (by omega)) rfl rfl dX4_gearAt_9 ?_
    refine lv_icmp_ge (tgt := 22) hx hb dX4_gearAt_10 (by decide) (fun c_2 => ?_) (fun c_2 => ?_)
    · exact absurd c_2 (cnt_nge (N := 4) hp rfl (by decide) ha)
    · skip
      replace c_2 := nge_l c_2
      refine lv_aload_n hx hb dX4_gearAt_13 rfl (lv_at hl 0 rfl) ?_
      refine va_get (ci := 4) (v := .ref (qA ad r)) (C := RX4) (T := TX4) (N := 4) hx hb hts inX4 hown hK hP _ (cw_state (kA := kA) (ad := ad) (X := X) (r := r) (by omega)) rfl 1 (by decide) (hts _ q_115) (fun _ h9 => h9) rfl dX4_gearAt_14 ?_
      refine lv_iload_n hx hb dX4_gearAt_17 rfl (lv_at hl 1 rfl) ?_
      refine va_aldq (f := fun j => some (gA ad r j)) hx hb hK hP _ 1 (cw_gears (kA := kA) (ad := ad) (X := X) (r := r) (by omega)) rfl (in_nI hp ha (by decide)) dX4_gearAt_18 ?_
      rw [show va_rf ((fun j => some (gA ad r j)) p0.toNatClampNeg) = .ref (gA ad r a) from by rw [clamp_j hp (by omega)]; rfl]
      refine lv_goto (tgt := 23) hx hb dX4_gearAt_19 (by decide) ?_
      exact end_pa hx hb hrt hlk (Or.inr ⟨_, rfl⟩) (by first | rfl | (rw [Nat.zero_le]; done) | (simp only [c_1, c_2, ↓reduceIte, bI]; done) | (simp only [c_1, c_2, ↓reduceIte, bI]; rfl) | (simp [c_1, c_2, bI]; done)) dX4_gearAt_23

set_option maxRecDepth 100000 in
set_option maxHeartbeats 4000000 in
theorem m_X4_gearAt_n (l : Launch) (D : va_G) (kA : Nat → Nat) (ad : Nat → Nat) (X : Nat → Nat → Int32) (r : Nat) (p0 : Int32) (hr : r < 7) (hbad : p0 < 0 ∨ ¬ p0 < 4) : Met l yX4_gearAt (Cond.code yX4_gearAt cX4_gearAt 2 (some (.object "ArmTolls$Gear")) :: AW) ({ frames := 0, cells := 0, slots := 0, locals := 0 } : Room) (Pz [.ref (sA ad r), .int p0] D (TY kA) (cw kA ad X)) (pQ (some (.null))) 0 0 (fun _ => False) := by
  refine MetZ (by decide +kernel) (Nat.le_of_ble_eq_true rfl) ?_
  intro p e s m below meth c ls hx hb hrt hts hown hml hlk hnm hP hK hD hS hl
  have hl : lv_has ls 2 [(0, .ref (sA ad r)), (1, .int p0)] := hl
  refine lv_iload_n hx hb dX4_gearAt_0 rfl (lv_at hl 1 rfl) ?_
  refine lv_if_lt (tgt := 22) hx hb dX4_gearAt_1 (by decide) (fun c_1 => ?_) (fun c_1 => ?_)
  · skip
    refine lv_null hx hb dX4_gearAt_22 ?_
    exact end_pa hx hb hrt hlk (Or.inl rfl) (by first | rfl | (rw [Nat.zero_le]; done) | (simp only [c_1, ↓reduceIte, bI]; done) | (simp only [c_1, ↓reduceIte, bI]; rfl) | (simp [c_1, bI]; done)) dX4_gearAt_23
  · skip
    refine lv_iload_n hx hb dX4_gearAt_4 rfl (lv_at hl 1 rfl) ?_
    refine lv_aload_n hx hb dX4_gearAt_5 rfl (lv_at hl 0 rfl) ?_
    refine va_get (ci := 4) (v := .ref (qA ad r)) (C := RX4) (T := TX4) (N := 4) hx hb hts inX4 hown hK hP _ (cw_state (kA := kA) (ad := ad) (X := X) (r := r) (by omega)) rfl 1 (by decide) (hts _ q_115) (fun _ h9 => h9) rfl dX4_gearAt_6 ?_
    refine va_alen (v := 4) hx hb hK hP _ 1 (cw_gears (kA := kA) (ad := ad) (X := X) (r := r) (by omega)) rfl rfl dX4_gearAt_9 ?_
    refine lv_icmp_ge (tgt := 22) hx hb dX4_gearAt_10 (by decide) (fun c_2 => ?_) (fun c_2 => ?_)
    · skip
      replace c_2 := ge_n c_2
      refine lv_null hx hb dX4_gearAt_22 ?_
      exact end_pa hx hb hrt hlk (Or.inl rfl) (by first | rfl | (rw [Nat.zero_le]; done) | (simp only [c_1, c_2, ↓reduceIte, bI]; done) | (simp only [c_1, c_2, ↓reduceIte, bI]; rfl) | (simp [c_1, c_2, bI]; done)) dX4_gearAt_23
    · exact absurd c_2 (fun h => h (le_of_bad hbad c_1))

theorem hd_X4_payCare : yX4_payCare.cls ≠ "java/lang/invoke/MethodHandle" ∧ yX4_payCare.cls ≠ "java/lang/invoke/VarHandle" ∧ (parseMethodDescriptor yX4_payCare.desc).map (fun d => d.parameters.length) = some 1 := by decide +kernel
set_option maxRecDepth 100000 in
set_option maxHeartbeats 4000000 in
theorem m_X4_payCare (l : Launch) (D : va_G) (kA : Nat → Nat) (ad : Nat → Nat) (X : Nat → Nat → Int32) (r : Nat) (p0 : Int32) (hr : r < 7) : Met l yX4_payCare (Cond.code yX4_payCare cX4_payCare 2 none :: AW) ({ frames := 0, cells := 0, slots := 0, locals := 0 } : Room) (Pz [.ref (sA ad r), .int p0] D (TY kA) (cw kA ad X)) (fQ none D (cw kA ad X) (cw kA ad (up2 X r (payZ (X r) p0)))) 0 0 (Aw (cw kA ad X)) := by
  refine MetZ (by decide +kernel) (Nat.le_of_ble_eq_true rfl) ?_
  intro p e s m below meth c ls hx hb hrt hts hown hml hlk hnm hP hK hD hS hl
  have hl : lv_has ls 2 [(0, .ref (sA ad r)), (1, .int p0)] := hl
  refine lv_aload_n hx hb dX4_payCare_0 rfl (lv_at hl 0 rfl) ?_
  refine lv_dup hx hb dX4_payCare_1 rfl ?_
  refine va_get (ci := 4) (v := .int ((X r) 6)) (C := RX4) (T := TX4) (N := 4) hx hb hts inX4 hown hK hP _ (cw_state (kA := kA) (ad := ad) (X := X) (r := r) (by omega)) rfl 2 (by decide) (hts _ q_116) (fun _ h9 => h9) rfl dX4_payCare_2 ?_
  refine lv_iload_n hx hb dX4_payCare_5 rfl (lv_at hl 1 rfl) ?_
  refine lv_isub hx hb dX4_payCare_6 ?_
  refine va_put (ci := 4) (v := .int (((X r) 6) - p0)) (ty := tyX4 2) (C := RX4) (T := TX4) (N := 4) hx hb hts inX4 tyX4 tyX4_ok nmX4 hown hK hP hD hS _ (cw_state (kA := kA) (ad := ad) (X := X) (r := r) (by omega)) rfl 2 (by decide) (hts _ q_116) (fun _ h9 => h9) rfl (tyX4_ok 2 (by decide)) rfl rfl (Nat.le_of_ble_eq_true rfl) dX4_payCare_7 (fun H locs hP hD hS => ?_)
  have hP : va_P D vwCl (cw kA ad (up3 X r 6 (((X r) 6) - p0))) H := by rw [← st_purse (r := r) (by omega)]; exact hP
  have hD : va_D (Aw (cw kA ad X)) (cw kA ad (up3 X r 6 (((X r) 6) - p0))) := by rw [← st_purse (r := r) (by omega)]; exact hD
  refine lv_aload_n hx hb dX4_payCare_10 rfl (lv_at hl 0 rfl) ?_
  refine lv_dup hx hb dX4_payCare_11 rfl ?_
  refine va_get (ci := 4) (v := .int (((up3 X r 6 (((X r) 6) - p0)) r) 7)) (C := RX4) (T := TX4) (N := 4) hx hb hts inX4 hown hK hP _ (cw_state (kA := kA) (ad := ad) (X := up3 X r 6 (((X r) 6) - p0)) (r := r) (by omega)) rfl 3 (by decide) (hts _ q_118) (fun _ h9 => h9) rfl dX4_payCare_12 ?_
  refine lv_iload_n hx hb dX4_payCare_15 rfl (lv_at hl 1 rfl) ?_
  refine lv_iadd hx hb dX4_payCare_16 ?_
  refine va_put (ci := 4) (v := .int ((((up3 X r 6 (((X r) 6) - p0)) r) 7) + p0)) (ty := tyX4 3) (C := RX4) (T := TX4) (N := 4) hx hb hts inX4 tyX4 tyX4_ok nmX4 hown hK hP hD hS _ (cw_state (kA := kA) (ad := ad) (X := up3 X r 6 (((X r) 6) - p0)) (r := r) (by omega)) rfl 3 (by decide) (hts _ q_118) (fun _ h9 => h9) rfl (tyX4_ok 3 (by decide)) rfl rfl (Nat.le_of_ble_eq_true rfl) dX4_payCare_17 (fun H locs hP hD hS => ?_)
  have hP : va_P D vwCl (cw kA ad (up3 (up3 X r 6 (((X r) 6) - p0)) r 7 ((((up3 X r 6 (((X r) 6) - p0)) r) 7) + p0))) H := by rw [← st_care (r := r) (by omega)]; exact hP
  have hD : va_D (Aw (cw kA ad X)) (cw kA ad (up3 (up3 X r 6 (((X r) 6) - p0)) r 7 ((((up3 X r 6 (((X r) 6) - p0)) r) 7) + p0))) := by rw [← st_care (r := r) (by omega)]; exact hD
  exact end_fv hx hb hrt hlk hP hS (fun h => by rw [← payX_eq]; exact h) dX4_payCare_20

theorem hd_X4_sumOf : yX4_sumOf.cls ≠ "java/lang/invoke/MethodHandle" ∧ yX4_sumOf.cls ≠ "java/lang/invoke/VarHandle" ∧ (parseMethodDescriptor yX4_sumOf.desc).map (fun d => d.parameters.length) = some 1 := by decide +kernel
set_option maxRecDepth 100000 in
set_option maxHeartbeats 4000000 in
theorem m_X4_sumOf (l : Launch) (D : va_G) (kA : Nat → Nat) (ad : Nat → Nat) (X : Nat → Nat → Int32) (r : Nat) (p0 : Int32) (hr : r < 7) : Met l yX4_sumOf (Cond.code yX4_sumOf cX4_sumOf 5 (some .int) :: AW) ({ frames := 3, cells := 0, slots := 0, locals := 65 } : Room) (Pz [.ref (sA ad r), .int p0] D (TY kA) (cw kA ad X)) (pQ (some (.int (sumX (X r) p0)))) 0 0 (fun _ => False) := by
  refine MetZ (by decide +kernel) (Nat.le_of_ble_eq_true rfl) ?_
  intro p e s m below meth c ls hx hb hrt hts hown hml hlk hnm hP hK hD hS hl
  have hl : lv_has ls 5 [(0, .ref (sA ad r)), (1, .int p0)] := hl
  refine lv_iconst (v := 0) hx hb dX4_sumOf_0 (by decide) ?_
  refine lv_istore_n (lv' := [(2, .int 0), (0, .ref (sA ad r)), (1, .int p0)]) hx hb dX4_sumOf_1 rfl hl (by decide) rfl (fun ls hl => ?_)
  refine lv_iconst (v := 0) hx hb dX4_sumOf_2 (by decide) ?_
  refine lv_istore_n (lv' := [(3, .int 0), (2, .int 0), (0, .ref (sA ad r)), (1, .int p0)]) hx hb dX4_sumOf_3 rfl hl (by decide) rfl (fun ls hl => ?_)
  have loop_4 : ∀ (n : Nat) (j : Nat) (x2 : Int32) (x3 : Int32) (hj : j + n = 4) (e3 : x3 = nI j) (hres : foldL (fun a s => s + propG (sl (X r) a) p0) n j x2 = sumX (X r) p0), ∀ ls : Array Slot, lv_has ls 5 [(0, .ref (sA ad r)), (1, .int p0), (2, .int x2), (3, .int x3)] → W p l e ({ frames := 3, cells := 0, slots := 0, locals := 65 } : Room) s m [.ref (sA ad r), .int p0].toArray below meth c s.heap [] 0 0 (MQ below (pQ (some (.int (sumX (X r) p0)))) [.ref (sA ad r), .int p0].toArray s 0 0 (fun _ => False)) (F0 m 4 ls []) := by
    clear hl
    intro n
    induction n with
    | zero =>
      intro j x2 x3 hj e3 hres  ls hl
      refine lv_iload_n hx hb dX4_sumOf_4 rfl (lv_at hl 3 rfl) ?_
      refine lv_iconst (v := 4) hx hb dX4_sumOf_5 (by decide) ?_
      refine lv_icmp_ge (tgt := 36) hx hb dX4_sumOf_6 (by decide) (fun c_1 => ?_) (fun c_1 => ?_)
      · skip
        replace c_1 := ge_n c_1
        refine lv_iload_n hx hb dX4_sumOf_36 rfl (lv_at hl 2 rfl) ?_
        exact end_pi hx hb hrt hlk (hres) dX4_sumOf_37
      · exact absurd c_1 (fun h => h (cnt_ge (N := 4) e3 rfl (by omega) (by omega)))
    | succ n ih4 =>
      intro j x2 x3 hj e3 hres  ls hl
      refine lv_iload_n hx hb dX4_sumOf_4 rfl (lv_at hl 3 rfl) ?_
      refine lv_iconst (v := 4) hx hb dX4_sumOf_5 (by decide) ?_
      refine lv_icmp_ge (tgt := 36) hx hb dX4_sumOf_6 (by decide) (fun c_2 => ?_) (fun c_2 => ?_)
      · exact absurd c_2 (cnt_nge (N := 4) e3 rfl (by decide) (by omega))
      · skip
        replace c_2 := nge_l c_2
        refine lv_aload_n hx hb dX4_sumOf_9 rfl (lv_at hl 0 rfl) ?_
        refine lv_iload_n hx hb dX4_sumOf_10 rfl (lv_at hl 3 rfl) ?_
        refine cs_p (runV (As := [.int x3]) (rest := []) ⟨hx, hb, hml, hown, hts⟩ (m_X4_gearAt l D kA ad X r j x3 (hr) (e3) (by omega)) q_370 q_226 q_227 q_2 q_228 hd_X4_gearAt ⟨rfl, rfl⟩ ⟨Nat.le_of_ble_eq_true rfl, Nat.le_of_ble_eq_true rfl⟩ hK (ws := (cw kA ad X)) hP hD _ (ci := 4) (C := RX4) (T := TX4) (N := 4) rfl (cw_state (kA := kA) (ad := ad) (X := X) (r := r) (by omega)) rfl hl.1 rfl (Nat.le_of_ble_eq_true rfl) dX4_sumOf_11 ⟨Nat.zero_le _, Nat.zero_le _⟩) ?_
        refine lv_astore (lv' := [(4, .ref (gA ad r j)), (0, .ref (sA ad r)), (1, .int p0), (2, .int x2), (3, .int x3)]) hx hb dX4_sumOf_14 hl (by decide) rfl (fun ls hl => ?_)
        refine lv_aload hx hb dX4_sumOf_16 (lv_at hl 0 rfl) ?_
        refine lv_ifnull hx hb dX4_sumOf_18 ?_
        refine lv_iload_n hx hb dX4_sumOf_21 rfl (lv_at hl 3 rfl) ?_
        refine lv_aload hx hb dX4_sumOf_22 (lv_at hl 0 rfl) ?_
        refine lv_iload_n hx hb dX4_sumOf_24 rfl (lv_at hl 2 rfl) ?_
        refine cs_p (runV (As := [.int p0]) (rest := [.int x2]) ⟨hx, hb, hml, hown, hts⟩ (m_X0_property l D kA (gA ad r j) (wA ad r j) (sl ((X r)) j) p0 ) q_557 q_531 q_532 q_4 q_533 hd_X0_property ⟨rfl, rfl⟩ ⟨Nat.le_of_ble_eq_true rfl, Nat.le_of_ble_eq_true rfl⟩ hK (ws := [((gA ad r j), gC (wA ad r j) (sl ((X r)) j)), ((wA ad r j), wC kA (sl ((X r)) j))]) (P2 hP (cw_gear (kA := kA) (ad := ad) (X := X) (r := r) (a := j) (by omega) (by omega)) (cw_wears (kA := kA) (ad := ad) (X := X) (r := r) (a := j) (by omega) (by omega))) (D2 hD (cw_gear (kA := kA) (ad := ad) (X := X) (r := r) (a := j) (by omega) (by omega)) (cw_wears (kA := kA) (ad := ad) (X := X) (r := r) (a := j) (by omega) (by omega)) (by omega)) 0 (ci := 0) (C := RX0) (T := TX0) (N := 12) rfl rfl rfl hl.1 rfl (Nat.le_of_ble_eq_true rfl) dX4_sumOf_25 ⟨Nat.zero_le _, Nat.zero_le _⟩) ?_
        refine lv_iadd hx hb dX4_sumOf_28 ?_
        refine lv_istore_n (lv' := [(2, .int (x2 + (propG (sl ((X r)) j) p0))), (4, .ref (gA ad r j)), (0, .ref (sA ad r)), (1, .int p0), (3, .int x3)]) hx hb dX4_sumOf_29 rfl hl (by decide) rfl (fun ls hl => ?_)
        refine lv_iinc (v := x3 + 1) (lv' := [(3, .int (x3 + 1)), (2, .int (x2 + (propG (sl ((X r)) j) p0))), (4, .ref (gA ad r j)), (0, .ref (sA ad r)), (1, .int p0)]) hx hb dX4_sumOf_30 hl (k := 4) rfl (by first | rfl | exact congrArg (_ + ·) (by decide)) (by decide) rfl (fun ls hl => ?_)
        refine lv_goto (tgt := 4) hx hb dX4_sumOf_33 (by decide) ?_
        exact ih4 (j + 1) (x2 + (propG (sl ((X r)) j) p0)) (x3 + 1) (by omega) (by rw [e3]; exact nI_1 j) (hres) ls (lv_sub hl [3, 4, 1, 0] rfl)
  exact loop_4 4 0 0 0 (by omega) (nI_0.symm) (rfl) ls (lv_sub hl [2, 3, 1, 0] rfl)

theorem hd_X4_axesWhereBelieved : yX4_axesWhereBelieved.cls ≠ "java/lang/invoke/MethodHandle" ∧ yX4_axesWhereBelieved.cls ≠ "java/lang/invoke/VarHandle" ∧ (parseMethodDescriptor yX4_axesWhereBelieved.desc).map (fun d => d.parameters.length) = some 0 := by decide +kernel
set_option maxRecDepth 100000 in
set_option maxHeartbeats 4000000 in
theorem m_X4_axesWhereBelieved (l : Launch) (D : va_G) (kA : Nat → Nat) (ad : Nat → Nat) (X : Nat → Nat → Int32) (r : Nat) (hr : r < 7) : Met l yX4_axesWhereBelieved (Cond.code yX4_axesWhereBelieved cX4_axesWhereBelieved 4 (some .int) :: AW) ({ frames := 1, cells := 0, slots := 0, locals := 21 } : Room) (Pz [.ref (sA ad r)] D (TY kA) (cw kA ad X)) (pQ (some (.int (belX (X r))))) 0 0 (fun _ => False) := by
  refine MetZ (by decide +kernel) (Nat.le_of_ble_eq_true rfl) ?_
  intro p e s m below meth c ls hx hb hrt hts hown hml hlk hnm hP hK hD hS hl
  have hl : lv_has ls 4 [(0, .ref (sA ad r))] := hl
  refine lv_iconst (v := 0) hx hb dX4_axesWhereBelieved_0 (by decide) ?_
  refine lv_istore_n (lv' := [(1, .int 0), (0, .ref (sA ad r))]) hx hb dX4_axesWhereBelieved_1 rfl hl (by decide) rfl (fun ls hl => ?_)
  refine lv_iconst (v := 0) hx hb dX4_axesWhereBelieved_2 (by decide) ?_
  refine lv_istore_n (lv' := [(2, .int 0), (1, .int 0), (0, .ref (sA ad r))]) hx hb dX4_axesWhereBelieved_3 rfl hl (by decide) rfl (fun ls hl => ?_)
  have loop_4 : ∀ (n : Nat) (j : Nat) (x1 : Int32) (x2 : Int32) (hj : j + n = 4) (e3 : x2 = nI j) (hres : foldL (fun a s => if sl (X r) a 0 = sl (X r) a 1 then s + 1 else s) n j x1 = belX (X r)), ∀ ls : Array Slot, lv_has ls 4 [(0, .ref (sA ad r)), (1, .int x1), (2, .int x2)] → W p l e ({ frames := 1, cells := 0, slots := 0, locals := 21 } : Room) s m [.ref (sA ad r)].toArray below meth c s.heap [] 0 0 (MQ below (pQ (some (.int (belX (X r))))) [.ref (sA ad r)].toArray s 0 0 (fun _ => False)) (F0 m 4 ls []) := by
    clear hl
    intro n
    induction n with
    | zero =>
      intro j x1 x2 hj e3 hres  ls hl
      refine lv_iload_n hx hb dX4_axesWhereBelieved_4 rfl (lv_at hl 2 rfl) ?_
      refine lv_iconst (v := 4) hx hb dX4_axesWhereBelieved_5 (by decide) ?_
      refine lv_icmp_ge (tgt := 39) hx hb dX4_axesWhereBelieved_6 (by decide) (fun c_1 => ?_) (fun c_1 => ?_)
      · skip
        replace c_1 := ge_n c_1
        refine lv_iload_n hx hb dX4_axesWhereBelieved_39 rfl (lv_at hl 1 rfl) ?_
        exact end_pi hx hb hrt hlk (hres) dX4_axesWhereBelieved_40
      · exact absurd c_1 (fun h => h (cnt_ge (N := 4) e3 rfl (by omega) (by omega)))
    | succ n ih4 =>
      intro j x1 x2 hj e3 hres  ls hl
      refine lv_iload_n hx hb dX4_axesWhereBelieved_4 rfl (lv_at hl 2 rfl) ?_
      refine lv_iconst (v := 4) hx hb dX4_axesWhereBelieved_5 (by decide) ?_
      refine lv_icmp_ge (tgt := 39) hx hb dX4_axesWhereBelieved_6 (by decide) (fun c_2 => ?_) (fun c_2 => ?_)
      · exact absurd c_2 (cnt_nge (N := 4) e3 rfl (by decide) (by omega))
      · skip
        replace c_2 := nge_l c_2
        refine lv_aload_n hx hb dX4_axesWhereBelieved_9 rfl (lv_at hl 0 rfl) ?_
        refine lv_iload_n hx hb dX4_axesWhereBelieved_10 rfl (lv_at hl 2 rfl) ?_
        refine cs_p (runV (As := [.int x2]) (rest := []) ⟨hx, hb, hml, hown, hts⟩ (m_X4_gearAt l D kA ad X r j x2 (hr) (e3) (by omega)) q_370 q_226 q_227 q_2 q_228 hd_X4_gearAt ⟨rfl, rfl⟩ ⟨Nat.le_of_ble_eq_true rfl, Nat.le_of_ble_eq_true rfl⟩ hK (ws := (cw kA ad X)) hP hD _ (ci := 4) (C := RX4) (T := TX4) (N := 4) rfl (cw_state (kA := kA) (ad := ad) (X := X) (r := r) (by omega)) rfl hl.1 rfl (Nat.le_of_ble_eq_true rfl) dX4_axesWhereBelieved_11 ⟨Nat.zero_le _, Nat.zero_le _⟩) ?_
        refine lv_astore_n (lv' := [(3, .ref (gA ad r j)), (0, .ref (sA ad r)), (1, .int x1), (2, .int x2)]) hx hb dX4_axesWhereBelieved_14 rfl hl (by decide) rfl (fun ls hl => ?_)
        refine lv_aload_n hx hb dX4_axesWhereBelieved_15 rfl (lv_at hl 0 rfl) ?_
        refine lv_ifnull hx hb dX4_axesWhereBelieved_16 ?_
        refine lv_aload_n hx hb dX4_axesWhereBelieved_19 rfl (lv_at hl 0 rfl) ?_
        refine va_get (ci := 0) (v := .int (sl ((X r)) j 0)) (C := RX0) (T := TX0) (N := 12) hx hb hts inX0 hown hK hP _ (cw_gear (kA := kA) (ad := ad) (X := X) (r := r) (a := j) (by omega) (by omega)) rfl 1 (by decide) (hts _ q_70) (fun _ h9 => h9) rfl dX4_axesWhereBelieved_20 ?_
        refine lv_aload_n hx hb dX4_axesWhereBelieved_23 rfl (lv_at hl 0 rfl) ?_
        refine va_get (ci := 0) (v := .int (sl ((X r)) j 1)) (C := RX0) (T := TX0) (N := 12) hx hb hts inX0 hown hK hP _ (cw_gear (kA := kA) (ad := ad) (X := X) (r := r) (a := j) (by omega) (by omega)) rfl 2 (by decide) (hts _ q_72) (fun _ h9 => h9) rfl dX4_axesWhereBelieved_24 ?_
        refine lv_icmp_ne (tgt := 33) hx hb dX4_axesWhereBelieved_27 (by decide) (fun c_3 => ?_) (fun c_3 => ?_)
        · skip
          refine lv_iinc (v := x2 + 1) (lv' := [(2, .int (x2 + 1)), (3, .ref (gA ad r j)), (0, .ref (sA ad r)), (1, .int x1)]) hx hb dX4_axesWhereBelieved_33 hl (k := 3) rfl (by first | rfl | exact congrArg (_ + ·) (by decide)) (by decide) rfl (fun ls hl => ?_)
          refine lv_goto (tgt := 4) hx hb dX4_axesWhereBelieved_36 (by decide) ?_
          exact ih4 (j + 1) x1 (x2 + 1) (by omega) (by rw [e3]; exact nI_1 j) (fold_1 (if_neg c_3) hres) ls (lv_sub hl [2, 3, 0] rfl)
        · skip
          refine lv_iinc (v := x1 + 1) (lv' := [(1, .int (x1 + 1)), (3, .ref (gA ad r j)), (0, .ref (sA ad r)), (2, .int x2)]) hx hb dX4_axesWhereBelieved_30 hl (k := 2) rfl (by first | rfl | exact congrArg (_ + ·) (by decide)) (by decide) rfl (fun ls hl => ?_)
          refine lv_iinc (v := x2 + 1) (lv' := [(2, .int (x2 + 1)), (1, .int (x1 + 1)), (3, .ref (gA ad r j)), (0, .ref (sA ad r))]) hx hb dX4_axesWhereBelieved_33 hl (k := 3) rfl (by first | rfl | exact congrArg (_ + ·) (by decide)) (by decide) rfl (fun ls hl => ?_)
          refine lv_goto (tgt := 4) hx hb dX4_axesWhereBelieved_36 (by decide) ?_
          exact ih4 (j + 1) (x1 + 1) (x2 + 1) (by omega) (by rw [e3]; exact nI_1 j) (fold_1 (if_pos c_3) hres) ls (lv_sub hl [3, 1, 0] rfl)
  exact loop_4 4 0 0 0 (by omega) (nI_0.symm) (rfl) ls (lv_sub hl [2, 1, 0] rfl)

theorem hd_X4_wearOfAll : yX4_wearOfAll.cls ≠ "java/lang/invoke/MethodHandle" ∧ yX4_wearOfAll.cls ≠ "java/lang/invoke/VarHandle" ∧ (parseMethodDescriptor yX4_wearOfAll.desc).map (fun d => d.parameters.length) = some 0 := by decide +kernel
set_option maxRecDepth 100000 in
set_option maxHeartbeats 4000000 in
theorem m_X4_wearOfAll (l : Launch) (D : va_G) (kA : Nat → Nat) (ad : Nat → Nat) (X : Nat → Nat → Int32) (r : Nat) (hr : r < 7) : Met l yX4_wearOfAll (Cond.code yX4_wearOfAll cX4_wearOfAll 5 (some .int) :: AW) ({ frames := 1, cells := 0, slots := 0, locals := 21 } : Room) (Pz [.ref (sA ad r)] D (TY kA) (cw kA ad X)) (pQ (some (.int (wearX (X r))))) 0 0 (fun _ => False) := by
  refine MetZ (by decide +kernel) (Nat.le_of_ble_eq_true rfl) ?_
  intro p e s m below meth c ls hx hb hrt hts hown hml hlk hnm hP hK hD hS hl
  have hl : lv_has ls 5 [(0, .ref (sA ad r))] := hl
  refine lv_iconst (v := 0) hx hb dX4_wearOfAll_0 (by decide) ?_
  refine lv_istore_n (lv' := [(1, .int 0), (0, .ref (sA ad r))]) hx hb dX4_wearOfAll_1 rfl hl (by decide) rfl (fun ls hl => ?_)
  refine lv_iconst (v := 0) hx hb dX4_wearOfAll_2 (by decide) ?_
  refine lv_istore_n (lv' := [(2, .int 0), (1, .int 0), (0, .ref (sA ad r))]) hx hb dX4_wearOfAll_3 rfl hl (by decide) rfl (fun ls hl => ?_)
  have loop_4 : ∀ (n : Nat) (j : Nat) (x1 : Int32) (x2 : Int32) (hj : j + n = 4) (e3 : x2 = nI j) (hres : foldL (fun a s => foldL (fun t s => s + gwr (sl (X r) a) (nI t)) 24 0 s) n j x1 = wearX (X r)), ∀ ls : Array Slot, lv_has ls 5 [(0, .ref (sA ad r)), (1, .int x1), (2, .int x2)] → W p l e ({ frames := 1, cells := 0, slots := 0, locals := 21 } : Room) s m [.ref (sA ad r)].toArray below meth c s.heap [] 0 0 (MQ below (pQ (some (.int (wearX (X r))))) [.ref (sA ad r)].toArray s 0 0 (fun _ => False)) (F0 m 4 ls []) := by
    clear hl
    intro n
    induction n with
    | zero =>
      intro j x1 x2 hj e3 hres  ls hl
      refine lv_iload_n hx hb dX4_wearOfAll_4 rfl (lv_at hl 2 rfl) ?_
      refine lv_iconst (v := 4) hx hb dX4_wearOfAll_5 (by decide) ?_
      refine lv_icmp_ge (tgt := 50) hx hb dX4_wearOfAll_6 (by decide) (fun c_1 => ?_) (fun c_1 => ?_)
      · skip
        replace c_1 := ge_n c_1
        refine lv_iload_n hx hb dX4_wearOfAll_50 rfl (lv_at hl 1 rfl) ?_
        exact end_pi hx hb hrt hlk (hres) dX4_wearOfAll_51
      · exact absurd c_1 (fun h => h (cnt_ge (N := 4) e3 rfl (by omega) (by omega)))
    | succ n ih4 =>
      intro j x1 x2 hj e3 hres  ls hl
      refine lv_iload_n hx hb dX4_wearOfAll_4 rfl (lv_at hl 2 rfl) ?_
      refine lv_iconst (v := 4) hx hb dX4_wearOfAll_5 (by decide) ?_
      refine lv_icmp_ge (tgt := 50) hx hb dX4_wearOfAll_6 (by decide) (fun c_2 => ?_) (fun c_2 => ?_)
      · exact absurd c_2 (cnt_nge (N := 4) e3 rfl (by decide) (by omega))
      · skip
        replace c_2 := nge_l c_2
        refine lv_aload_n hx hb dX4_wearOfAll_9 rfl (lv_at hl 0 rfl) ?_
        refine lv_iload_n hx hb dX4_wearOfAll_10 rfl (lv_at hl 2 rfl) ?_
        refine cs_p (runV (As := [.int x2]) (rest := []) ⟨hx, hb, hml, hown, hts⟩ (m_X4_gearAt l D kA ad X r j x2 (hr) (e3) (by omega)) q_370 q_226 q_227 q_2 q_228 hd_X4_gearAt ⟨rfl, rfl⟩ ⟨Nat.le_of_ble_eq_true rfl, Nat.le_of_ble_eq_true rfl⟩ hK (ws := (cw kA ad X)) hP hD _ (ci := 4) (C := RX4) (T := TX4) (N := 4) rfl (cw_state (kA := kA) (ad := ad) (X := X) (r := r) (by omega)) rfl hl.1 rfl (Nat.le_of_ble_eq_true rfl) dX4_wearOfAll_11 ⟨Nat.zero_le _, Nat.zero_le _⟩) ?_
        refine lv_astore_n (lv' := [(3, .ref (gA ad r j)), (0, .ref (sA ad r)), (1, .int x1), (2, .int x2)]) hx hb dX4_wearOfAll_14 rfl hl (by decide) rfl (fun ls hl => ?_)
        refine lv_iconst (v := 0) hx hb dX4_wearOfAll_15 (by decide) ?_
        refine lv_istore (lv' := [(4, .int 0), (3, .ref (gA ad r j)), (0, .ref (sA ad r)), (1, .int x1), (2, .int x2)]) hx hb dX4_wearOfAll_16 hl (by decide) rfl (fun ls hl => ?_)
        have loop_18 : ∀ (n2 : Nat) (t : Nat) (y1 : Int32) (y4 : Int32) (ht : t + n2 = 24) (e4 : y4 = nI t) (hrs : foldL (fun a s => foldL (fun t s => s + gwr (sl (X r) a) (nI t)) 24 0 s) n (j + 1) (foldL (fun t s => s + gwr (sl (X r) j) (nI t)) n2 t y1) = wearX (X r)), ∀ ls : Array Slot, lv_has ls 5 [(0, .ref (sA ad r)), (1, .int y1), (2, .int x2), (3, .ref (gA ad r j)), (4, .int y4)] → W p l e ({ frames := 1, cells := 0, slots := 0, locals := 21 } : Room) s m [.ref (sA ad r)].toArray below meth c s.heap [] 0 0 (MQ below (pQ (some (.int (wearX (X r))))) [.ref (sA ad r)].toArray s 0 0 (fun _ => False)) (F0 m 18 ls []) := by
          clear hl
          intro n2
          induction n2 with
          | zero =>
            intro t y1 y4 ht e4 hrs  ls hl
            refine lv_iload hx hb dX4_wearOfAll_18 (lv_at hl 4 rfl) ?_
            refine lv_bipush (v := 24) hx hb dX4_wearOfAll_20 (by decide) ?_
            refine lv_icmp_ge (tgt := 44) hx hb dX4_wearOfAll_22 (by decide) (fun c_3 => ?_) (fun c_3 => ?_)
            · skip
              replace c_3 := ge_n c_3
              refine lv_iinc (v := x2 + 1) (lv' := [(2, .int (x2 + 1)), (0, .ref (sA ad r)), (1, .int y1), (3, .ref (gA ad r j)), (4, .int y4)]) hx hb dX4_wearOfAll_44 hl (k := 2) rfl (by first | rfl | exact congrArg (_ + ·) (by decide)) (by decide) rfl (fun ls hl => ?_)
              refine lv_goto (tgt := 4) hx hb dX4_wearOfAll_47 (by decide) ?_
              exact ih4 (j + 1) y1 (x2 + 1) (by omega) (by rw [e3]; exact nI_1 j) (hrs) ls (lv_sub hl [1, 2, 0] rfl)
            · exact absurd c_3 (fun h => h (cnt_ge (N := 24) e4 rfl (by omega) (by omega)))
          | succ n2 ih18 =>
            intro t y1 y4 ht e4 hrs  ls hl
            refine lv_iload hx hb dX4_wearOfAll_18 (lv_at hl 4 rfl) ?_
            refine lv_bipush (v := 24) hx hb dX4_wearOfAll_20 (by decide) ?_
            refine lv_icmp_ge (tgt := 44) hx hb dX4_wearOfAll_22 (by decide) (fun c_4 => ?_) (fun c_4 => ?_)
            · exact absurd c_4 (cnt_nge (N := 24) e4 rfl (by decide) (by omega))
            · skip
              replace c_4 := nge_l c_4
              refine lv_aload_n hx hb dX4_wearOfAll_25 rfl (lv_at hl 3 rfl) ?_
              refine lv_ifnull hx hb dX4_wearOfAll_26 ?_
              refine lv_iload_n hx hb dX4_wearOfAll_29 rfl (lv_at hl 1 rfl) ?_
              refine lv_aload_n hx hb dX4_wearOfAll_30 rfl (lv_at hl 3 rfl) ?_
              refine lv_iload hx hb dX4_wearOfAll_31 (lv_at hl 4 rfl) ?_
              refine cs_p (runV (As := [.int y4]) (rest := [.int y1]) ⟨hx, hb, hml, hown, hts⟩ (m_X0_wearOf l D kA (gA ad r j) (wA ad r j) ((sl ((X r)) j) 0) ((sl ((X r)) j) 1) ((sl ((X r)) j) 2) ((sl ((X r)) j) 3) ((sl ((X r)) j) 4) ((sl ((X r)) j) 5) ((sl ((X r)) j) 6) ((sl ((X r)) j) 7) ((sl ((X r)) j) 8) ((sl ((X r)) j) 9) ((sl ((X r)) j) 10) (fun t => (sl ((X r)) j) (t + 11)) y4 ) q_562 q_328 q_329 q_4 q_330 hd_X0_wearOf ⟨rfl, rfl⟩ ⟨Nat.le_of_ble_eq_true rfl, Nat.le_of_ble_eq_true rfl⟩ hK (ws := [((gA ad r j), .inr (0, [.ref (wA ad r j), .int ((sl ((X r)) j) 0), .int ((sl ((X r)) j) 1), .int ((sl ((X r)) j) 2), .int ((sl ((X r)) j) 3), .int ((sl ((X r)) j) 4), .int ((sl ((X r)) j) 5), .int ((sl ((X r)) j) 6), .int ((sl ((X r)) j) 7), .int ((sl ((X r)) j) 8), .int ((sl ((X r)) j) 9), .int ((sl ((X r)) j) 10)])), ((wA ad r j), .inl (kA 0, 24, .inl (fun t => (sl ((X r)) j) (t + 11))))]) (P2 hP (cw_gear (kA := kA) (ad := ad) (X := X) (r := r) (a := j) (by omega) (by omega)) (cw_wears (kA := kA) (ad := ad) (X := X) (r := r) (a := j) (by omega) (by omega))) (D2 hD (cw_gear (kA := kA) (ad := ad) (X := X) (r := r) (a := j) (by omega) (by omega)) (cw_wears (kA := kA) (ad := ad) (X := X) (r := r) (a := j) (by omega) (by omega)) (by omega)) 0 (ci := 0) (C := RX0) (T := TX0) (N := 12) rfl rfl rfl hl.1 rfl (Nat.le_of_ble_eq_true rfl) dX4_wearOfAll_33 ⟨Nat.zero_le _, Nat.zero_le _⟩) ?_
              refine lv_iadd hx hb dX4_wearOfAll_36 ?_
              refine lv_istore_n (lv' := [(1, .int (y1 + (wrF (fun t => (sl ((X r)) j) (t + 11)) y4))), (0, .ref (sA ad r)), (2, .int x2), (3, .ref (gA ad r j)), (4, .int y4)]) hx hb dX4_wearOfAll_37 rfl hl (by decide) rfl (fun ls hl => ?_)
              refine lv_iinc (v := y4 + 1) (lv' := [(4, .int (y4 + 1)), (1, .int (y1 + (wrF (fun t => (sl ((X r)) j) (t + 11)) y4))), (0, .ref (sA ad r)), (2, .int x2), (3, .ref (gA ad r j))]) hx hb dX4_wearOfAll_38 hl (k := 4) rfl (by first | rfl | exact congrArg (_ + ·) (by decide)) (by decide) rfl (fun ls hl => ?_)
              refine lv_goto (tgt := 18) hx hb dX4_wearOfAll_41 (by decide) ?_
              exact ih18 (t + 1) (y1 + (wrF (fun t => (sl ((X r)) j) (t + 11)) y4)) (y4 + 1) (by omega) (by rw [e4]; exact nI_1 t) (fold_2 (by show y1 + gwr (sl (X r) j) (nI t) = _; rw [← e4]; rfl) hrs) ls (lv_sub hl [2, 1, 3, 4, 0] rfl)
        exact loop_18 24 0 x1 0 (by omega) (nI_0.symm) (by rw [← hres]; rfl) ls (lv_sub hl [2, 3, 4, 1, 0] rfl)
  exact loop_4 4 0 0 0 (by omega) (nI_0.symm) (rfl) ls (lv_sub hl [2, 1, 0] rfl)

theorem hd_X4_teethWornTo : yX4_teethWornTo.cls ≠ "java/lang/invoke/MethodHandle" ∧ yX4_teethWornTo.cls ≠ "java/lang/invoke/VarHandle" ∧ (parseMethodDescriptor yX4_teethWornTo.desc).map (fun d => d.parameters.length) = some 1 := by decide +kernel
set_option maxRecDepth 100000 in
set_option maxHeartbeats 4000000 in
theorem m_X4_teethWornTo (l : Launch) (D : va_G) (kA : Nat → Nat) (ad : Nat → Nat) (X : Nat → Nat → Int32) (r : Nat) (p0 : Int32) (hr : r < 7) : Met l yX4_teethWornTo (Cond.code yX4_teethWornTo cX4_teethWornTo 6 (some .int) :: AW) ({ frames := 1, cells := 0, slots := 0, locals := 21 } : Room) (Pz [.ref (sA ad r), .int p0] D (TY kA) (cw kA ad X)) (pQ (some (.int (wornX (X r) p0)))) 0 0 (fun _ => False) := by
  refine MetZ (by decide +kernel) (Nat.le_of_ble_eq_true rfl) ?_
  intro p e s m below meth c ls hx hb hrt hts hown hml hlk hnm hP hK hD hS hl
  have hl : lv_has ls 6 [(0, .ref (sA ad r)), (1, .int p0)] := hl
  refine lv_iconst (v := 0) hx hb dX4_teethWornTo_0 (by decide) ?_
  refine lv_istore_n (lv' := [(2, .int 0), (0, .ref (sA ad r)), (1, .int p0)]) hx hb dX4_teethWornTo_1 rfl hl (by decide) rfl (fun ls hl => ?_)
  refine lv_iconst (v := 0) hx hb dX4_teethWornTo_2 (by decide) ?_
  refine lv_istore_n (lv' := [(3, .int 0), (2, .int 0), (0, .ref (sA ad r)), (1, .int p0)]) hx hb dX4_teethWornTo_3 rfl hl (by decide) rfl (fun ls hl => ?_)
  have loop_4 : ∀ (n : Nat) (j : Nat) (x2 : Int32) (x3 : Int32) (hj : j + n = 4) (e3 : x3 = nI j) (hres : foldL (fun a s => foldL (fun t s => if gwr (sl (X r) a) (nI t) < p0 then s else s + 1) 24 0 s) n j x2 = wornX (X r) p0), ∀ ls : Array Slot, lv_has ls 6 [(0, .ref (sA ad r)), (1, .int p0), (2, .int x2), (3, .int x3)] → W p l e ({ frames := 1, cells := 0, slots := 0, locals := 21 } : Room) s m [.ref (sA ad r), .int p0].toArray below meth c s.heap [] 0 0 (MQ below (pQ (some (.int (wornX (X r) p0)))) [.ref (sA ad r), .int p0].toArray s 0 0 (fun _ => False)) (F0 m 4 ls []) := by
    clear hl
    intro n
    induction n with
    | zero =>
      intro j x2 x3 hj e3 hres  ls hl
      refine lv_iload_n hx hb dX4_teethWornTo_4 rfl (lv_at hl 3 rfl) ?_
      refine lv_iconst (v := 4) hx hb dX4_teethWornTo_5 (by decide) ?_
      refine lv_icmp_ge (tgt := 57) hx hb dX4_teethWornTo_6 (by decide) (fun c_1 => ?_) (fun c_1 => ?_)
      · skip
        replace c_1 := ge_n c_1
        refine lv_iload_n hx hb dX4_teethWornTo_57 rfl (lv_at hl 2 rfl) ?_
        exact end_pi hx hb hrt hlk (hres) dX4_teethWornTo_58
      · exact absurd c_1 (fun h => h (cnt_ge (N := 4) e3 rfl (by omega) (by omega)))
    | succ n ih4 =>
      intro j x2 x3 hj e3 hres  ls hl
      refine lv_iload_n hx hb dX4_teethWornTo_4 rfl (lv_at hl 3 rfl) ?_
      refine lv_iconst (v := 4) hx hb dX4_teethWornTo_5 (by decide) ?_
      refine lv_icmp_ge (tgt := 57) hx hb dX4_teethWornTo_6 (by decide) (fun c_2 => ?_) (fun c_2 => ?_)
      · exact absurd c_2 (cnt_nge (N := 4) e3 rfl (by decide) (by omega))
      · skip
        replace c_2 := nge_l c_2
        refine lv_aload_n hx hb dX4_teethWornTo_9 rfl (lv_at hl 0 rfl) ?_
        refine lv_iload_n hx hb dX4_teethWornTo_10 rfl (lv_at hl 3 rfl) ?_
        refine cs_p (runV (As := [.int x3]) (rest := []) ⟨hx, hb, hml, hown, hts⟩ (m_X4_gearAt l D kA ad X r j x3 (hr) (e3) (by omega)) q_370 q_226 q_227 q_2 q_228 hd_X4_gearAt ⟨rfl, rfl⟩ ⟨Nat.le_of_ble_eq_true rfl, Nat.le_of_ble_eq_true rfl⟩ hK (ws := (cw kA ad X)) hP hD _ (ci := 4) (C := RX4) (T := TX4) (N := 4) rfl (cw_state (kA := kA) (ad := ad) (X := X) (r := r) (by omega)) rfl hl.1 rfl (Nat.le_of_ble_eq_true rfl) dX4_teethWornTo_11 ⟨Nat.zero_le _, Nat.zero_le _⟩) ?_
        refine lv_astore (lv' := [(4, .ref (gA ad r j)), (0, .ref (sA ad r)), (1, .int p0), (2, .int x2), (3, .int x3)]) hx hb dX4_teethWornTo_14 hl (by decide) rfl (fun ls hl => ?_)
        refine lv_iconst (v := 0) hx hb dX4_teethWornTo_16 (by decide) ?_
        refine lv_istore (lv' := [(5, .int 0), (4, .ref (gA ad r j)), (0, .ref (sA ad r)), (1, .int p0), (2, .int x2), (3, .int x3)]) hx hb dX4_teethWornTo_17 hl (by decide) rfl (fun ls hl => ?_)
        have loop_19 : ∀ (n2 : Nat) (t : Nat) (y2 : Int32) (y5 : Int32) (ht : t + n2 = 24) (e4 : y5 = nI t) (hrs : foldL (fun a s => foldL (fun t s => if gwr (sl (X r) a) (nI t) < p0 then s else s + 1) 24 0 s) n (j + 1) (foldL (fun t s => if gwr (sl (X r) j) (nI t) < p0 then s else s + 1) n2 t y2) = wornX (X r) p0), ∀ ls : Array Slot, lv_has ls 6 [(0, .ref (sA ad r)), (1, .int p0), (2, .int y2), (3, .int x3), (4, .ref (gA ad r j)), (5, .int y5)] → W p l e ({ frames := 1, cells := 0, slots := 0, locals := 21 } : Room) s m [.ref (sA ad r), .int p0].toArray below meth c s.heap [] 0 0 (MQ below (pQ (some (.int (wornX (X r) p0)))) [.ref (sA ad r), .int p0].toArray s 0 0 (fun _ => False)) (F0 m 19 ls []) := by
          clear hl
          intro n2
          induction n2 with
          | zero =>
            intro t y2 y5 ht e4 hrs  ls hl
            refine lv_iload hx hb dX4_teethWornTo_19 (lv_at hl 5 rfl) ?_
            refine lv_bipush (v := 24) hx hb dX4_teethWornTo_21 (by decide) ?_
            refine lv_icmp_ge (tgt := 51) hx hb dX4_teethWornTo_23 (by decide) (fun c_3 => ?_) (fun c_3 => ?_)
            · skip
              replace c_3 := ge_n c_3
              refine lv_iinc (v := x3 + 1) (lv' := [(3, .int (x3 + 1)), (0, .ref (sA ad r)), (1, .int p0), (2, .int y2), (4, .ref (gA ad r j)), (5, .int y5)]) hx hb dX4_teethWornTo_51 hl (k := 3) rfl (by first | rfl | exact congrArg (_ + ·) (by decide)) (by decide) rfl (fun ls hl => ?_)
              refine lv_goto (tgt := 4) hx hb dX4_teethWornTo_54 (by decide) ?_
              exact ih4 (j + 1) y2 (x3 + 1) (by omega) (by rw [e3]; exact nI_1 j) (hrs) ls (lv_sub hl [1, 2, 3, 0] rfl)
            · exact absurd c_3 (fun h => h (cnt_ge (N := 24) e4 rfl (by omega) (by omega)))
          | succ n2 ih19 =>
            intro t y2 y5 ht e4 hrs  ls hl
            refine lv_iload hx hb dX4_teethWornTo_19 (lv_at hl 5 rfl) ?_
            refine lv_bipush (v := 24) hx hb dX4_teethWornTo_21 (by decide) ?_
            refine lv_icmp_ge (tgt := 51) hx hb dX4_teethWornTo_23 (by decide) (fun c_4 => ?_) (fun c_4 => ?_)
            · exact absurd c_4 (cnt_nge (N := 24) e4 rfl (by decide) (by omega))
            · skip
              replace c_4 := nge_l c_4
              refine lv_aload hx hb dX4_teethWornTo_26 (lv_at hl 4 rfl) ?_
              refine lv_ifnull hx hb dX4_teethWornTo_28 ?_
              refine lv_aload hx hb dX4_teethWornTo_31 (lv_at hl 4 rfl) ?_
              refine lv_iload hx hb dX4_teethWornTo_33 (lv_at hl 5 rfl) ?_
              refine cs_p (runV (As := [.int y5]) (rest := []) ⟨hx, hb, hml, hown, hts⟩ (m_X0_wearOf l D kA (gA ad r j) (wA ad r j) ((sl ((X r)) j) 0) ((sl ((X r)) j) 1) ((sl ((X r)) j) 2) ((sl ((X r)) j) 3) ((sl ((X r)) j) 4) ((sl ((X r)) j) 5) ((sl ((X r)) j) 6) ((sl ((X r)) j) 7) ((sl ((X r)) j) 8) ((sl ((X r)) j) 9) ((sl ((X r)) j) 10) (fun t => (sl ((X r)) j) (t + 11)) y5 ) q_562 q_328 q_329 q_4 q_330 hd_X0_wearOf ⟨rfl, rfl⟩ ⟨Nat.le_of_ble_eq_true rfl, Nat.le_of_ble_eq_true rfl⟩ hK (ws := [((gA ad r j), .inr (0, [.ref (wA ad r j), .int ((sl ((X r)) j) 0), .int ((sl ((X r)) j) 1), .int ((sl ((X r)) j) 2), .int ((sl ((X r)) j) 3), .int ((sl ((X r)) j) 4), .int ((sl ((X r)) j) 5), .int ((sl ((X r)) j) 6), .int ((sl ((X r)) j) 7), .int ((sl ((X r)) j) 8), .int ((sl ((X r)) j) 9), .int ((sl ((X r)) j) 10)])), ((wA ad r j), .inl (kA 0, 24, .inl (fun t => (sl ((X r)) j) (t + 11))))]) (P2 hP (cw_gear (kA := kA) (ad := ad) (X := X) (r := r) (a := j) (by omega) (by omega)) (cw_wears (kA := kA) (ad := ad) (X := X) (r := r) (a := j) (by omega) (by omega))) (D2 hD (cw_gear (kA := kA) (ad := ad) (X := X) (r := r) (a := j) (by omega) (by omega)) (cw_wears (kA := kA) (ad := ad) (X := X) (r := r) (a := j) (by omega) (by omega)) (by omega)) 0 (ci := 0) (C := RX0) (T := TX0) (N := 12) rfl rfl rfl hl.1 rfl (Nat.le_of_ble_eq_true rfl) dX4_teethWornTo_35 ⟨Nat.zero_le _, Nat.zero_le _⟩) ?_
              refine lv_iload_n hx hb dX4_teethWornTo_38 rfl (lv_at hl 1 rfl) ?_
              refine lv_icmp_lt (tgt := 45) hx hb dX4_teethWornTo_39 (by decide) (fun c_5 => ?_) (fun c_5 => ?_)
              · skip
                refine lv_iinc (v := y5 + 1) (lv' := [(5, .int (y5 + 1)), (0, .ref (sA ad r)), (1, .int p0), (2, .int y2), (3, .int x3), (4, .ref (gA ad r j))]) hx hb dX4_teethWornTo_45 hl (k := 5) rfl (by first | rfl | exact congrArg (_ + ·) (by decide)) (by decide) rfl (fun ls hl => ?_)
                refine lv_goto (tgt := 19) hx hb dX4_teethWornTo_48 (by decide) ?_
                exact ih19 (t + 1) y2 (y5 + 1) (by omega) (by rw [e4]; exact nI_1 t) (fold_2 (by show (if gwr (sl (X r) j) (nI t) < p0 then y2 else y2 + 1) = _; rw [← e4]; exact if_pos c_5) hrs) ls (lv_sub hl [1, 2, 3, 4, 5, 0] rfl)
              · skip
                refine lv_iinc (v := y2 + 1) (lv' := [(2, .int (y2 + 1)), (0, .ref (sA ad r)), (1, .int p0), (3, .int x3), (4, .ref (gA ad r j)), (5, .int y5)]) hx hb dX4_teethWornTo_42 hl (k := 2) rfl (by first | rfl | exact congrArg (_ + ·) (by decide)) (by decide) rfl (fun ls hl => ?_)
                refine lv_iinc (v := y5 + 1) (lv' := [(5, .int (y5 + 1)), (2, .int (y2 + 1)), (0, .ref (sA ad r)), (1, .int p0), (3, .int x3), (4, .ref (gA ad r j))]) hx hb dX4_teethWornTo_45 hl (k := 5) rfl (by first | rfl | exact congrArg (_ + ·) (by decide)) (by decide) rfl (fun ls hl => ?_)
                refine lv_goto (tgt := 19) hx hb dX4_teethWornTo_48 (by decide) ?_
                exact ih19 (t + 1) (y2 + 1) (y5 + 1) (by omega) (by rw [e4]; exact nI_1 t) (fold_2 (by show (if gwr (sl (X r) j) (nI t) < p0 then y2 else y2 + 1) = _; rw [← e4]; exact if_neg c_5) hrs) ls (lv_sub hl [2, 3, 1, 4, 5, 0] rfl)
        exact loop_19 24 0 x2 0 (by omega) (nI_0.symm) (by rw [← hres]; rfl) ls (lv_sub hl [2, 3, 4, 5, 1, 0] rfl)
  exact loop_4 4 0 0 0 (by omega) (nI_0.symm) (rfl) ls (lv_sub hl [2, 3, 1, 0] rfl)

theorem hd_X4_copyFrom : yX4_copyFrom.cls ≠ "java/lang/invoke/MethodHandle" ∧ yX4_copyFrom.cls ≠ "java/lang/invoke/VarHandle" ∧ (parseMethodDescriptor yX4_copyFrom.desc).map (fun d => d.parameters.length) = some 1 := by decide +kernel
set_option maxRecDepth 100000 in
set_option maxHeartbeats 4000000 in
theorem m_X4_copyFrom (l : Launch) (D : va_G) (kA : Nat → Nat) (ad : Nat → Nat) (X : Nat → Nat → Int32) (r : Nat) (r2 : Nat) (hr : r < 7) (hr2 : r2 < 7) (hne : r ≠ r2) : Met l yX4_copyFrom (Cond.code yX4_copyFrom cX4_copyFrom 5 none :: AW) ({ frames := 2, cells := 0, slots := 0, locals := 81 } : Room) (Pz [.ref (sA ad r), .ref (sA ad r2)] D (TY kA) (cw kA ad X)) (fQ none D (cw kA ad X) (cw kA ad (up2 X r (X r2)))) 0 0 (Aw (cw kA ad X)) := by
  refine MetZ (by decide +kernel) (Nat.le_of_ble_eq_true rfl) ?_
  intro p e s m below meth c ls hx hb hrt hts hown hml hlk hnm hP hK hD hS hl
  have hl : lv_has ls 5 [(0, .ref (sA ad r)), (1, .ref (sA ad r2))] := hl
  refine lv_aload_n hx hb dX4_copyFrom_0 rfl (lv_at hl 0 rfl) ?_
  refine va_get (ci := 4) (v := .ref (rA ad r)) (C := RX4) (T := TX4) (N := 4) hx hb hts inX4 hown hK hP _ (cw_state (kA := kA) (ad := ad) (X := X) (r := r) (by omega)) rfl 0 (by decide) (hts _ q_113) (fun _ h9 => h9) rfl dX4_copyFrom_1 ?_
  refine lv_aload_n hx hb dX4_copyFrom_4 rfl (lv_at hl 1 rfl) ?_
  refine va_get (ci := 4) (v := .ref (rA ad r2)) (C := RX4) (T := TX4) (N := 4) hx hb hts inX4 hown hK hP _ (cw_state (kA := kA) (ad := ad) (X := X) (r := r2) (by omega)) rfl 0 (by decide) (hts _ q_113) (fun _ h9 => h9) rfl dX4_copyFrom_5 ?_
  refine cs_fn (runV (As := [.ref (rA ad r2)]) (rest := []) ⟨hx, hb, hml, hown, hts⟩ (m_X3_copyFrom l D kA (rA ad r) (X r) (rA ad r2) (X r2) ) q_366 q_367 q_368 q_3 q_369 hd_X3_copyFrom ⟨rfl, rfl⟩ ⟨Nat.le_of_ble_eq_true rfl, Nat.le_of_ble_eq_true rfl⟩ hK (ws := [((rA ad r), rC (X r)), ((rA ad r2), rC (X r2))]) (P2 hP (cw_rules (kA := kA) (ad := ad) (X := X) (r := r) (by omega)) (cw_rules (kA := kA) (ad := ad) (X := X) (r := r2) (by omega))) (D2 hD (cw_rules (kA := kA) (ad := ad) (X := X) (r := r) (by omega)) (cw_rules (kA := kA) (ad := ad) (X := X) (r := r2) (by omega)) (by omega)) 0 (ci := 3) (C := RX3) (T := TX3) (N := 6) rfl rfl rfl hl.1 rfl (Nat.le_of_ble_eq_true rfl) dX4_copyFrom_8 ⟨Nat.zero_le _, Nat.zero_le _⟩) hS (cw_sub (fun q hq => by simp only [List.mem_cons, List.not_mem_nil, or_false] at hq; rcases hq with rfl | rfl <;> first | exact ⟨3 * r + 64, by omega, rfl⟩ | exact ⟨3 * r2 + 64, by omega, rfl⟩)) (fun H locs hP1 hk1 hS => ?_)
  obtain ⟨hP, hD⟩ := jn_RR (r := r) (r' := r2) (by omega) (by omega) (by omega) hP hD hk1 hP1
  clear hk1 hP1
  refine lv_aload_n hx hb dX4_copyFrom_11 rfl (lv_at hl 0 rfl) ?_
  refine lv_aload_n hx hb dX4_copyFrom_12 rfl (lv_at hl 1 rfl) ?_
  refine va_get (ci := 4) (v := .int (((cpR X r r2) r2) 6)) (C := RX4) (T := TX4) (N := 4) hx hb hts inX4 hown hK hP _ (cw_state (kA := kA) (ad := ad) (X := cpR X r r2) (r := r2) (by omega)) rfl 2 (by decide) (hts _ q_116) (fun _ h9 => h9) rfl dX4_copyFrom_13 ?_
  refine va_put (ci := 4) (v := .int (((cpR X r r2) r2) 6)) (ty := tyX4 2) (C := RX4) (T := TX4) (N := 4) hx hb hts inX4 tyX4 tyX4_ok nmX4 hown hK hP hD hS _ (cw_state (kA := kA) (ad := ad) (X := cpR X r r2) (r := r) (by omega)) rfl 2 (by decide) (hts _ q_116) (fun _ h9 => h9) rfl (tyX4_ok 2 (by decide)) rfl rfl (Nat.le_of_ble_eq_true rfl) dX4_copyFrom_16 (fun H locs hP hD hS => ?_)
  have hP : va_P D vwCl (cw kA ad (up3 (cpR X r r2) r 6 (((cpR X r r2) r2) 6))) H := by rw [← st_purse (r := r) (by omega)]; exact hP
  have hD : va_D (Aw (cw kA ad X)) (cw kA ad (up3 (cpR X r r2) r 6 (((cpR X r r2) r2) 6))) := by rw [← st_purse (r := r) (by omega)]; exact hD
  refine lv_aload_n hx hb dX4_copyFrom_19 rfl (lv_at hl 0 rfl) ?_
  refine lv_aload_n hx hb dX4_copyFrom_20 rfl (lv_at hl 1 rfl) ?_
  refine va_get (ci := 4) (v := .int (((up3 (cpR X r r2) r 6 (((cpR X r r2) r2) 6)) r2) 7)) (C := RX4) (T := TX4) (N := 4) hx hb hts inX4 hown hK hP _ (cw_state (kA := kA) (ad := ad) (X := up3 (cpR X r r2) r 6 (((cpR X r r2) r2) 6)) (r := r2) (by omega)) rfl 3 (by decide) (hts _ q_118) (fun _ h9 => h9) rfl dX4_copyFrom_21 ?_
  refine va_put (ci := 4) (v := .int (((up3 (cpR X r r2) r 6 (((cpR X r r2) r2) 6)) r2) 7)) (ty := tyX4 3) (C := RX4) (T := TX4) (N := 4) hx hb hts inX4 tyX4 tyX4_ok nmX4 hown hK hP hD hS _ (cw_state (kA := kA) (ad := ad) (X := up3 (cpR X r r2) r 6 (((cpR X r r2) r2) 6)) (r := r) (by omega)) rfl 3 (by decide) (hts _ q_118) (fun _ h9 => h9) rfl (tyX4_ok 3 (by decide)) rfl rfl (Nat.le_of_ble_eq_true rfl) dX4_copyFrom_24 (fun H locs hP hD hS => ?_)
  have hP : va_P D vwCl (cw kA ad (up3 (up3 (cpR X r r2) r 6 (((cpR X r r2) r2) 6)) r 7 (((up3 (cpR X r r2) r 6 (((cpR X r r2) r2) 6)) r2) 7))) H := by rw [← st_care (r := r) (by omega)]; exact hP
  have hD : va_D (Aw (cw kA ad X)) (cw kA ad (up3 (up3 (cpR X r r2) r 6 (((cpR X r r2) r2) 6)) r 7 (((up3 (cpR X r r2) r 6 (((cpR X r r2) r2) 6)) r2) 7))) := by rw [← st_care (r := r) (by omega)]; exact hD
  refine lv_iconst (v := 0) hx hb dX4_copyFrom_27 (by decide) ?_
  refine lv_istore_n (lv' := [(2, .int 0), (0, .ref (sA ad r)), (1, .ref (sA ad r2))]) hx hb dX4_copyFrom_28 rfl hl (by decide) rfl (fun ls hl => ?_)
  have loop_29 : ∀ (n : Nat) (j : Nat) (Y : Nat → Nat → Int32) (x2 : Int32) (hj : j + n = 4) (e3 : x2 = nI j) (hY : (∀ q i, q ≠ r → Y q i = X q i) ∧ ∀ i, i < 8 + 35 * j → Y r i = X r2 i), ∀ (H : Heap) (locs : List Loc), va_P D vwCl (cw kA ad Y) H → va_D (Aw (cw kA ad X)) (cw kA ad Y) → va_S (Aw (cw kA ad X)) s.heap H locs → ∀ ls : Array Slot, lv_has ls 5 [(0, .ref (sA ad r)), (1, .ref (sA ad r2)), (2, .int x2)] → W p l e ({ frames := 2, cells := 0, slots := 0, locals := 81 } : Room) s m [.ref (sA ad r), .ref (sA ad r2)].toArray below meth c H locs 0 0 (MQ below (fQ none D (cw kA ad X) (cw kA ad (up2 X r (X r2)))) [.ref (sA ad r), .ref (sA ad r2)].toArray s 0 0 (Aw (cw kA ad X))) (F0 m 29 ls []) := by
    clear hl
    clear hP hD hS
    intro n
    induction n with
    | zero =>
      intro j Y x2 hj e3 hY H locs hP hD hS ls hl
      refine lv_iload_n hx hb dX4_copyFrom_29 rfl (lv_at hl 2 rfl) ?_
      refine lv_iconst (v := 4) hx hb dX4_copyFrom_30 (by decide) ?_
      refine lv_icmp_ge (tgt := 68) hx hb dX4_copyFrom_31 (by decide) (fun c_1 => ?_) (fun c_1 => ?_)
      · skip
        replace c_1 := ge_n c_1
        exact end_fv hx hb hrt hlk hP hS (fun h => by rw [cw_congr (X := Y) (X' := up2 X r (X r2)) (cp_2 (by omega) hY hr)]; exact h) dX4_copyFrom_68
      · exact absurd c_1 (fun h => h (cnt_ge (N := 4) e3 rfl (by omega) (by omega)))
    | succ n ih29 =>
      intro j Y x2 hj e3 hY H locs hP hD hS ls hl
      refine lv_iload_n hx hb dX4_copyFrom_29 rfl (lv_at hl 2 rfl) ?_
      refine lv_iconst (v := 4) hx hb dX4_copyFrom_30 (by decide) ?_
      refine lv_icmp_ge (tgt := 68) hx hb dX4_copyFrom_31 (by decide) (fun c_2 => ?_) (fun c_2 => ?_)
      · exact absurd c_2 (cnt_nge (N := 4) e3 rfl (by decide) (by omega))
      · skip
        replace c_2 := nge_l c_2
        refine lv_aload_n hx hb dX4_copyFrom_34 rfl (lv_at hl 0 rfl) ?_
        refine lv_iload_n hx hb dX4_copyFrom_35 rfl (lv_at hl 2 rfl) ?_
        refine cs_p (runV (As := [.int x2]) (rest := []) ⟨hx, hb, hml, hown, hts⟩ (m_X4_gearAt l D kA ad Y r j x2 (hr) (e3) (by omega)) q_370 q_226 q_227 q_2 q_228 hd_X4_gearAt ⟨rfl, rfl⟩ ⟨Nat.le_of_ble_eq_true rfl, Nat.le_of_ble_eq_true rfl⟩ hK (ws := (cw kA ad Y)) hP hD _ (ci := 4) (C := RX4) (T := TX4) (N := 4) rfl (cw_state (kA := kA) (ad := ad) (X := Y) (r := r) (by omega)) rfl hl.1 rfl (Nat.le_of_ble_eq_true rfl) dX4_copyFrom_36 ⟨Nat.zero_le _, Nat.zero_le _⟩) ?_
        refine lv_astore_n (lv' := [(3, .ref (gA ad r j)), (0, .ref (sA ad r)), (1, .ref (sA ad r2)), (2, .int x2)]) hx hb dX4_copyFrom_39 rfl hl (by decide) rfl (fun ls hl => ?_)
        refine lv_aload_n hx hb dX4_copyFrom_40 rfl (lv_at hl 2 rfl) ?_
        refine lv_iload_n hx hb dX4_copyFrom_41 rfl (lv_at hl 3 rfl) ?_
        refine cs_p (runV (As := [.int x2]) (rest := []) ⟨hx, hb, hml, hown, hts⟩ (m_X4_gearAt l D kA ad Y r2 j x2 (hr2) (e3) (by omega)) q_370 q_226 q_227 q_2 q_228 hd_X4_gearAt ⟨rfl, rfl⟩ ⟨Nat.le_of_ble_eq_true rfl, Nat.le_of_ble_eq_true rfl⟩ hK (ws := (cw kA ad Y)) hP hD _ (ci := 4) (C := RX4) (T := TX4) (N := 4) rfl (cw_state (kA := kA) (ad := ad) (X := Y) (r := r2) (by omega)) rfl hl.1 rfl (Nat.le_of_ble_eq_true rfl) dX4_copyFrom_42 ⟨Nat.zero_le _, Nat.zero_le _⟩) ?_
        refine lv_astore (lv' := [(4, .ref (gA ad r2 j)), (3, .ref (gA ad r j)), (0, .ref (sA ad r)), (1, .ref (sA ad r2)), (2, .int x2)]) hx hb dX4_copyFrom_45 hl (by decide) rfl (fun ls hl => ?_)
        refine lv_aload_n hx hb dX4_copyFrom_47 rfl (lv_at hl 1 rfl) ?_
        refine lv_ifnull hx hb dX4_copyFrom_48 ?_
        refine lv_aload hx hb dX4_copyFrom_51 (lv_at hl 0 rfl) ?_
        refine lv_ifnull hx hb dX4_copyFrom_53 ?_
        refine lv_aload_n hx hb dX4_copyFrom_56 rfl (lv_at hl 1 rfl) ?_
        refine lv_aload hx hb dX4_copyFrom_57 (lv_at hl 0 rfl) ?_
        refine cs_fn (runV (As := [.ref (gA ad r2 j)]) (rest := []) ⟨hx, hb, hml, hown, hts⟩ (m_X0_copyFrom l D kA (gA ad r j) (wA ad r j) (sl ((Y r)) j) (gA ad r2 j) (wA ad r2 j) (sl ((Y r2)) j) ) q_371 q_372 q_373 q_4 q_374 hd_X0_copyFrom ⟨rfl, rfl⟩ ⟨Nat.le_of_ble_eq_true rfl, Nat.le_of_ble_eq_true rfl⟩ hK (ws := [((gA ad r j), gC (wA ad r j) (sl ((Y r)) j)), ((wA ad r j), wC kA (sl ((Y r)) j)), ((gA ad r2 j), gC (wA ad r2 j) (sl ((Y r2)) j)), ((wA ad r2 j), wC kA (sl ((Y r2)) j))]) (P4 hP (cw_gear (kA := kA) (ad := ad) (X := Y) (r := r) (a := j) (by omega) (by omega)) (cw_wears (kA := kA) (ad := ad) (X := Y) (r := r) (a := j) (by omega) (by omega)) (cw_gear (kA := kA) (ad := ad) (X := Y) (r := r2) (a := j) (by omega) (by omega)) (cw_wears (kA := kA) (ad := ad) (X := Y) (r := r2) (a := j) (by omega) (by omega))) (D4 hD (cw_gear (kA := kA) (ad := ad) (X := Y) (r := r) (a := j) (by omega) (by omega)) (cw_wears (kA := kA) (ad := ad) (X := Y) (r := r) (a := j) (by omega) (by omega)) (cw_gear (kA := kA) (ad := ad) (X := Y) (r := r2) (a := j) (by omega) (by omega)) (cw_wears (kA := kA) (ad := ad) (X := Y) (r := r2) (a := j) (by omega) (by omega)) (by omega) (by omega) (by omega) (by omega) (by omega) (by omega)) 0 (ci := 0) (C := RX0) (T := TX0) (N := 12) rfl rfl rfl hl.1 rfl (Nat.le_of_ble_eq_true rfl) dX4_copyFrom_59 ⟨Nat.zero_le _, Nat.zero_le _⟩) hS (cw_sub (fun q hq => by simp only [List.mem_cons, List.not_mem_nil, or_false] at hq; rcases hq with rfl | rfl | rfl | rfl <;> first | exact ⟨2 * (4 * r + j) + 5, by omega, rfl⟩ | exact ⟨2 * (4 * r + j) + 6, by omega, rfl⟩ | exact ⟨2 * (4 * r2 + j) + 5, by omega, rfl⟩ | exact ⟨2 * (4 * r2 + j) + 6, by omega, rfl⟩)) (fun H locs hP1 hk1 hS => ?_)
        obtain ⟨hP, hD⟩ := jn_G4 (r := r) (a := j) (by omega) (by omega) (r' := r2) (a' := j) (by omega) (by omega) (by omega) (G' := (sl ((Y r2)) j)) hP hD hk1 hP1
        clear hk1 hP1
        refine lv_iinc (v := x2 + 1) (lv' := [(2, .int (x2 + 1)), (4, .ref (gA ad r2 j)), (3, .ref (gA ad r j)), (0, .ref (sA ad r)), (1, .ref (sA ad r2))]) hx hb dX4_copyFrom_62 hl (k := 4) rfl (by first | rfl | exact congrArg (_ + ·) (by decide)) (by decide) rfl (fun ls hl => ?_)
        refine lv_goto (tgt := 29) hx hb dX4_copyFrom_65 (by decide) ?_
        exact ih29 (j + 1) (upG Y r j (sl ((Y r2)) j)) (x2 + 1) (by omega) (by rw [e3]; exact nI_1 j) (cp_1 hne hY) _ _ hP hD hS ls (lv_sub hl [3, 4, 0] rfl)
  exact loop_29 4 0 (up3 (up3 (cpR X r r2) r 6 (((cpR X r r2) r2) 6)) r 7 (((up3 (cpR X r r2) r 6 (((cpR X r r2) r2) 6)) r2) 7)) 0 (by omega) (nI_0.symm) (cp_0 hne) _ _ hP hD hS ls (lv_sub hl [1, 2, 0] rfl)

theorem hd_X1_newestRow : yX1_newestRow.cls ≠ "java/lang/invoke/MethodHandle" ∧ yX1_newestRow.cls ≠ "java/lang/invoke/VarHandle" ∧ (parseMethodDescriptor yX1_newestRow.desc).map (fun d => d.parameters.length) = some 0 := by decide +kernel
set_option maxRecDepth 100000 in
set_option maxHeartbeats 4000000 in
theorem m_X1_newestRow (l : Launch) (D : va_G) (kA : Nat → Nat) (ad : Nat → Nat) (X : Nat → Nat → Int32) (w : Nat) (hw : X 8 0 = nI w) (hw6 : w < 6) : Met l yX1_newestRow (Cond.code yX1_newestRow cX1_newestRow 1 (some (.object "ArmTolls$State")) :: AW) ({ frames := 0, cells := 0, slots := 0, locals := 0 } : Room) (Pz [.ref (ad 1)] D (TY kA) (cw kA ad X)) (pQ (some (.ref (sA ad (w + 1))))) 0 0 (fun _ => False) := by
  refine MetZ (by decide +kernel) (Nat.le_of_ble_eq_true rfl) ?_
  intro p e s m below meth c ls hx hb hrt hts hown hml hlk hnm hP hK hD hS hl
  have hl : lv_has ls 1 [(0, .ref (ad 1))] := hl
  refine lv_aload_n hx hb dX1_newestRow_0 rfl (lv_at hl 0 rfl) ?_
  refine va_get (ci := 1) (v := .int ((X 8) 0)) (C := RX1) (T := TX1) (N := 3) hx hb hts inX1 hown hK hP _ (cw_hist (kA := kA) (ad := ad) (X := X)) rfl 1 (by decide) (hts _ q_139) (fun _ h9 => h9) rfl dX1_newestRow_1 ?_
  refine lv_if_lt (tgt := 31) hx hb dX1_newestRow_4 (by decide) (fun c_1 => ?_) (fun c_1 => ?_)
  · exact absurd c_1 (neg_of hw (by omega))
  · skip
    refine lv_aload_n hx hb dX1_newestRow_7 rfl (lv_at hl 0 rfl) ?_
    refine va_get (ci := 1) (v := .int ((X 8) 0)) (C := RX1) (T := TX1) (N := 3) hx hb hts inX1 hown hK hP _ (cw_hist (kA := kA) (ad := ad) (X := X)) rfl 1 (by decide) (hts _ q_139) (fun _ h9 => h9) rfl dX1_newestRow_8 ?_
    refine lv_aload_n hx hb dX1_newestRow_11 rfl (lv_at hl 0 rfl) ?_
    refine va_get (ci := 1) (v := .ref (ad 2)) (C := RX1) (T := TX1) (N := 3) hx hb hts inX1 hown hK hP _ (cw_hist (kA := kA) (ad := ad) (X := X)) rfl 0 (by decide) (hts _ q_138) (fun _ h9 => h9) rfl dX1_newestRow_12 ?_
    refine va_alen (v := 6) hx hb hK hP _ 2 (cw_rows (kA := kA) (ad := ad) (X := X)) rfl rfl dX1_newestRow_15 ?_
    refine lv_icmp_ge (tgt := 31) hx hb dX1_newestRow_16 (by decide) (fun c_2 => ?_) (fun c_2 => ?_)
    · exact absurd c_2 (cnt_nge (N := 6) hw rfl (by decide) hw6)
    · skip
      replace c_2 := nge_l c_2
      refine lv_aload_n hx hb dX1_newestRow_19 rfl (lv_at hl 0 rfl) ?_
      refine va_get (ci := 1) (v := .ref (ad 2)) (C := RX1) (T := TX1) (N := 3) hx hb hts inX1 hown hK hP _ (cw_hist (kA := kA) (ad := ad) (X := X)) rfl 0 (by decide) (hts _ q_138) (fun _ h9 => h9) rfl dX1_newestRow_20 ?_
      refine lv_aload_n hx hb dX1_newestRow_23 rfl (lv_at hl 0 rfl) ?_
      refine va_get (ci := 1) (v := .int ((X 8) 0)) (C := RX1) (T := TX1) (N := 3) hx hb hts inX1 hown hK hP _ (cw_hist (kA := kA) (ad := ad) (X := X)) rfl 1 (by decide) (hts _ q_139) (fun _ h9 => h9) rfl dX1_newestRow_24 ?_
      refine va_aldq (f := fun j => some (sA ad (j + 1))) hx hb hK hP _ 2 (cw_rows (kA := kA) (ad := ad) (X := X)) rfl (in_nI hw hw6 (by decide)) dX1_newestRow_27 ?_
      rw [show va_rf ((fun j => some (sA ad (j + 1))) ((X 8) 0).toNatClampNeg) = .ref (sA ad (w + 1)) from by rw [clamp_j hw (by omega)]; rfl]
      refine lv_goto (tgt := 32) hx hb dX1_newestRow_28 (by decide) ?_
      exact end_pa hx hb hrt hlk (Or.inr ⟨_, rfl⟩) (by first | rfl | (rw [Nat.zero_le]; done) | (simp only [c_1, c_2, ↓reduceIte, bI]; done) | (simp only [c_1, c_2, ↓reduceIte, bI]; rfl) | (simp [c_1, c_2, bI]; done)) dX1_newestRow_32

theorem hd_X1_save : yX1_save.cls ≠ "java/lang/invoke/MethodHandle" ∧ yX1_save.cls ≠ "java/lang/invoke/VarHandle" ∧ (parseMethodDescriptor yX1_save.desc).map (fun d => d.parameters.length) = some 1 := by decide +kernel
set_option maxRecDepth 100000 in
set_option maxHeartbeats 4000000 in
theorem m_X1_save (l : Launch) (D : va_G) (kA : Nat → Nat) (ad : Nat → Nat) (X : Nat → Nat → Int32) (w : Nat) (hw : X 8 0 = nI w) (hw6 : w < 6) : Met l yX1_save (Cond.code yX1_save cX1_save 3 none :: AW) ({ frames := 3, cells := 0, slots := 0, locals := 105 } : Room) (Pz [.ref (ad 1), .ref (sA ad 0)] D (TY kA) (cw kA ad X)) (fQ none D (cw kA ad X) (cw kA ad (svX X w))) 0 0 (Aw (cw kA ad X)) := by
  refine MetZ (by decide +kernel) (Nat.le_of_ble_eq_true rfl) ?_
  intro p e s m below meth c ls hx hb hrt hts hown hml hlk hnm hP hK hD hS hl
  have hl : lv_has ls 3 [(0, .ref (ad 1)), (1, .ref (sA ad 0))] := hl
  have hnx := nx6_lt w
  refine lv_aload_n hx hb dX1_save_0 rfl (lv_at hl 0 rfl) ?_
  refine lv_aload_n hx hb dX1_save_1 rfl (lv_at hl 0 rfl) ?_
  refine va_get (ci := 1) (v := .int ((X 8) 0)) (C := RX1) (T := TX1) (N := 3) hx hb hts inX1 hown hK hP _ (cw_hist (kA := kA) (ad := ad) (X := X)) rfl 1 (by decide) (hts _ q_139) (fun _ h9 => h9) rfl dX1_save_2 ?_
  refine lv_iconst (v := 1) hx hb dX1_save_5 (by decide) ?_
  refine lv_iadd hx hb dX1_save_6 ?_
  refine lv_bipush (v := 6) hx hb dX1_save_7 (by decide) ?_
  refine lv_icmp_ge (tgt := 21) hx hb dX1_save_9 (by decide) (fun c_1 => ?_) (fun c_1 => ?_)
  · skip
    replace c_1 := ge_n c_1
    refine lv_iconst (v := 0) hx hb dX1_save_21 (by decide) ?_
    refine lv_topi (fun nv e_nv => ?_)
    have e_n2 := e_nv.trans (by first | exact sv_w1 hw hw6 c_1 | exact sv_w0 hw hw6 c_1)
    subst e_n2
    refine va_put (ci := 1) (v := .int (nI (nx6 w))) (ty := tyX1 1) (C := RX1) (T := TX1) (N := 3) hx hb hts inX1 tyX1 tyX1_ok nmX1 hown hK hP hD hS _ (cw_hist (kA := kA) (ad := ad) (X := X)) rfl 1 (by decide) (hts _ q_139) (fun _ h9 => h9) rfl (tyX1_ok 1 (by decide)) rfl rfl (Nat.le_of_ble_eq_true rfl) dX1_save_22 (fun H locs hP hD hS => ?_)
    have hP : va_P D vwCl (cw kA ad (up3 X 8 0 (nI (nx6 w)))) H := by rw [← st_new ]; exact hP
    have hD : va_D (Aw (cw kA ad X)) (cw kA ad (up3 X 8 0 (nI (nx6 w)))) := by rw [← st_new ]; exact hD
    refine lv_aload_n hx hb dX1_save_25 rfl (lv_at hl 0 rfl) ?_
    refine lv_aload_n hx hb dX1_save_26 rfl (lv_at hl 0 rfl) ?_
    refine va_get (ci := 1) (v := .int (((up3 X 8 0 (nI (nx6 w))) 8) 1)) (C := RX1) (T := TX1) (N := 3) hx hb hts inX1 hown hK hP _ (cw_hist (kA := kA) (ad := ad) (X := up3 X 8 0 (nI (nx6 w)))) rfl 2 (by decide) (hts _ q_140) (fun _ h9 => h9) rfl dX1_save_27 ?_
    refine lv_iconst (v := 1) hx hb dX1_save_30 (by decide) ?_
    refine lv_iadd hx hb dX1_save_31 ?_
    refine lv_bipush (v := 6) hx hb dX1_save_32 (by decide) ?_
    refine va_mmin hx hb (hml.trans hl.1.symm) hown (hts _ q_355) (hts _ q_356) (hts _ q_12) (hts _ q_357) (Nat.le_of_ble_eq_true rfl) (Nat.le_of_ble_eq_true rfl) (Nat.zero_le _) (Nat.zero_le _) dX1_save_34 ?_
    refine va_put (ci := 1) (v := .int (if 6 < (((up3 X 8 0 (nI (nx6 w))) 8) 1) + 1 then 6 else (((up3 X 8 0 (nI (nx6 w))) 8) 1) + 1)) (ty := tyX1 2) (C := RX1) (T := TX1) (N := 3) hx hb hts inX1 tyX1 tyX1_ok nmX1 hown hK hP hD hS _ (cw_hist (kA := kA) (ad := ad) (X := up3 X 8 0 (nI (nx6 w)))) rfl 2 (by decide) (hts _ q_140) (fun _ h9 => h9) rfl (tyX1_ok 2 (by decide)) rfl rfl (Nat.le_of_ble_eq_true rfl) dX1_save_37 (fun H locs hP hD hS => ?_)
    have hP : va_P D vwCl (cw kA ad (up3 (up3 X 8 0 (nI (nx6 w))) 8 1 (if 6 < (((up3 X 8 0 (nI (nx6 w))) 8) 1) + 1 then 6 else (((up3 X 8 0 (nI (nx6 w))) 8) 1) + 1))) H := by rw [← st_kept ]; exact hP
    have hD : va_D (Aw (cw kA ad X)) (cw kA ad (up3 (up3 X 8 0 (nI (nx6 w))) 8 1 (if 6 < (((up3 X 8 0 (nI (nx6 w))) 8) 1) + 1 then 6 else (((up3 X 8 0 (nI (nx6 w))) 8) 1) + 1))) := by rw [← st_kept ]; exact hD
    refine lv_aload_n hx hb dX1_save_40 rfl (lv_at hl 0 rfl) ?_
    refine cs_p (runV (As := []) (rest := []) ⟨hx, hb, hml, hown, hts⟩ (m_X1_newestRow l D kA ad (up3 (up3 X 8 0 (nI (nx6 w))) 8 1 (if 6 < (((up3 X 8 0 (nI (nx6 w))) 8) 1) + 1 then 6 else (((up3 X 8 0 (nI (nx6 w))) 8) 1) + 1)) (nx6 w) (by rw [up3_ne (Or.inr (by omega)), up3_s]) (hnx)) q_358 q_359 q_360 q_5 q_361 hd_X1_newestRow ⟨rfl, rfl⟩ ⟨Nat.le_of_ble_eq_true rfl, Nat.le_of_ble_eq_true rfl⟩ hK (ws := (cw kA ad (up3 (up3 X 8 0 (nI (nx6 w))) 8 1 (if 6 < (((up3 X 8 0 (nI (nx6 w))) 8) 1) + 1 then 6 else (((up3 X 8 0 (nI (nx6 w))) 8) 1) + 1)))) hP hD _ (ci := 1) (C := RX1) (T := TX1) (N := 3) rfl (cw_hist (kA := kA) (ad := ad) (X := up3 (up3 X 8 0 (nI (nx6 w))) 8 1 (if 6 < (((up3 X 8 0 (nI (nx6 w))) 8) 1) + 1 then 6 else (((up3 X 8 0 (nI (nx6 w))) 8) 1) + 1))) rfl hl.1 rfl (Nat.le_of_ble_eq_true rfl) dX1_save_41 ⟨Nat.zero_le _, Nat.zero_le _⟩) ?_
    refine lv_astore_n (lv' := [(2, .ref (sA ad ((nx6 w) + 1))), (0, .ref (ad 1)), (1, .ref (sA ad 0))]) hx hb dX1_save_44 rfl hl (by decide) rfl (fun ls hl => ?_)
    refine lv_aload_n hx hb dX1_save_45 rfl (lv_at hl 0 rfl) ?_
    refine lv_ifnull hx hb dX1_save_46 ?_
    refine lv_aload_n hx hb dX1_save_49 rfl (lv_at hl 0 rfl) ?_
    refine lv_aload_n hx hb dX1_save_50 rfl (lv_at hl 2 rfl) ?_
    refine cs_fn (runV (As := [.ref (sA ad 0)]) (rest := []) ⟨hx, hb, hml, hown, hts⟩ (m_X4_copyFrom l D kA ad (up3 (up3 X 8 0 (nI (nx6 w))) 8 1 (if 6 < (((up3 X 8 0 (nI (nx6 w))) 8) 1) + 1 then 6 else (((up3 X 8 0 (nI (nx6 w))) 8) 1) + 1)) ((nx6 w) + 1) 0 (by omega) (by omega) (by omega)) q_362 q_363 q_364 q_2 q_365 hd_X4_copyFrom ⟨rfl, rfl⟩ ⟨Nat.le_of_ble_eq_true rfl, Nat.le_of_ble_eq_true rfl⟩ hK (ws := (cw kA ad (up3 (up3 X 8 0 (nI (nx6 w))) 8 1 (if 6 < (((up3 X 8 0 (nI (nx6 w))) 8) 1) + 1 then 6 else (((up3 X 8 0 (nI (nx6 w))) 8) 1) + 1)))) hP hD _ (ci := 4) (C := RX4) (T := TX4) (N := 4) rfl (cw_state (kA := kA) (ad := ad) (X := up3 (up3 X 8 0 (nI (nx6 w))) 8 1 (if 6 < (((up3 X 8 0 (nI (nx6 w))) 8) 1) + 1 then 6 else (((up3 X 8 0 (nI (nx6 w))) 8) 1) + 1)) (r := ((nx6 w) + 1)) (by omega)) rfl hl.1 rfl (Nat.le_of_ble_eq_true rfl) dX1_save_51 ⟨Nat.zero_le _, Nat.zero_le _⟩) hS (fun _ h => cw_Aw h) (fun H locs hP _ hS => ?_)
    have hD := cw_D (X' := up2 (up3 (up3 X 8 0 (nI (nx6 w))) 8 1 (if 6 < (((up3 X 8 0 (nI (nx6 w))) 8) 1) + 1 then 6 else (((up3 X 8 0 (nI (nx6 w))) 8) 1) + 1)) ((nx6 w) + 1) ((X 0))) hD
    have hP : va_P D vwCl (cw kA ad (up2 (up3 (up3 X 8 0 (nI (nx6 w))) 8 1 (if 6 < (((up3 X 8 0 (nI (nx6 w))) 8) 1) + 1 then 6 else (((up3 X 8 0 (nI (nx6 w))) 8) 1) + 1)) ((nx6 w) + 1) ((X 0)))) H := hP
    exact end_fv hx hb hrt hlk hP hS (fun h => by rw [sv_eq] at h; exact h) dX1_save_54
  · skip
    replace c_1 := nge_l c_1
    refine lv_aload_n hx hb dX1_save_12 rfl (lv_at hl 0 rfl) ?_
    refine va_get (ci := 1) (v := .int ((X 8) 0)) (C := RX1) (T := TX1) (N := 3) hx hb hts inX1 hown hK hP _ (cw_hist (kA := kA) (ad := ad) (X := X)) rfl 1 (by decide) (hts _ q_139) (fun _ h9 => h9) rfl dX1_save_13 ?_
    refine lv_iconst (v := 1) hx hb dX1_save_16 (by decide) ?_
    refine lv_iadd hx hb dX1_save_17 ?_
    refine lv_goto (tgt := 22) hx hb dX1_save_18 (by decide) ?_
    refine lv_topi (fun nv e_nv => ?_)
    have e_n2 := e_nv.trans (by first | exact sv_w1 hw hw6 c_1 | exact sv_w0 hw hw6 c_1)
    subst e_n2
    refine va_put (ci := 1) (v := .int (nI (nx6 w))) (ty := tyX1 1) (C := RX1) (T := TX1) (N := 3) hx hb hts inX1 tyX1 tyX1_ok nmX1 hown hK hP hD hS _ (cw_hist (kA := kA) (ad := ad) (X := X)) rfl 1 (by decide) (hts _ q_139) (fun _ h9 => h9) rfl (tyX1_ok 1 (by decide)) rfl rfl (Nat.le_of_ble_eq_true rfl) dX1_save_22 (fun H locs hP hD hS => ?_)
    have hP : va_P D vwCl (cw kA ad (up3 X 8 0 (nI (nx6 w)))) H := by rw [← st_new ]; exact hP
    have hD : va_D (Aw (cw kA ad X)) (cw kA ad (up3 X 8 0 (nI (nx6 w)))) := by rw [← st_new ]; exact hD
    refine lv_aload_n hx hb dX1_save_25 rfl (lv_at hl 0 rfl) ?_
    refine lv_aload_n hx hb dX1_save_26 rfl (lv_at hl 0 rfl) ?_
    refine va_get (ci := 1) (v := .int (((up3 X 8 0 (nI (nx6 w))) 8) 1)) (C := RX1) (T := TX1) (N := 3) hx hb hts inX1 hown hK hP _ (cw_hist (kA := kA) (ad := ad) (X := up3 X 8 0 (nI (nx6 w)))) rfl 2 (by decide) (hts _ q_140) (fun _ h9 => h9) rfl dX1_save_27 ?_
    refine lv_iconst (v := 1) hx hb dX1_save_30 (by decide) ?_
    refine lv_iadd hx hb dX1_save_31 ?_
    refine lv_bipush (v := 6) hx hb dX1_save_32 (by decide) ?_
    refine va_mmin hx hb (hml.trans hl.1.symm) hown (hts _ q_355) (hts _ q_356) (hts _ q_12) (hts _ q_357) (Nat.le_of_ble_eq_true rfl) (Nat.le_of_ble_eq_true rfl) (Nat.zero_le _) (Nat.zero_le _) dX1_save_34 ?_
    refine va_put (ci := 1) (v := .int (if 6 < (((up3 X 8 0 (nI (nx6 w))) 8) 1) + 1 then 6 else (((up3 X 8 0 (nI (nx6 w))) 8) 1) + 1)) (ty := tyX1 2) (C := RX1) (T := TX1) (N := 3) hx hb hts inX1 tyX1 tyX1_ok nmX1 hown hK hP hD hS _ (cw_hist (kA := kA) (ad := ad) (X := up3 X 8 0 (nI (nx6 w)))) rfl 2 (by decide) (hts _ q_140) (fun _ h9 => h9) rfl (tyX1_ok 2 (by decide)) rfl rfl (Nat.le_of_ble_eq_true rfl) dX1_save_37 (fun H locs hP hD hS => ?_)
    have hP : va_P D vwCl (cw kA ad (up3 (up3 X 8 0 (nI (nx6 w))) 8 1 (if 6 < (((up3 X 8 0 (nI (nx6 w))) 8) 1) + 1 then 6 else (((up3 X 8 0 (nI (nx6 w))) 8) 1) + 1))) H := by rw [← st_kept ]; exact hP
    have hD : va_D (Aw (cw kA ad X)) (cw kA ad (up3 (up3 X 8 0 (nI (nx6 w))) 8 1 (if 6 < (((up3 X 8 0 (nI (nx6 w))) 8) 1) + 1 then 6 else (((up3 X 8 0 (nI (nx6 w))) 8) 1) + 1))) := by rw [← st_kept ]; exact hD
    refine lv_aload_n hx hb dX1_save_40 rfl (lv_at hl 0 rfl) ?_
    refine cs_p (runV (As := []) (rest := []) ⟨hx, hb, hml, hown, hts⟩ (m_X1_newestRow l D kA ad (up3 (up3 X 8 0 (nI (nx6 w))) 8 1 (if 6 < (((up3 X 8 0 (nI (nx6 w))) 8) 1) + 1 then 6 else (((up3 X 8 0 (nI (nx6 w))) 8) 1) + 1)) (nx6 w) (by rw [up3_ne (Or.inr (by omega)), up3_s]) (hnx)) q_358 q_359 q_360 q_5 q_361 hd_X1_newestRow ⟨rfl, rfl⟩ ⟨Nat.le_of_ble_eq_true rfl, Nat.le_of_ble_eq_true rfl⟩ hK (ws := (cw kA ad (up3 (up3 X 8 0 (nI (nx6 w))) 8 1 (if 6 < (((up3 X 8 0 (nI (nx6 w))) 8) 1) + 1 then 6 else (((up3 X 8 0 (nI (nx6 w))) 8) 1) + 1)))) hP hD _ (ci := 1) (C := RX1) (T := TX1) (N := 3) rfl (cw_hist (kA := kA) (ad := ad) (X := up3 (up3 X 8 0 (nI (nx6 w))) 8 1 (if 6 < (((up3 X 8 0 (nI (nx6 w))) 8) 1) + 1 then 6 else (((up3 X 8 0 (nI (nx6 w))) 8) 1) + 1))) rfl hl.1 rfl (Nat.le_of_ble_eq_true rfl) dX1_save_41 ⟨Nat.zero_le _, Nat.zero_le _⟩) ?_
    refine lv_astore_n (lv' := [(2, .ref (sA ad ((nx6 w) + 1))), (0, .ref (ad 1)), (1, .ref (sA ad 0))]) hx hb dX1_save_44 rfl hl (by decide) rfl (fun ls hl => ?_)
    refine lv_aload_n hx hb dX1_save_45 rfl (lv_at hl 0 rfl) ?_
    refine lv_ifnull hx hb dX1_save_46 ?_
    refine lv_aload_n hx hb dX1_save_49 rfl (lv_at hl 0 rfl) ?_
    refine lv_aload_n hx hb dX1_save_50 rfl (lv_at hl 2 rfl) ?_
    refine cs_fn (runV (As := [.ref (sA ad 0)]) (rest := []) ⟨hx, hb, hml, hown, hts⟩ (m_X4_copyFrom l D kA ad (up3 (up3 X 8 0 (nI (nx6 w))) 8 1 (if 6 < (((up3 X 8 0 (nI (nx6 w))) 8) 1) + 1 then 6 else (((up3 X 8 0 (nI (nx6 w))) 8) 1) + 1)) ((nx6 w) + 1) 0 (by omega) (by omega) (by omega)) q_362 q_363 q_364 q_2 q_365 hd_X4_copyFrom ⟨rfl, rfl⟩ ⟨Nat.le_of_ble_eq_true rfl, Nat.le_of_ble_eq_true rfl⟩ hK (ws := (cw kA ad (up3 (up3 X 8 0 (nI (nx6 w))) 8 1 (if 6 < (((up3 X 8 0 (nI (nx6 w))) 8) 1) + 1 then 6 else (((up3 X 8 0 (nI (nx6 w))) 8) 1) + 1)))) hP hD _ (ci := 4) (C := RX4) (T := TX4) (N := 4) rfl (cw_state (kA := kA) (ad := ad) (X := up3 (up3 X 8 0 (nI (nx6 w))) 8 1 (if 6 < (((up3 X 8 0 (nI (nx6 w))) 8) 1) + 1 then 6 else (((up3 X 8 0 (nI (nx6 w))) 8) 1) + 1)) (r := ((nx6 w) + 1)) (by omega)) rfl hl.1 rfl (Nat.le_of_ble_eq_true rfl) dX1_save_51 ⟨Nat.zero_le _, Nat.zero_le _⟩) hS (fun _ h => cw_Aw h) (fun H locs hP _ hS => ?_)
    have hD := cw_D (X' := up2 (up3 (up3 X 8 0 (nI (nx6 w))) 8 1 (if 6 < (((up3 X 8 0 (nI (nx6 w))) 8) 1) + 1 then 6 else (((up3 X 8 0 (nI (nx6 w))) 8) 1) + 1)) ((nx6 w) + 1) ((X 0))) hD
    have hP : va_P D vwCl (cw kA ad (up2 (up3 (up3 X 8 0 (nI (nx6 w))) 8 1 (if 6 < (((up3 X 8 0 (nI (nx6 w))) 8) 1) + 1 then 6 else (((up3 X 8 0 (nI (nx6 w))) 8) 1) + 1)) ((nx6 w) + 1) ((X 0)))) H := hP
    exact end_fv hx hb hrt hlk hP hS (fun h => by rw [sv_eq] at h; exact h) dX1_save_54
end
section
theorem hd_X5_wayOf : yX5_wayOf.cls ≠ "java/lang/invoke/MethodHandle" ∧ yX5_wayOf.cls ≠ "java/lang/invoke/VarHandle" ∧ (parseMethodDescriptor yX5_wayOf.desc).map (fun d => d.parameters.length) = some 1 := by decide +kernel
set_option maxRecDepth 100000 in
set_option maxHeartbeats 4000000 in
theorem m_X5_wayOf (l : Launch) (D : va_G) (kA : Nat → Nat) (ad : Nat → Nat) (X : Nat → Nat → Int32) (b : Bool) : Met l yX5_wayOf (Cond.code yX5_wayOf cX5_wayOf 1 (some .int) :: AW) ({ frames := 0, cells := 0, slots := 0, locals := 0 } : Room) (Pz [.int (bI b)] D (TY kA) (cw kA ad X)) (pQ (some (.int (wI b)))) 0 0 (fun _ => False) := by
  refine MetZ (by decide +kernel) (Nat.le_of_ble_eq_true rfl) ?_
  intro p e s m below meth c ls hx hb hrt hts hown hml hlk hnm hP hK hD hS hl
  have hl : lv_has ls 1 [(0, .int (bI b))] := hl
  refine lv_iload_n hx hb dX5_wayOf_0 rfl (lv_at hl 0 rfl) ?_
  refine lv_if_eq (tgt := 8) hx hb dX5_wayOf_1 (by decide) (fun c_1 => ?_) (fun c_1 => ?_)
  · skip
    replace c_1 := bI_0.mp c_1
    refine lv_iconst (v := (-1)) hx hb dX5_wayOf_8 (by decide) ?_
    exact end_pi hx hb hrt hlk (by first | rfl | (rw [wI, if_neg (by rw [c_1]; decide)]; done) | (simp only [wI, c_1, ↓reduceIte, bI]; done) | (simp only [wI, c_1, ↓reduceIte, bI]; rfl) | (simp [wI, c_1, bI]; done)) dX5_wayOf_9
  · skip
    replace c_1 := bI_n0 c_1
    refine lv_iconst (v := 1) hx hb dX5_wayOf_4 (by decide) ?_
    refine lv_goto (tgt := 9) hx hb dX5_wayOf_5 (by decide) ?_
    exact end_pi hx hb hrt hlk (by first | rfl | (rw [wI, if_pos c_1]; done) | (simp only [wI, c_1, ↓reduceIte, bI]; done) | (simp only [wI, c_1, ↓reduceIte, bI]; rfl) | (simp [wI, c_1, bI]; done)) dX5_wayOf_9

theorem hd_X5_canStep : yX5_canStep.cls ≠ "java/lang/invoke/MethodHandle" ∧ yX5_canStep.cls ≠ "java/lang/invoke/VarHandle" ∧ (parseMethodDescriptor yX5_canStep.desc).map (fun d => d.parameters.length) = some 2 := by decide +kernel
set_option maxRecDepth 100000 in
set_option maxHeartbeats 4000000 in
theorem m_X5_canStep (l : Launch) (D : va_G) (kA : Nat → Nat) (ad : Nat → Nat) (X : Nat → Nat → Int32) (a : Nat) (p0 : Int32) (ha : a < 4) : Met l yX5_canStep (Cond.code yX5_canStep cX5_canStep 3 (some .boolean) :: AW) ({ frames := 2, cells := 0, slots := 0, locals := 46 } : Room) (Pz [.ref (ad 0), .ref (gA ad 0 a), .int p0] D (TY kA) (cw kA ad X)) (pQ (some (.int (bI (canF (X 0) a p0))))) 0 0 (fun _ => False) := by
  refine MetZ (by decide +kernel) (Nat.le_of_ble_eq_true rfl) ?_
  intro p e s m below meth c ls hx hb hrt hts hown hml hlk hnm hP hK hD hS hl
  have hl : lv_has ls 3 [(0, .ref (ad 0)), (1, .ref (gA ad 0 a)), (2, .int p0)] := hl
  refine lv_aload_n hx hb dX5_canStep_0 rfl (lv_at hl 1 rfl) ?_
  refine lv_iload_n hx hb dX5_canStep_1 rfl (lv_at hl 2 rfl) ?_
  refine lv_aload_n hx hb dX5_canStep_2 rfl (lv_at hl 0 rfl) ?_
  refine va_get (ci := 5) (v := .ref (sA ad 0)) (C := RX5) (T := TX5) (N := 6) hx hb hts inX5 hown hK hP _ (cw_arm (kA := kA) (ad := ad) (X := X)) rfl 0 (by decide) (hts _ q_170) (fun _ h9 => h9) rfl dX5_canStep_3 ?_
  refine va_get (ci := 4) (v := .ref (rA ad 0)) (C := RX4) (T := TX4) (N := 4) hx hb hts inX4 hown hK hP _ (cw_state (kA := kA) (ad := ad) (X := X) (r := 0) (by omega)) rfl 0 (by decide) (hts _ q_114) (fun _ h9 => h9) rfl dX5_canStep_6 ?_
  refine cs_p (runV (As := [.int p0, .ref (rA ad 0)]) (rest := []) ⟨hx, hb, hml, hown, hts⟩ (m_X0_tollOfStep l D kA (gA ad 0 a) (wA ad 0 a) (sl ((X 0)) a) (rA ad 0) (X 0) p0 ) q_320 q_321 q_322 q_4 q_323 hd_X0_tollOfStep ⟨rfl, rfl⟩ ⟨Nat.le_of_ble_eq_true rfl, Nat.le_of_ble_eq_true rfl⟩ hK (ws := [((gA ad 0 a), gC (wA ad 0 a) (sl ((X 0)) a)), ((wA ad 0 a), wC kA (sl ((X 0)) a)), ((rA ad 0), rC (X 0))]) (P3 hP (cw_gear (kA := kA) (ad := ad) (X := X) (r := 0) (a := a) (by omega) (by omega)) (cw_wears (kA := kA) (ad := ad) (X := X) (r := 0) (a := a) (by omega) (by omega)) (cw_rules (kA := kA) (ad := ad) (X := X) (r := 0) (by omega))) (D3 hD (cw_gear (kA := kA) (ad := ad) (X := X) (r := 0) (a := a) (by omega) (by omega)) (cw_wears (kA := kA) (ad := ad) (X := X) (r := 0) (a := a) (by omega) (by omega)) (cw_rules (kA := kA) (ad := ad) (X := X) (r := 0) (by omega)) (by omega) (by omega) (by omega)) 0 (ci := 0) (C := RX0) (T := TX0) (N := 12) rfl rfl rfl hl.1 rfl (Nat.le_of_ble_eq_true rfl) dX5_canStep_9 ⟨Nat.zero_le _, Nat.zero_le _⟩) ?_
  refine lv_aload_n hx hb dX5_canStep_12 rfl (lv_at hl 0 rfl) ?_
  refine va_get (ci := 5) (v := .ref (sA ad 0)) (C := RX5) (T := TX5) (N := 6) hx hb hts inX5 hown hK hP _ (cw_arm (kA := kA) (ad := ad) (X := X)) rfl 0 (by decide) (hts _ q_170) (fun _ h9 => h9) rfl dX5_canStep_13 ?_
  refine va_get (ci := 4) (v := .int ((X 0) 6)) (C := RX4) (T := TX4) (N := 4) hx hb hts inX4 hown hK hP _ (cw_state (kA := kA) (ad := ad) (X := X) (r := 0) (by omega)) rfl 2 (by decide) (hts _ q_117) (fun _ h9 => h9) rfl dX5_canStep_16 ?_
  refine lv_icmp_gt (tgt := 26) hx hb dX5_canStep_19 (by decide) (fun c_1 => ?_) (fun c_1 => ?_)
  · skip
    refine lv_iconst (v := 0) hx hb dX5_canStep_26 (by decide) ?_
    exact end_pz hx hb hrt hlk (by decide) (by first | rfl | (rw [canF, if_pos c_1]; done) | (simp only [canF, c_1, ↓reduceIte, bI]; done) | (simp only [canF, c_1, ↓reduceIte, bI]; rfl) | (simp [canF, c_1, bI]; done)) dX5_canStep_27
  · skip
    refine lv_iconst (v := 1) hx hb dX5_canStep_22 (by decide) ?_
    refine lv_goto (tgt := 27) hx hb dX5_canStep_23 (by decide) ?_
    exact end_pz hx hb hrt hlk (by decide) (by first | rfl | (rw [canF, if_neg c_1]; done) | (simp only [canF, c_1, ↓reduceIte, bI]; done) | (simp only [canF, c_1, ↓reduceIte, bI]; rfl) | (simp [canF, c_1, bI]; done)) dX5_canStep_27

theorem hd_X5_cheaperWay : yX5_cheaperWay.cls ≠ "java/lang/invoke/MethodHandle" ∧ yX5_cheaperWay.cls ≠ "java/lang/invoke/VarHandle" ∧ (parseMethodDescriptor yX5_cheaperWay.desc).map (fun d => d.parameters.length) = some 2 := by decide +kernel
set_option maxRecDepth 100000 in
set_option maxHeartbeats 4000000 in
theorem m_X5_cheaperWay (l : Launch) (D : va_G) (kA : Nat → Nat) (ad : Nat → Nat) (X : Nat → Nat → Int32) (a : Nat) (p0 : Int32) (ha : a < 4) : Met l yX5_cheaperWay (Cond.code yX5_cheaperWay cX5_cheaperWay 5 (some .int) :: AW) ({ frames := 2, cells := 0, slots := 0, locals := 53 } : Room) (Pz [.ref (ad 0), .ref (gA ad 0 a), .int p0] D (TY kA) (cw kA ad X)) (pQ (some (.int (chF (X 0) a p0)))) 0 0 (fun _ => False) := by
  refine MetZ (by decide +kernel) (Nat.le_of_ble_eq_true rfl) ?_
  intro p e s m below meth c ls hx hb hrt hts hown hml hlk hnm hP hK hD hS hl
  have hl : lv_has ls 5 [(0, .ref (ad 0)), (1, .ref (gA ad 0 a)), (2, .int p0)] := hl
  refine lv_aload_n hx hb dX5_cheaperWay_0 rfl (lv_at hl 1 rfl) ?_
  refine lv_iload_n hx hb dX5_cheaperWay_1 rfl (lv_at hl 2 rfl) ?_
  refine lv_iconst (v := 1) hx hb dX5_cheaperWay_2 (by decide) ?_
  refine lv_iconst (v := (-1)) hx hb dX5_cheaperWay_3 (by decide) ?_
  refine lv_aload_n hx hb dX5_cheaperWay_4 rfl (lv_at hl 0 rfl) ?_
  refine va_get (ci := 5) (v := .ref (sA ad 0)) (C := RX5) (T := TX5) (N := 6) hx hb hts inX5 hown hK hP _ (cw_arm (kA := kA) (ad := ad) (X := X)) rfl 0 (by decide) (hts _ q_170) (fun _ h9 => h9) rfl dX5_cheaperWay_5 ?_
  refine va_get (ci := 4) (v := .ref (rA ad 0)) (C := RX4) (T := TX4) (N := 4) hx hb hts inX4 hown hK hP _ (cw_state (kA := kA) (ad := ad) (X := X) (r := 0) (by omega)) rfl 0 (by decide) (hts _ q_114) (fun _ h9 => h9) rfl dX5_cheaperWay_8 ?_
  refine cs_p (runV (As := [.int p0, .int 1, .int (-1), .ref (rA ad 0)]) (rest := []) ⟨hx, hb, hml, hown, hts⟩ (m_X0_costOfWay l D kA (gA ad 0 a) (wA ad 0 a) (sl ((X 0)) a) (rA ad 0) (X 0) p0 1 (-1) ) q_412 q_413 q_414 q_4 q_415 hd_X0_costOfWay ⟨rfl, rfl⟩ ⟨Nat.le_of_ble_eq_true rfl, Nat.le_of_ble_eq_true rfl⟩ hK (ws := [((gA ad 0 a), gC (wA ad 0 a) (sl ((X 0)) a)), ((wA ad 0 a), wC kA (sl ((X 0)) a)), ((rA ad 0), rC (X 0))]) (P3 hP (cw_gear (kA := kA) (ad := ad) (X := X) (r := 0) (a := a) (by omega) (by omega)) (cw_wears (kA := kA) (ad := ad) (X := X) (r := 0) (a := a) (by omega) (by omega)) (cw_rules (kA := kA) (ad := ad) (X := X) (r := 0) (by omega))) (D3 hD (cw_gear (kA := kA) (ad := ad) (X := X) (r := 0) (a := a) (by omega) (by omega)) (cw_wears (kA := kA) (ad := ad) (X := X) (r := 0) (a := a) (by omega) (by omega)) (cw_rules (kA := kA) (ad := ad) (X := X) (r := 0) (by omega)) (by omega) (by omega) (by omega)) 0 (ci := 0) (C := RX0) (T := TX0) (N := 12) rfl rfl rfl hl.1 rfl (Nat.le_of_ble_eq_true rfl) dX5_cheaperWay_11 ⟨Nat.zero_le _, Nat.zero_le _⟩) ?_
  refine lv_istore_n (lv' := [(3, .int (costG (sl ((X 0)) a) (X 0) p0 1 (-1))), (0, .ref (ad 0)), (1, .ref (gA ad 0 a)), (2, .int p0)]) hx hb dX5_cheaperWay_14 rfl hl (by decide) rfl (fun ls hl => ?_)
  refine lv_aload_n hx hb dX5_cheaperWay_15 rfl (lv_at hl 2 rfl) ?_
  refine lv_iload_n hx hb dX5_cheaperWay_16 rfl (lv_at hl 3 rfl) ?_
  refine lv_iconst (v := (-1)) hx hb dX5_cheaperWay_17 (by decide) ?_
  refine lv_iconst (v := (-1)) hx hb dX5_cheaperWay_18 (by decide) ?_
  refine lv_aload_n hx hb dX5_cheaperWay_19 rfl (lv_at hl 1 rfl) ?_
  refine va_get (ci := 5) (v := .ref (sA ad 0)) (C := RX5) (T := TX5) (N := 6) hx hb hts inX5 hown hK hP _ (cw_arm (kA := kA) (ad := ad) (X := X)) rfl 0 (by decide) (hts _ q_170) (fun _ h9 => h9) rfl dX5_cheaperWay_20 ?_
  refine va_get (ci := 4) (v := .ref (rA ad 0)) (C := RX4) (T := TX4) (N := 4) hx hb hts inX4 hown hK hP _ (cw_state (kA := kA) (ad := ad) (X := X) (r := 0) (by omega)) rfl 0 (by decide) (hts _ q_114) (fun _ h9 => h9) rfl dX5_cheaperWay_23 ?_
  refine cs_p (runV (As := [.int p0, .int (-1), .int (-1), .ref (rA ad 0)]) (rest := []) ⟨hx, hb, hml, hown, hts⟩ (m_X0_costOfWay l D kA (gA ad 0 a) (wA ad 0 a) (sl ((X 0)) a) (rA ad 0) (X 0) p0 (-1) (-1) ) q_412 q_413 q_414 q_4 q_415 hd_X0_costOfWay ⟨rfl, rfl⟩ ⟨Nat.le_of_ble_eq_true rfl, Nat.le_of_ble_eq_true rfl⟩ hK (ws := [((gA ad 0 a), gC (wA ad 0 a) (sl ((X 0)) a)), ((wA ad 0 a), wC kA (sl ((X 0)) a)), ((rA ad 0), rC (X 0))]) (P3 hP (cw_gear (kA := kA) (ad := ad) (X := X) (r := 0) (a := a) (by omega) (by omega)) (cw_wears (kA := kA) (ad := ad) (X := X) (r := 0) (a := a) (by omega) (by omega)) (cw_rules (kA := kA) (ad := ad) (X := X) (r := 0) (by omega))) (D3 hD (cw_gear (kA := kA) (ad := ad) (X := X) (r := 0) (a := a) (by omega) (by omega)) (cw_wears (kA := kA) (ad := ad) (X := X) (r := 0) (a := a) (by omega) (by omega)) (cw_rules (kA := kA) (ad := ad) (X := X) (r := 0) (by omega)) (by omega) (by omega) (by omega)) 0 (ci := 0) (C := RX0) (T := TX0) (N := 12) rfl rfl rfl hl.1 rfl (Nat.le_of_ble_eq_true rfl) dX5_cheaperWay_26 ⟨Nat.zero_le _, Nat.zero_le _⟩) ?_
  refine lv_istore (lv' := [(4, .int (costG (sl ((X 0)) a) (X 0) p0 (-1) (-1))), (3, .int (costG (sl ((X 0)) a) (X 0) p0 1 (-1))), (0, .ref (ad 0)), (1, .ref (gA ad 0 a)), (2, .int p0)]) hx hb dX5_cheaperWay_29 hl (by decide) rfl (fun ls hl => ?_)
  refine lv_iload_n hx hb dX5_cheaperWay_31 rfl (lv_at hl 1 rfl) ?_
  refine lv_iload hx hb dX5_cheaperWay_32 (lv_at hl 0 rfl) ?_
  refine lv_icmp_gt (tgt := 41) hx hb dX5_cheaperWay_34 (by decide) (fun c_1 => ?_) (fun c_1 => ?_)
  · skip
    refine lv_iconst (v := (-1)) hx hb dX5_cheaperWay_41 (by decide) ?_
    exact end_pi hx hb hrt hlk (by first | rfl | (rw [chF, if_pos c_1]; done) | (simp only [chF, c_1, ↓reduceIte, bI]; done) | (simp only [chF, c_1, ↓reduceIte, bI]; rfl) | (simp [chF, c_1, bI]; done)) dX5_cheaperWay_42
  · skip
    refine lv_iconst (v := 1) hx hb dX5_cheaperWay_37 (by decide) ?_
    refine lv_goto (tgt := 42) hx hb dX5_cheaperWay_38 (by decide) ?_
    exact end_pi hx hb hrt hlk (by first | rfl | (rw [chF, if_neg c_1]; done) | (simp only [chF, c_1, ↓reduceIte, bI]; done) | (simp only [chF, c_1, ↓reduceIte, bI]; rfl) | (simp [chF, c_1, bI]; done)) dX5_cheaperWay_42

theorem hd_X5_canGo : yX5_canGo.cls ≠ "java/lang/invoke/MethodHandle" ∧ yX5_canGo.cls ≠ "java/lang/invoke/VarHandle" ∧ (parseMethodDescriptor yX5_canGo.desc).map (fun d => d.parameters.length) = some 2 := by decide +kernel
set_option maxRecDepth 100000 in
set_option maxHeartbeats 4000000 in
theorem m_X5_canGo (l : Launch) (D : va_G) (kA : Nat → Nat) (ad : Nat → Nat) (X : Nat → Nat → Int32) (a : Nat) (p0 : Int32) (ha : a < 4) : Met l yX5_canGo (Cond.code yX5_canGo cX5_canGo 3 (some .boolean) :: AW) ({ frames := 3, cells := 0, slots := 0, locals := 77 } : Room) (Pz [.ref (ad 0), .ref (gA ad 0 a), .int p0] D (TY kA) (cw kA ad X)) (pQ (some (.int (bI (cgF (X 0) a p0))))) 0 0 (fun _ => False) := by
  refine MetZ (by decide +kernel) (Nat.le_of_ble_eq_true rfl) ?_
  intro p e s m below meth c ls hx hb hrt hts hown hml hlk hnm hP hK hD hS hl
  have hl : lv_has ls 3 [(0, .ref (ad 0)), (1, .ref (gA ad 0 a)), (2, .int p0)] := hl
  refine lv_aload_n hx hb dX5_canGo_0 rfl (lv_at hl 1 rfl) ?_
  refine va_get (ci := 0) (v := .int (sl ((X 0)) a 1)) (C := RX0) (T := TX0) (N := 12) hx hb hts inX0 hown hK hP _ (cw_gear (kA := kA) (ad := ad) (X := X) (r := 0) (a := a) (by omega) (by omega)) rfl 2 (by decide) (hts _ q_73) (fun _ h9 => h9) rfl dX5_canGo_1 ?_
  refine lv_iload_n hx hb dX5_canGo_4 rfl (lv_at hl 2 rfl) ?_
  refine lv_icmp_eq (tgt := 22) hx hb dX5_canGo_5 (by decide) (fun c_1 => ?_) (fun c_1 => ?_)
  · skip
    refine lv_iconst (v := 1) hx hb dX5_canGo_22 (by decide) ?_
    refine lv_goto (tgt := 27) hx hb dX5_canGo_23 (by decide) ?_
    exact end_pz hx hb hrt hlk (by decide) (by first | rfl | (rw [cgF, if_pos c_1]; done) | (simp only [cgF, c_1, ↓reduceIte, bI]; done) | (simp only [cgF, c_1, ↓reduceIte, bI]; rfl) | (simp [cgF, c_1, bI]; done)) dX5_canGo_27
  · skip
    refine lv_aload_n hx hb dX5_canGo_8 rfl (lv_at hl 0 rfl) ?_
    refine lv_aload_n hx hb dX5_canGo_9 rfl (lv_at hl 1 rfl) ?_
    refine lv_aload_n hx hb dX5_canGo_10 rfl (lv_at hl 0 rfl) ?_
    refine lv_aload_n hx hb dX5_canGo_11 rfl (lv_at hl 1 rfl) ?_
    refine lv_iload_n hx hb dX5_canGo_12 rfl (lv_at hl 2 rfl) ?_
    refine cs_p (runV (As := [.ref (gA ad 0 a), .int p0]) (rest := [.ref (gA ad 0 a), .ref (ad 0)]) ⟨hx, hb, hml, hown, hts⟩ (m_X5_cheaperWay l D kA ad X a p0 (ha)) q_424 q_426 qp_5 q_1 q_427 hd_X5_cheaperWay ⟨rfl, rfl⟩ ⟨Nat.le_of_ble_eq_true rfl, Nat.le_of_ble_eq_true rfl⟩ hK (ws := (cw kA ad X)) hP hD _ (ci := 5) (C := RX5) (T := TX5) (N := 6) rfl (cw_arm (kA := kA) (ad := ad) (X := X)) rfl hl.1 rfl (Nat.le_of_ble_eq_true rfl) dX5_canGo_13 ⟨Nat.zero_le _, Nat.zero_le _⟩) ?_
    refine cs_p (runV (As := [.ref (gA ad 0 a), .int (chF (X 0) a p0)]) (rest := []) ⟨hx, hb, hml, hown, hts⟩ (m_X5_canStep l D kA ad X a (chF (X 0) a p0) (ha)) q_316 q_318 qp_2 q_1 q_319 hd_X5_canStep ⟨rfl, rfl⟩ ⟨Nat.le_of_ble_eq_true rfl, Nat.le_of_ble_eq_true rfl⟩ hK (ws := (cw kA ad X)) hP hD _ (ci := 5) (C := RX5) (T := TX5) (N := 6) rfl (cw_arm (kA := kA) (ad := ad) (X := X)) rfl hl.1 rfl (Nat.le_of_ble_eq_true rfl) dX5_canGo_16 ⟨Nat.zero_le _, Nat.zero_le _⟩) ?_
    refine lv_if_eq (tgt := 26) hx hb dX5_canGo_19 (by decide) (fun c_2 => ?_) (fun c_2 => ?_)
    · skip
      replace c_2 := bI_0.mp c_2
      refine lv_iconst (v := 0) hx hb dX5_canGo_26 (by decide) ?_
      exact end_pz hx hb hrt hlk (by decide) (by first | rfl | (rw [cgF, if_neg c_1, if_neg (by rw [c_2]; decide)]; done) | (simp only [cgF, c_1, c_2, ↓reduceIte, bI]; done) | (simp only [cgF, c_1, c_2, ↓reduceIte, bI]; rfl) | (simp [cgF, c_1, c_2, bI]; done)) dX5_canGo_27
    · skip
      replace c_2 := bI_n0 c_2
      refine lv_iconst (v := 1) hx hb dX5_canGo_22 (by decide) ?_
      refine lv_goto (tgt := 27) hx hb dX5_canGo_23 (by decide) ?_
      exact end_pz hx hb hrt hlk (by decide) (by first | rfl | (rw [cgF, if_neg c_1, if_pos c_2]; done) | (simp only [cgF, c_1, c_2, ↓reduceIte, bI]; done) | (simp only [cgF, c_1, c_2, ↓reduceIte, bI]; rfl) | (simp [cgF, c_1, c_2, bI]; done)) dX5_canGo_27

theorem hd_X5_canGrease : yX5_canGrease.cls ≠ "java/lang/invoke/MethodHandle" ∧ yX5_canGrease.cls ≠ "java/lang/invoke/VarHandle" ∧ (parseMethodDescriptor yX5_canGrease.desc).map (fun d => d.parameters.length) = some 0 := by decide +kernel
set_option maxRecDepth 100000 in
set_option maxHeartbeats 4000000 in
theorem m_X5_canGrease (l : Launch) (D : va_G) (kA : Nat → Nat) (ad : Nat → Nat) (X : Nat → Nat → Int32) : Met l yX5_canGrease (Cond.code yX5_canGrease cX5_canGrease 1 (some .boolean) :: AW) ({ frames := 0, cells := 0, slots := 0, locals := 0 } : Room) (Pz [.ref (ad 0)] D (TY kA) (cw kA ad X)) (pQ (some (.int (bI (gsF (X 0)))))) 0 0 (fun _ => False) := by
  refine MetZ (by decide +kernel) (Nat.le_of_ble_eq_true rfl) ?_
  intro p e s m below meth c ls hx hb hrt hts hown hml hlk hnm hP hK hD hS hl
  have hl : lv_has ls 1 [(0, .ref (ad 0))] := hl
  refine lv_aload_n hx hb dX5_canGrease_0 rfl (lv_at hl 0 rfl) ?_
  refine va_get (ci := 5) (v := .ref (sA ad 0)) (C := RX5) (T := TX5) (N := 6) hx hb hts inX5 hown hK hP _ (cw_arm (kA := kA) (ad := ad) (X := X)) rfl 0 (by decide) (hts _ q_170) (fun _ h9 => h9) rfl dX5_canGrease_1 ?_
  refine va_get (ci := 4) (v := .int ((X 0) 6)) (C := RX4) (T := TX4) (N := 4) hx hb hts inX4 hown hK hP _ (cw_state (kA := kA) (ad := ad) (X := X) (r := 0) (by omega)) rfl 2 (by decide) (hts _ q_117) (fun _ h9 => h9) rfl dX5_canGrease_4 ?_
  refine lv_aload_n hx hb dX5_canGrease_7 rfl (lv_at hl 0 rfl) ?_
  refine va_get (ci := 5) (v := .ref (sA ad 0)) (C := RX5) (T := TX5) (N := 6) hx hb hts inX5 hown hK hP _ (cw_arm (kA := kA) (ad := ad) (X := X)) rfl 0 (by decide) (hts _ q_170) (fun _ h9 => h9) rfl dX5_canGrease_8 ?_
  refine va_get (ci := 4) (v := .ref (rA ad 0)) (C := RX4) (T := TX4) (N := 4) hx hb hts inX4 hown hK hP _ (cw_state (kA := kA) (ad := ad) (X := X) (r := 0) (by omega)) rfl 0 (by decide) (hts _ q_114) (fun _ h9 => h9) rfl dX5_canGrease_11 ?_
  refine va_get (ci := 3) (v := .int ((X 0) 5)) (C := RX3) (T := TX3) (N := 6) hx hb hts inX3 hown hK hP _ (cw_rules (kA := kA) (ad := ad) (X := X) (r := 0) (by omega)) rfl 5 (by decide) (hts _ q_47) (fun _ h9 => h9) rfl dX5_canGrease_14 ?_
  refine lv_icmp_lt (tgt := 24) hx hb dX5_canGrease_17 (by decide) (fun c_1 => ?_) (fun c_1 => ?_)
  · skip
    refine lv_iconst (v := 0) hx hb dX5_canGrease_24 (by decide) ?_
    exact end_pz hx hb hrt hlk (by decide) (by first | rfl | (rw [gsF, if_pos c_1]; done) | (simp only [gsF, c_1, ↓reduceIte, bI]; done) | (simp only [gsF, c_1, ↓reduceIte, bI]; rfl) | (simp [gsF, c_1, bI]; done)) dX5_canGrease_25
  · skip
    refine lv_iconst (v := 1) hx hb dX5_canGrease_20 (by decide) ?_
    refine lv_goto (tgt := 25) hx hb dX5_canGrease_21 (by decide) ?_
    exact end_pz hx hb hrt hlk (by decide) (by first | rfl | (rw [gsF, if_neg c_1]; done) | (simp only [gsF, c_1, ↓reduceIte, bI]; done) | (simp only [gsF, c_1, ↓reduceIte, bI]; rfl) | (simp [gsF, c_1, bI]; done)) dX5_canGrease_25

theorem hd_X5_makeSteps : yX5_makeSteps.cls ≠ "java/lang/invoke/MethodHandle" ∧ yX5_makeSteps.cls ≠ "java/lang/invoke/VarHandle" ∧ (parseMethodDescriptor yX5_makeSteps.desc).map (fun d => d.parameters.length) = some 3 := by decide +kernel
set_option maxRecDepth 100000 in
set_option maxHeartbeats 4000000 in
theorem m_X5_makeSteps (l : Launch) (D : va_G) (kA : Nat → Nat) (ad : Nat → Nat) (X : Nat → Nat → Int32) (a : Nat) (p0 : Int32) (p1 : Int32) (k : Nat) (ha : a < 4) (hm : p1 = nI k) (hk : k < 1000) : Met l yX5_makeSteps (Cond.code yX5_makeSteps cX5_makeSteps 6 (some .int) :: AW) ({ frames := 2, cells := 0, slots := 0, locals := 51 } : Room) (Pz [.ref (ad 0), .ref (gA ad 0 a), .int p0, .int p1] D (TY kA) (cw kA ad X)) (fQ (some (.int ((msL a p0 k (X 0) 0).1))) D (cw kA ad X) (cw kA ad (up2 X 0 (msL a p0 k (X 0) 0).2))) 0 0 (Aw (cw kA ad X)) := by
  refine MetZ (by decide +kernel) (Nat.le_of_ble_eq_true rfl) ?_
  intro p e s m below meth c ls hx hb hrt hts hown hml hlk hnm hP hK hD hS hl
  have hl : lv_has ls 6 [(0, .ref (ad 0)), (1, .ref (gA ad 0 a)), (2, .int p0), (3, .int p1)] := hl
  rw [← up2_self (X := X) (r := 0)] at hP hD
  refine lv_iconst (v := 0) hx hb dX5_makeSteps_0 (by decide) ?_
  refine lv_istore (lv' := [(4, .int 0), (0, .ref (ad 0)), (1, .ref (gA ad 0 a)), (2, .int p0), (3, .int p1)]) hx hb dX5_makeSteps_1 hl (by decide) rfl (fun ls hl => ?_)
  have loop_3 : ∀ (n : Nat) (j : Nat) (z : Nat → Int32) (x4 : Int32) (hj : j + n = k) (e4 : x4 = nI j) (hres : msL a p0 n z x4 = msL a p0 k (X 0) 0), ∀ (H : Heap) (locs : List Loc), va_P D vwCl (cw kA ad (up2 X 0 z)) H → va_D (Aw (cw kA ad X)) (cw kA ad (up2 X 0 z)) → va_S (Aw (cw kA ad X)) s.heap H locs → ∀ ls : Array Slot, lv_has ls 6 [(0, .ref (ad 0)), (1, .ref (gA ad 0 a)), (2, .int p0), (3, .int p1), (4, .int x4)] → W p l e ({ frames := 2, cells := 0, slots := 0, locals := 51 } : Room) s m [.ref (ad 0), .ref (gA ad 0 a), .int p0, .int p1].toArray below meth c H locs 0 0 (MQ below (fQ (some (.int ((msL a p0 k (X 0) 0).1))) D (cw kA ad X) (cw kA ad (up2 X 0 (msL a p0 k (X 0) 0).2))) [.ref (ad 0), .ref (gA ad 0 a), .int p0, .int p1].toArray s 0 0 (Aw (cw kA ad X))) (F0 m 3 ls []) := by
    clear hl
    clear hP hD hS
    intro n
    induction n with
    | zero =>
      intro j z x4 hj e4 hres H locs hP hD hS ls hl
      refine lv_iload hx hb dX5_makeSteps_3 (lv_at hl 4 rfl) ?_
      refine lv_iload_n hx hb dX5_makeSteps_5 rfl (lv_at hl 3 rfl) ?_
      refine lv_icmp_ge (tgt := 58) hx hb dX5_makeSteps_6 (by decide) (fun c_1 => ?_) (fun c_1 => ?_)
      · skip
        replace c_1 := ge_n c_1
        refine lv_iload hx hb dX5_makeSteps_58 (lv_at hl 4 rfl) ?_
        exact end_fi hx hb hrt hlk hP hS (by rw [← hres]; rfl) (fun h => by rw [← hres]; exact h) dX5_makeSteps_60
      · exact absurd c_1 (fun h => h (cnt_ge (N := k) e4 hm.symm (by omega) (by omega)))
    | succ n ih3 =>
      intro j z x4 hj e4 hres H locs hP hD hS ls hl
      refine lv_iload hx hb dX5_makeSteps_3 (lv_at hl 4 rfl) ?_
      refine lv_iload_n hx hb dX5_makeSteps_5 rfl (lv_at hl 3 rfl) ?_
      refine lv_icmp_ge (tgt := 58) hx hb dX5_makeSteps_6 (by decide) (fun c_2 => ?_) (fun c_2 => ?_)
      · exact absurd c_2 (cnt_nge (N := k) e4 hm.symm (by omega) (by omega))
      · skip
        replace c_2 := nge_l c_2
        refine lv_aload_n hx hb dX5_makeSteps_9 rfl (lv_at hl 1 rfl) ?_
        refine lv_iload_n hx hb dX5_makeSteps_10 rfl (lv_at hl 2 rfl) ?_
        refine lv_aload_n hx hb dX5_makeSteps_11 rfl (lv_at hl 0 rfl) ?_
        refine va_get (ci := 5) (v := .ref (sA ad 0)) (C := RX5) (T := TX5) (N := 6) hx hb hts inX5 hown hK hP _ (cw_arm (kA := kA) (ad := ad) (X := up2 X 0 z)) rfl 0 (by decide) (hts _ q_170) (fun _ h9 => h9) rfl dX5_makeSteps_12 ?_
        refine va_get (ci := 4) (v := .int (z 6)) (C := RX4) (T := TX4) (N := 4) hx hb hts inX4 hown hK hP _ (cw_state (kA := kA) (ad := ad) (X := up2 X 0 z) (r := 0) (by omega)) rfl 2 (by decide) (hts _ q_117) (fun _ h9 => h9) rfl dX5_makeSteps_15 ?_
        refine lv_aload_n hx hb dX5_makeSteps_18 rfl (lv_at hl 0 rfl) ?_
        refine va_get (ci := 5) (v := .ref (sA ad 0)) (C := RX5) (T := TX5) (N := 6) hx hb hts inX5 hown hK hP _ (cw_arm (kA := kA) (ad := ad) (X := up2 X 0 z)) rfl 0 (by decide) (hts _ q_170) (fun _ h9 => h9) rfl dX5_makeSteps_19 ?_
        refine va_get (ci := 4) (v := .ref (rA ad 0)) (C := RX4) (T := TX4) (N := 4) hx hb hts inX4 hown hK hP _ (cw_state (kA := kA) (ad := ad) (X := up2 X 0 z) (r := 0) (by omega)) rfl 0 (by decide) (hts _ q_114) (fun _ h9 => h9) rfl dX5_makeSteps_22 ?_
        refine cs_fs (runV (As := [.int p0, .int (z 6), .ref (rA ad 0)]) (rest := []) ⟨hx, hb, hml, hown, hts⟩ (m_X0_makeStep l D kA (gA ad 0 a) (wA ad 0 a) (sl (z) a) (rA ad 0) z p0 (z 6) ) q_383 q_384 q_385 q_4 q_386 hd_X0_makeStep ⟨rfl, rfl⟩ ⟨Nat.le_of_ble_eq_true rfl, Nat.le_of_ble_eq_true rfl⟩ hK (ws := [((gA ad 0 a), gC (wA ad 0 a) (sl (z) a)), ((wA ad 0 a), wC kA (sl (z) a)), ((rA ad 0), rC z)]) (P3 hP (cw_gear (kA := kA) (ad := ad) (X := up2 X 0 z) (r := 0) (a := a) (by omega) (by omega)) (cw_wears (kA := kA) (ad := ad) (X := up2 X 0 z) (r := 0) (a := a) (by omega) (by omega)) (cw_rules (kA := kA) (ad := ad) (X := up2 X 0 z) (r := 0) (by omega))) (D3 hD (cw_gear (kA := kA) (ad := ad) (X := up2 X 0 z) (r := 0) (a := a) (by omega) (by omega)) (cw_wears (kA := kA) (ad := ad) (X := up2 X 0 z) (r := 0) (a := a) (by omega) (by omega)) (cw_rules (kA := kA) (ad := ad) (X := up2 X 0 z) (r := 0) (by omega)) (by omega) (by omega) (by omega)) 0 (ci := 0) (C := RX0) (T := TX0) (N := 12) rfl rfl rfl hl.1 rfl (Nat.le_of_ble_eq_true rfl) dX5_makeSteps_25 ⟨Nat.zero_le _, Nat.zero_le _⟩) hS (cw_sub (fun q hq => by simp only [List.mem_cons, List.not_mem_nil, or_false] at hq; rcases hq with rfl | rfl | rfl <;> first | exact ⟨2 * (4 * 0 + a) + 5, by omega, rfl⟩ | exact ⟨2 * (4 * 0 + a) + 6, by omega, rfl⟩ | exact ⟨3 * 0 + 64, by omega, rfl⟩)) (fun H locs hP1 hk1 hS => ?_)
        obtain ⟨hP, hD⟩ := jn_G3 (r := 0) (a := a) (by omega) (by omega) (r' := 0) (by omega) (G' := (msG (sl (z) a) z p0 (z 6))) hP hD hk1 hP1
        clear hk1 hP1
        rw [nf_G] at hP hD
        refine lv_istore (lv' := [(5, .int (msR (sl (z) a) z p0 (z 6))), (0, .ref (ad 0)), (1, .ref (gA ad 0 a)), (2, .int p0), (3, .int p1), (4, .int x4)]) hx hb dX5_makeSteps_28 hl (by decide) rfl (fun ls hl => ?_)
        refine lv_iload hx hb dX5_makeSteps_30 (lv_at hl 0 rfl) ?_
        refine lv_if_ne (tgt := 38) hx hb dX5_makeSteps_32 (by decide) (fun c_3 => ?_) (fun c_3 => ?_)
        · skip
          refine lv_aload_n hx hb dX5_makeSteps_38 rfl (lv_at hl 1 rfl) ?_
          refine va_get (ci := 5) (v := .ref (sA ad 0)) (C := RX5) (T := TX5) (N := 6) hx hb hts inX5 hown hK hP _ (cw_arm (kA := kA) (ad := ad) (X := up2 X 0 (inG z a (msG (sl (z) a) z p0 (z 6))))) rfl 0 (by decide) (hts _ q_170) (fun _ h9 => h9) rfl dX5_makeSteps_39 ?_
          refine lv_dup hx hb dX5_makeSteps_42 rfl ?_
          refine va_get (ci := 4) (v := .int ((inG z a (msG (sl (z) a) z p0 (z 6))) 6)) (C := RX4) (T := TX4) (N := 4) hx hb hts inX4 hown hK hP _ (cw_state (kA := kA) (ad := ad) (X := up2 X 0 (inG z a (msG (sl (z) a) z p0 (z 6)))) (r := 0) (by omega)) rfl 2 (by decide) (hts _ q_117) (fun _ h9 => h9) rfl dX5_makeSteps_43 ?_
          refine lv_iload hx hb dX5_makeSteps_46 (lv_at hl 0 rfl) ?_
          refine lv_isub hx hb dX5_makeSteps_48 ?_
          refine va_put (ci := 4) (v := .int (((inG z a (msG (sl (z) a) z p0 (z 6))) 6) - (msR (sl (z) a) z p0 (z 6)))) (ty := tyX4 2) (C := RX4) (T := TX4) (N := 4) hx hb hts inX4 tyX4 tyX4_ok nmX4 hown hK hP hD hS _ (cw_state (kA := kA) (ad := ad) (X := up2 X 0 (inG z a (msG (sl (z) a) z p0 (z 6)))) (r := 0) (by omega)) rfl 2 (by decide) (hts _ q_117) (fun _ h9 => h9) rfl (tyX4_ok 2 (by decide)) rfl rfl (Nat.le_of_ble_eq_true rfl) dX5_makeSteps_49 (fun H locs hP hD hS => ?_)
          have hP : va_P D vwCl (cw kA ad (up3 (up2 X 0 (inG z a (msG (sl (z) a) z p0 (z 6)))) 0 6 (((inG z a (msG (sl (z) a) z p0 (z 6))) 6) - (msR (sl (z) a) z p0 (z 6))))) H := by rw [← st_purse (r := 0) (by omega)]; exact hP
          have hD : va_D (Aw (cw kA ad X)) (cw kA ad (up3 (up2 X 0 (inG z a (msG (sl (z) a) z p0 (z 6)))) 0 6 (((inG z a (msG (sl (z) a) z p0 (z 6))) 6) - (msR (sl (z) a) z p0 (z 6))))) := by rw [← st_purse (r := 0) (by omega)]; exact hD
          rw [nf_3] at hP hD
          refine lv_iinc (v := x4 + 1) (lv' := [(4, .int (x4 + 1)), (5, .int (msR (sl (z) a) z p0 (z 6))), (0, .ref (ad 0)), (1, .ref (gA ad 0 a)), (2, .int p0), (3, .int p1)]) hx hb dX5_makeSteps_52 hl (k := 5) rfl (by first | rfl | exact congrArg (_ + ·) (by decide)) (by decide) rfl (fun ls hl => ?_)
          refine lv_goto (tgt := 3) hx hb dX5_makeSteps_55 (by decide) ?_
          exact ih3 (j + 1) (upd (inG z a (msG (sl (z) a) z p0 (z 6))) 6 (((inG z a (msG (sl (z) a) z p0 (z 6))) 6) - (msR (sl (z) a) z p0 (z 6)))) (x4 + 1) (by omega) (by rw [e4]; exact nI_1 j) (by rw [← hres, msL, if_neg c_3]; rfl) _ _ hP hD hS ls (lv_sub hl [2, 3, 4, 5, 0] rfl)
        · skip
          refine lv_goto (tgt := 58) hx hb dX5_makeSteps_35 (by decide) ?_
          refine lv_iload hx hb dX5_makeSteps_58 (lv_at hl 5 rfl) ?_
          exact end_fi hx hb hrt hlk hP hS (by rw [← hres, msL, if_pos c_3]) (fun h => by rw [← hres, msL, if_pos c_3]; exact h) dX5_makeSteps_60
  exact loop_3 k 0 (X 0) 0 (by omega) (nI_0.symm) (rfl) _ _ hP hD hS ls (lv_sub hl [1, 2, 3, 4, 0] rfl)

theorem hd_X5_goTo : yX5_goTo.cls ≠ "java/lang/invoke/MethodHandle" ∧ yX5_goTo.cls ≠ "java/lang/invoke/VarHandle" ∧ (parseMethodDescriptor yX5_goTo.desc).map (fun d => d.parameters.length) = some 2 := by decide +kernel
set_option maxRecDepth 100000 in
set_option maxHeartbeats 4000000 in
theorem m_X5_goTo (l : Launch) (D : va_G) (kA : Nat → Nat) (ad : Nat → Nat) (X : Nat → Nat → Int32) (a : Nat) (p0 : Int32) (ha : a < 4) : Met l yX5_goTo (Cond.code yX5_goTo cX5_goTo 7 (some .int) :: AW) ({ frames := 3, cells := 0, slots := 0, locals := 77 } : Room) (Pz [.ref (ad 0), .ref (gA ad 0 a), .int p0] D (TY kA) (cw kA ad X)) (fQ (some (.int ((gtF (X 0) a p0).1))) D (cw kA ad X) (cw kA ad (up2 X 0 (gtF (X 0) a p0).2))) 0 0 (Aw (cw kA ad X)) := by
  refine MetZ (by decide +kernel) (Nat.le_of_ble_eq_true rfl) ?_
  intro p e s m below meth c ls hx hb hrt hts hown hml hlk hnm hP hK hD hS hl
  have hl : lv_has ls 7 [(0, .ref (ad 0)), (1, .ref (gA ad 0 a)), (2, .int p0)] := hl
  rw [← up2_self (X := X) (r := 0)] at hP hD
  refine lv_aload_n hx hb dX5_goTo_0 rfl (lv_at hl 0 rfl) ?_
  refine lv_aload_n hx hb dX5_goTo_1 rfl (lv_at hl 1 rfl) ?_
  refine lv_iload_n hx hb dX5_goTo_2 rfl (lv_at hl 2 rfl) ?_
  refine cs_p (runV (As := [.ref (gA ad 0 a), .int p0]) (rest := []) ⟨hx, hb, hml, hown, hts⟩ (m_X5_cheaperWay l D kA ad (up2 X 0 (X 0)) a p0 (ha)) q_424 q_426 qp_5 q_1 q_427 hd_X5_cheaperWay ⟨rfl, rfl⟩ ⟨Nat.le_of_ble_eq_true rfl, Nat.le_of_ble_eq_true rfl⟩ hK (ws := (cw kA ad (up2 X 0 (X 0)))) hP hD _ (ci := 5) (C := RX5) (T := TX5) (N := 6) rfl (cw_arm (kA := kA) (ad := ad) (X := up2 X 0 (X 0))) rfl hl.1 rfl (Nat.le_of_ble_eq_true rfl) dX5_goTo_3 ⟨Nat.zero_le _, Nat.zero_le _⟩) ?_
  refine W_top (v' := .int (chF ((X 0)) a p0)) rfl ?_
  refine lv_istore_n (lv' := [(3, .int (chF ((X 0)) a p0)), (0, .ref (ad 0)), (1, .ref (gA ad 0 a)), (2, .int p0)]) hx hb dX5_goTo_6 rfl hl (by decide) rfl (fun ls hl => ?_)
  refine lv_iconst (v := 0) hx hb dX5_goTo_7 (by decide) ?_
  refine lv_istore (lv' := [(4, .int 0), (3, .int (chF ((X 0)) a p0)), (0, .ref (ad 0)), (1, .ref (gA ad 0 a)), (2, .int p0)]) hx hb dX5_goTo_8 hl (by decide) rfl (fun ls hl => ?_)
  refine lv_iconst (v := 0) hx hb dX5_goTo_10 (by decide) ?_
  refine lv_istore (lv' := [(5, .int 0), (4, .int 0), (3, .int (chF ((X 0)) a p0)), (0, .ref (ad 0)), (1, .ref (gA ad 0 a)), (2, .int p0)]) hx hb dX5_goTo_11 hl (by decide) rfl (fun ls hl => ?_)
  have loop_13 : ∀ (n : Nat) (j : Nat) (z : Nat → Int32) (x4 : Int32) (x5 : Int32) (hj : j + n = 24) (e5 : x5 = nI j) (hres : gtL a (chF (X 0) a p0) p0 n z x4 = gtF (X 0) a p0), ∀ (H : Heap) (locs : List Loc), va_P D vwCl (cw kA ad (up2 X 0 z)) H → va_D (Aw (cw kA ad X)) (cw kA ad (up2 X 0 z)) → va_S (Aw (cw kA ad X)) s.heap H locs → ∀ ls : Array Slot, lv_has ls 7 [(0, .ref (ad 0)), (1, .ref (gA ad 0 a)), (2, .int p0), (3, .int (chF (X 0) a p0)), (4, .int x4), (5, .int x5)] → W p l e ({ frames := 3, cells := 0, slots := 0, locals := 77 } : Room) s m [.ref (ad 0), .ref (gA ad 0 a), .int p0].toArray below meth c H locs 0 0 (MQ below (fQ (some (.int ((gtF (X 0) a p0).1))) D (cw kA ad X) (cw kA ad (up2 X 0 (gtF (X 0) a p0).2))) [.ref (ad 0), .ref (gA ad 0 a), .int p0].toArray s 0 0 (Aw (cw kA ad X))) (F0 m 13 ls []) := by
    clear hl
    clear hP hD hS
    intro n
    induction n with
    | zero =>
      intro j z x4 x5 hj e5 hres H locs hP hD hS ls hl
      refine lv_iload hx hb dX5_goTo_13 (lv_at hl 5 rfl) ?_
      refine lv_bipush (v := 24) hx hb dX5_goTo_15 (by decide) ?_
      refine lv_icmp_ge (tgt := 84) hx hb dX5_goTo_17 (by decide) (fun c_1 => ?_) (fun c_1 => ?_)
      · skip
        replace c_1 := ge_n c_1
        refine lv_iload hx hb dX5_goTo_84 (lv_at hl 4 rfl) ?_
        exact end_fi hx hb hrt hlk hP hS (by rw [← hres]; rfl) (fun h => by rw [← hres]; exact h) dX5_goTo_86
      · exact absurd c_1 (fun h => h (cnt_ge (N := 24) e5 rfl (by omega) (by omega)))
    | succ n ih13 =>
      intro j z x4 x5 hj e5 hres H locs hP hD hS ls hl
      refine lv_iload hx hb dX5_goTo_13 (lv_at hl 5 rfl) ?_
      refine lv_bipush (v := 24) hx hb dX5_goTo_15 (by decide) ?_
      refine lv_icmp_ge (tgt := 84) hx hb dX5_goTo_17 (by decide) (fun c_2 => ?_) (fun c_2 => ?_)
      · exact absurd c_2 (cnt_nge (N := 24) e5 rfl (by decide) (by omega))
      · skip
        replace c_2 := nge_l c_2
        refine lv_aload_n hx hb dX5_goTo_20 rfl (lv_at hl 1 rfl) ?_
        refine va_get (ci := 0) (v := .int (sl (z) a 1)) (C := RX0) (T := TX0) (N := 12) hx hb hts inX0 hown hK hP _ (cw_gear (kA := kA) (ad := ad) (X := up2 X 0 z) (r := 0) (a := a) (by omega) (by omega)) rfl 2 (by decide) (hts _ q_73) (fun _ h9 => h9) rfl dX5_goTo_21 ?_
        refine lv_iload_n hx hb dX5_goTo_24 rfl (lv_at hl 2 rfl) ?_
        refine lv_icmp_eq (tgt := 84) hx hb dX5_goTo_25 (by decide) (fun c_3 => ?_) (fun c_3 => ?_)
        · skip
          refine lv_iload hx hb dX5_goTo_84 (lv_at hl 4 rfl) ?_
          exact end_fi hx hb hrt hlk hP hS (by rw [← hres, gtL, if_pos c_3]) (fun h => by rw [← hres, gtL, if_pos c_3]; exact h) dX5_goTo_86
        · skip
          refine lv_aload_n hx hb dX5_goTo_28 rfl (lv_at hl 1 rfl) ?_
          refine lv_iload_n hx hb dX5_goTo_29 rfl (lv_at hl 3 rfl) ?_
          refine lv_aload_n hx hb dX5_goTo_30 rfl (lv_at hl 0 rfl) ?_
          refine va_get (ci := 5) (v := .ref (sA ad 0)) (C := RX5) (T := TX5) (N := 6) hx hb hts inX5 hown hK hP _ (cw_arm (kA := kA) (ad := ad) (X := up2 X 0 z)) rfl 0 (by decide) (hts _ q_170) (fun _ h9 => h9) rfl dX5_goTo_31 ?_
          refine va_get (ci := 4) (v := .int (z 6)) (C := RX4) (T := TX4) (N := 4) hx hb hts inX4 hown hK hP _ (cw_state (kA := kA) (ad := ad) (X := up2 X 0 z) (r := 0) (by omega)) rfl 2 (by decide) (hts _ q_117) (fun _ h9 => h9) rfl dX5_goTo_34 ?_
          refine lv_aload_n hx hb dX5_goTo_37 rfl (lv_at hl 0 rfl) ?_
          refine va_get (ci := 5) (v := .ref (sA ad 0)) (C := RX5) (T := TX5) (N := 6) hx hb hts inX5 hown hK hP _ (cw_arm (kA := kA) (ad := ad) (X := up2 X 0 z)) rfl 0 (by decide) (hts _ q_170) (fun _ h9 => h9) rfl dX5_goTo_38 ?_
          refine va_get (ci := 4) (v := .ref (rA ad 0)) (C := RX4) (T := TX4) (N := 4) hx hb hts inX4 hown hK hP _ (cw_state (kA := kA) (ad := ad) (X := up2 X 0 z) (r := 0) (by omega)) rfl 0 (by decide) (hts _ q_114) (fun _ h9 => h9) rfl dX5_goTo_41 ?_
          refine cs_fs (runV (As := [.int (chF (X 0) a p0), .int (z 6), .ref (rA ad 0)]) (rest := []) ⟨hx, hb, hml, hown, hts⟩ (m_X0_makeStep l D kA (gA ad 0 a) (wA ad 0 a) (sl (z) a) (rA ad 0) z (chF (X 0) a p0) (z 6) ) q_383 q_384 q_385 q_4 q_386 hd_X0_makeStep ⟨rfl, rfl⟩ ⟨Nat.le_of_ble_eq_true rfl, Nat.le_of_ble_eq_true rfl⟩ hK (ws := [((gA ad 0 a), gC (wA ad 0 a) (sl (z) a)), ((wA ad 0 a), wC kA (sl (z) a)), ((rA ad 0), rC z)]) (P3 hP (cw_gear (kA := kA) (ad := ad) (X := up2 X 0 z) (r := 0) (a := a) (by omega) (by omega)) (cw_wears (kA := kA) (ad := ad) (X := up2 X 0 z) (r := 0) (a := a) (by omega) (by omega)) (cw_rules (kA := kA) (ad := ad) (X := up2 X 0 z) (r := 0) (by omega))) (D3 hD (cw_gear (kA := kA) (ad := ad) (X := up2 X 0 z) (r := 0) (a := a) (by omega) (by omega)) (cw_wears (kA := kA) (ad := ad) (X := up2 X 0 z) (r := 0) (a := a) (by omega) (by omega)) (cw_rules (kA := kA) (ad := ad) (X := up2 X 0 z) (r := 0) (by omega)) (by omega) (by omega) (by omega)) 0 (ci := 0) (C := RX0) (T := TX0) (N := 12) rfl rfl rfl hl.1 rfl (Nat.le_of_ble_eq_true rfl) dX5_goTo_44 ⟨Nat.zero_le _, Nat.zero_le _⟩) hS (cw_sub (fun q hq => by simp only [List.mem_cons, List.not_mem_nil, or_false] at hq; rcases hq with rfl | rfl | rfl <;> first | exact ⟨2 * (4 * 0 + a) + 5, by omega, rfl⟩ | exact ⟨2 * (4 * 0 + a) + 6, by omega, rfl⟩ | exact ⟨3 * 0 + 64, by omega, rfl⟩)) (fun H locs hP1 hk1 hS => ?_)
          obtain ⟨hP, hD⟩ := jn_G3 (r := 0) (a := a) (by omega) (by omega) (r' := 0) (by omega) (G' := (msG (sl (z) a) z (chF (X 0) a p0) (z 6))) hP hD hk1 hP1
          clear hk1 hP1
          rw [nf_G] at hP hD
          refine lv_istore (lv' := [(6, .int (msR (sl (z) a) z (chF (X 0) a p0) (z 6))), (0, .ref (ad 0)), (1, .ref (gA ad 0 a)), (2, .int p0), (3, .int (chF (X 0) a p0)), (4, .int x4), (5, .int x5)]) hx hb dX5_goTo_47 hl (by decide) rfl (fun ls hl => ?_)
          refine lv_iload hx hb dX5_goTo_49 (lv_at hl 0 rfl) ?_
          refine lv_if_ne (tgt := 57) hx hb dX5_goTo_51 (by decide) (fun c_4 => ?_) (fun c_4 => ?_)
          · skip
            refine lv_aload_n hx hb dX5_goTo_57 rfl (lv_at hl 1 rfl) ?_
            refine va_get (ci := 5) (v := .ref (sA ad 0)) (C := RX5) (T := TX5) (N := 6) hx hb hts inX5 hown hK hP _ (cw_arm (kA := kA) (ad := ad) (X := up2 X 0 (inG z a (msG (sl (z) a) z (chF (X 0) a p0) (z 6))))) rfl 0 (by decide) (hts _ q_170) (fun _ h9 => h9) rfl dX5_goTo_58 ?_
            refine lv_dup hx hb dX5_goTo_61 rfl ?_
            refine va_get (ci := 4) (v := .int ((inG z a (msG (sl (z) a) z (chF (X 0) a p0) (z 6))) 6)) (C := RX4) (T := TX4) (N := 4) hx hb hts inX4 hown hK hP _ (cw_state (kA := kA) (ad := ad) (X := up2 X 0 (inG z a (msG (sl (z) a) z (chF (X 0) a p0) (z 6)))) (r := 0) (by omega)) rfl 2 (by decide) (hts _ q_117) (fun _ h9 => h9) rfl dX5_goTo_62 ?_
            refine lv_iload hx hb dX5_goTo_65 (lv_at hl 0 rfl) ?_
            refine lv_isub hx hb dX5_goTo_67 ?_
            refine va_put (ci := 4) (v := .int (((inG z a (msG (sl (z) a) z (chF (X 0) a p0) (z 6))) 6) - (msR (sl (z) a) z (chF (X 0) a p0) (z 6)))) (ty := tyX4 2) (C := RX4) (T := TX4) (N := 4) hx hb hts inX4 tyX4 tyX4_ok nmX4 hown hK hP hD hS _ (cw_state (kA := kA) (ad := ad) (X := up2 X 0 (inG z a (msG (sl (z) a) z (chF (X 0) a p0) (z 6)))) (r := 0) (by omega)) rfl 2 (by decide) (hts _ q_117) (fun _ h9 => h9) rfl (tyX4_ok 2 (by decide)) rfl rfl (Nat.le_of_ble_eq_true rfl) dX5_goTo_68 (fun H locs hP hD hS => ?_)
            have hP : va_P D vwCl (cw kA ad (up3 (up2 X 0 (inG z a (msG (sl (z) a) z (chF (X 0) a p0) (z 6)))) 0 6 (((inG z a (msG (sl (z) a) z (chF (X 0) a p0) (z 6))) 6) - (msR (sl (z) a) z (chF (X 0) a p0) (z 6))))) H := by rw [← st_purse (r := 0) (by omega)]; exact hP
            have hD : va_D (Aw (cw kA ad X)) (cw kA ad (up3 (up2 X 0 (inG z a (msG (sl (z) a) z (chF (X 0) a p0) (z 6)))) 0 6 (((inG z a (msG (sl (z) a) z (chF (X 0) a p0) (z 6))) 6) - (msR (sl (z) a) z (chF (X 0) a p0) (z 6))))) := by rw [← st_purse (r := 0) (by omega)]; exact hD
            rw [nf_3] at hP hD
            refine lv_iload hx hb dX5_goTo_71 (lv_at hl 5 rfl) ?_
            refine lv_iload hx hb dX5_goTo_73 (lv_at hl 0 rfl) ?_
            refine lv_iadd hx hb dX5_goTo_75 ?_
            refine lv_istore (lv' := [(4, .int (x4 + (msR (sl (z) a) z (chF (X 0) a p0) (z 6)))), (6, .int (msR (sl (z) a) z (chF (X 0) a p0) (z 6))), (0, .ref (ad 0)), (1, .ref (gA ad 0 a)), (2, .int p0), (3, .int (chF (X 0) a p0)), (5, .int x5)]) hx hb dX5_goTo_76 hl (by decide) rfl (fun ls hl => ?_)
            refine lv_iinc (v := x5 + 1) (lv' := [(5, .int (x5 + 1)), (4, .int (x4 + (msR (sl (z) a) z (chF (X 0) a p0) (z 6)))), (6, .int (msR (sl (z) a) z (chF (X 0) a p0) (z 6))), (0, .ref (ad 0)), (1, .ref (gA ad 0 a)), (2, .int p0), (3, .int (chF (X 0) a p0))]) hx hb dX5_goTo_78 hl (k := 6) rfl (by first | rfl | exact congrArg (_ + ·) (by decide)) (by decide) rfl (fun ls hl => ?_)
            refine lv_goto (tgt := 13) hx hb dX5_goTo_81 (by decide) ?_
            exact ih13 (j + 1) (upd (inG z a (msG (sl (z) a) z (chF (X 0) a p0) (z 6))) 6 (((inG z a (msG (sl (z) a) z (chF (X 0) a p0) (z 6))) 6) - (msR (sl (z) a) z (chF (X 0) a p0) (z 6)))) (x4 + (msR (sl (z) a) z (chF (X 0) a p0) (z 6))) (x5 + 1) (by omega) (by rw [e5]; exact nI_1 j) (by rw [← hres, gtL, if_neg c_3, if_neg c_4]; rfl) _ _ hP hD hS ls (lv_sub hl [3, 4, 5, 6, 1, 0] rfl)
          · skip
            refine lv_goto (tgt := 84) hx hb dX5_goTo_54 (by decide) ?_
            refine lv_iload hx hb dX5_goTo_84 (lv_at hl 5 rfl) ?_
            exact end_fi hx hb hrt hlk hP hS (by rw [← hres, gtL, if_neg c_3, if_pos c_4]) (fun h => by rw [← hres, gtL, if_neg c_3, if_pos c_4]; exact h) dX5_goTo_86
  exact loop_13 24 0 (X 0) 0 0 (by omega) (nI_0.symm) (rfl) _ _ hP hD hS ls (lv_sub hl [3, 4, 5, 2, 1, 0] rfl)

theorem hd_X5_makeHomed : yX5_makeHomed.cls ≠ "java/lang/invoke/MethodHandle" ∧ yX5_makeHomed.cls ≠ "java/lang/invoke/VarHandle" ∧ (parseMethodDescriptor yX5_makeHomed.desc).map (fun d => d.parameters.length) = some 1 := by decide +kernel
set_option maxRecDepth 100000 in
set_option maxHeartbeats 4000000 in
theorem m_X5_makeHomed (l : Launch) (D : va_G) (kA : Nat → Nat) (ad : Nat → Nat) (X : Nat → Nat → Int32) (a : Nat) (ha : a < 4) : Met l yX5_makeHomed (Cond.code yX5_makeHomed cX5_makeHomed 3 (some .boolean) :: AW) ({ frames := 3, cells := 0, slots := 0, locals := 76 } : Room) (Pz [.ref (ad 0), .ref (gA ad 0 a)] D (TY kA) (cw kA ad X)) (fQ (some (.int (bI (hmB (X 0) a)))) D (cw kA ad X) (cw kA ad (up2 X 0 (hmZ (X 0) a)))) 0 0 (Aw (cw kA ad X)) := by
  refine MetZ (by decide +kernel) (Nat.le_of_ble_eq_true rfl) ?_
  intro p e s m below meth c ls hx hb hrt hts hown hml hlk hnm hP hK hD hS hl
  have hl : lv_has ls 3 [(0, .ref (ad 0)), (1, .ref (gA ad 0 a))] := hl
  rw [← up2_self (X := X) (r := 0)] at hP hD
  refine lv_aload_n hx hb dX5_makeHomed_0 rfl (lv_at hl 1 rfl) ?_
  refine va_get (ci := 0) (v := .int (sl ((X 0)) a 10)) (C := RX0) (T := TX0) (N := 12) hx hb hts inX0 hown hK hP _ (cw_gear (kA := kA) (ad := ad) (X := up2 X 0 (X 0)) (r := 0) (a := a) (by omega) (by omega)) rfl 11 (by decide) (hts _ q_86) (fun _ h9 => h9) rfl dX5_makeHomed_1 ?_
  refine lv_istore_n (lv' := [(2, .int (sl ((X 0)) a 10)), (0, .ref (ad 0)), (1, .ref (gA ad 0 a))]) hx hb dX5_makeHomed_4 rfl hl (by decide) rfl (fun ls hl => ?_)
  refine lv_aload_n hx hb dX5_makeHomed_5 rfl (lv_at hl 1 rfl) ?_
  refine va_get (ci := 5) (v := .ref (sA ad 0)) (C := RX5) (T := TX5) (N := 6) hx hb hts inX5 hown hK hP _ (cw_arm (kA := kA) (ad := ad) (X := up2 X 0 (X 0))) rfl 0 (by decide) (hts _ q_170) (fun _ h9 => h9) rfl dX5_makeHomed_6 ?_
  refine lv_dup hx hb dX5_makeHomed_9 rfl ?_
  refine va_get (ci := 4) (v := .int ((X 0) 6)) (C := RX4) (T := TX4) (N := 4) hx hb hts inX4 hown hK hP _ (cw_state (kA := kA) (ad := ad) (X := up2 X 0 (X 0)) (r := 0) (by omega)) rfl 2 (by decide) (hts _ q_117) (fun _ h9 => h9) rfl dX5_makeHomed_10 ?_
  refine lv_aload_n hx hb dX5_makeHomed_13 rfl (lv_at hl 2 rfl) ?_
  refine lv_aload_n hx hb dX5_makeHomed_14 rfl (lv_at hl 1 rfl) ?_
  refine va_get (ci := 5) (v := .ref (sA ad 0)) (C := RX5) (T := TX5) (N := 6) hx hb hts inX5 hown hK hP _ (cw_arm (kA := kA) (ad := ad) (X := up2 X 0 (X 0))) rfl 0 (by decide) (hts _ q_170) (fun _ h9 => h9) rfl dX5_makeHomed_15 ?_
  refine va_get (ci := 4) (v := .int ((X 0) 6)) (C := RX4) (T := TX4) (N := 4) hx hb hts inX4 hown hK hP _ (cw_state (kA := kA) (ad := ad) (X := up2 X 0 (X 0)) (r := 0) (by omega)) rfl 2 (by decide) (hts _ q_117) (fun _ h9 => h9) rfl dX5_makeHomed_18 ?_
  refine lv_aload_n hx hb dX5_makeHomed_21 rfl (lv_at hl 1 rfl) ?_
  refine va_get (ci := 5) (v := .ref (sA ad 0)) (C := RX5) (T := TX5) (N := 6) hx hb hts inX5 hown hK hP _ (cw_arm (kA := kA) (ad := ad) (X := up2 X 0 (X 0))) rfl 0 (by decide) (hts _ q_170) (fun _ h9 => h9) rfl dX5_makeHomed_22 ?_
  refine va_get (ci := 4) (v := .ref (rA ad 0)) (C := RX4) (T := TX4) (N := 4) hx hb hts inX4 hown hK hP _ (cw_state (kA := kA) (ad := ad) (X := up2 X 0 (X 0)) (r := 0) (by omega)) rfl 0 (by decide) (hts _ q_114) (fun _ h9 => h9) rfl dX5_makeHomed_25 ?_
  refine cs_fs (runV (As := [.int ((X 0) 6), .ref (rA ad 0)]) (rest := [.int ((X 0) 6), .ref (sA ad 0)]) ⟨hx, hb, hml, hown, hts⟩ (m_X0_makeHomed l D kA (gA ad 0 a) (wA ad 0 a) (sl ((X 0)) a) (rA ad 0) (X 0) ((X 0) 6) ) q_442 q_443 q_444 q_4 q_445 hd_X0_makeHomed ⟨rfl, rfl⟩ ⟨Nat.le_of_ble_eq_true rfl, Nat.le_of_ble_eq_true rfl⟩ hK (ws := [((gA ad 0 a), gC (wA ad 0 a) (sl ((X 0)) a)), ((wA ad 0 a), wC kA (sl ((X 0)) a)), ((rA ad 0), rC (X 0))]) (P3 hP (cw_gear (kA := kA) (ad := ad) (X := up2 X 0 (X 0)) (r := 0) (a := a) (by omega) (by omega)) (cw_wears (kA := kA) (ad := ad) (X := up2 X 0 (X 0)) (r := 0) (a := a) (by omega) (by omega)) (cw_rules (kA := kA) (ad := ad) (X := up2 X 0 (X 0)) (r := 0) (by omega))) (D3 hD (cw_gear (kA := kA) (ad := ad) (X := up2 X 0 (X 0)) (r := 0) (a := a) (by omega) (by omega)) (cw_wears (kA := kA) (ad := ad) (X := up2 X 0 (X 0)) (r := 0) (a := a) (by omega) (by omega)) (cw_rules (kA := kA) (ad := ad) (X := up2 X 0 (X 0)) (r := 0) (by omega)) (by omega) (by omega) (by omega)) 0 (ci := 0) (C := RX0) (T := TX0) (N := 12) rfl rfl rfl hl.1 rfl (Nat.le_of_ble_eq_true rfl) dX5_makeHomed_28 ⟨Nat.zero_le _, Nat.zero_le _⟩) hS (cw_sub (fun q hq => by simp only [List.mem_cons, List.not_mem_nil, or_false] at hq; rcases hq with rfl | rfl | rfl <;> first | exact ⟨2 * (4 * 0 + a) + 5, by omega, rfl⟩ | exact ⟨2 * (4 * 0 + a) + 6, by omega, rfl⟩ | exact ⟨3 * 0 + 64, by omega, rfl⟩)) (fun H locs hP1 hk1 hS => ?_)
  obtain ⟨hP, hD⟩ := jn_G3 (r := 0) (a := a) (by omega) (by omega) (r' := 0) (by omega) (G' := (hmG (sl ((X 0)) a) (X 0) ((X 0) 6))) hP hD hk1 hP1
  clear hk1 hP1
  rw [nf_G] at hP hD
  refine lv_isub hx hb dX5_makeHomed_31 ?_
  refine va_put (ci := 4) (v := .int (((X 0) 6) - (hmP (sl ((X 0)) a) (X 0) ((X 0) 6)))) (ty := tyX4 2) (C := RX4) (T := TX4) (N := 4) hx hb hts inX4 tyX4 tyX4_ok nmX4 hown hK hP hD hS _ (cw_state (kA := kA) (ad := ad) (X := up2 X 0 (inG (X 0) a (hmG (sl ((X 0)) a) (X 0) ((X 0) 6)))) (r := 0) (by omega)) rfl 2 (by decide) (hts _ q_117) (fun _ h9 => h9) rfl (tyX4_ok 2 (by decide)) rfl rfl (Nat.le_of_ble_eq_true rfl) dX5_makeHomed_32 (fun H locs hP hD hS => ?_)
  have hP : va_P D vwCl (cw kA ad (up3 (up2 X 0 (inG (X 0) a (hmG (sl ((X 0)) a) (X 0) ((X 0) 6)))) 0 6 (((X 0) 6) - (hmP (sl ((X 0)) a) (X 0) ((X 0) 6))))) H := by rw [← st_purse (r := 0) (by omega)]; exact hP
  have hD : va_D (Aw (cw kA ad X)) (cw kA ad (up3 (up2 X 0 (inG (X 0) a (hmG (sl ((X 0)) a) (X 0) ((X 0) 6)))) 0 6 (((X 0) 6) - (hmP (sl ((X 0)) a) (X 0) ((X 0) 6))))) := by rw [← st_purse (r := 0) (by omega)]; exact hD
  rw [nf_3] at hP hD
  refine lv_aload_n hx hb dX5_makeHomed_35 rfl (lv_at hl 2 rfl) ?_
  refine va_get (ci := 0) (v := .int (sl ((upd (inG (X 0) a (hmG (sl ((X 0)) a) (X 0) ((X 0) 6))) 6 (((X 0) 6) - (hmP (sl ((X 0)) a) (X 0) ((X 0) 6))))) a 10)) (C := RX0) (T := TX0) (N := 12) hx hb hts inX0 hown hK hP _ (cw_gear (kA := kA) (ad := ad) (X := up2 X 0 (upd (inG (X 0) a (hmG (sl ((X 0)) a) (X 0) ((X 0) 6))) 6 (((X 0) 6) - (hmP (sl ((X 0)) a) (X 0) ((X 0) 6))))) (r := 0) (a := a) (by omega) (by omega)) rfl 11 (by decide) (hts _ q_86) (fun _ h9 => h9) rfl dX5_makeHomed_36 ?_
  refine lv_iload_n hx hb dX5_makeHomed_39 rfl (lv_at hl 0 rfl) ?_
  refine lv_icmp_le (tgt := 47) hx hb dX5_makeHomed_40 (by decide) (fun c_1 => ?_) (fun c_1 => ?_)
  · skip
    replace c_1 := ge_n c_1
    refine lv_iconst (v := 0) hx hb dX5_makeHomed_47 (by decide) ?_
    exact end_fz hx hb hrt hlk (by decide) hP hS (by rw [hmB, hmZ, if_neg c_1]; rfl) (fun h => h) dX5_makeHomed_48
  · skip
    replace c_1 := nge_l c_1
    refine lv_iconst (v := 1) hx hb dX5_makeHomed_43 (by decide) ?_
    refine lv_goto (tgt := 48) hx hb dX5_makeHomed_44 (by decide) ?_
    exact end_fz hx hb hrt hlk (by decide) hP hS (by rw [hmB, hmZ, if_pos c_1]; rfl) (fun h => h) dX5_makeHomed_48

theorem hd_X5_makeGreased : yX5_makeGreased.cls ≠ "java/lang/invoke/MethodHandle" ∧ yX5_makeGreased.cls ≠ "java/lang/invoke/VarHandle" ∧ (parseMethodDescriptor yX5_makeGreased.desc).map (fun d => d.parameters.length) = some 1 := by decide +kernel
set_option maxRecDepth 100000 in
set_option maxHeartbeats 4000000 in
theorem m_X5_makeGreased (l : Launch) (D : va_G) (kA : Nat → Nat) (ad : Nat → Nat) (X : Nat → Nat → Int32) (a : Nat) (ha : a < 4) : Met l yX5_makeGreased (Cond.code yX5_makeGreased cX5_makeGreased 2 none :: AW) ({ frames := 1, cells := 0, slots := 0, locals := 21 } : Room) (Pz [.ref (ad 0), .ref (gA ad 0 a)] D (TY kA) (cw kA ad X)) (fQ none D (cw kA ad X) (cw kA ad (up2 X 0 (grZ (X 0) a)))) 0 0 (Aw (cw kA ad X)) := by
  refine MetZ (by decide +kernel) (Nat.le_of_ble_eq_true rfl) ?_
  intro p e s m below meth c ls hx hb hrt hts hown hml hlk hnm hP hK hD hS hl
  have hl : lv_has ls 2 [(0, .ref (ad 0)), (1, .ref (gA ad 0 a))] := hl
  rw [← up2_self (X := X) (r := 0)] at hP hD
  refine lv_aload_n hx hb dX5_makeGreased_0 rfl (lv_at hl 0 rfl) ?_
  refine va_get (ci := 5) (v := .ref (sA ad 0)) (C := RX5) (T := TX5) (N := 6) hx hb hts inX5 hown hK hP _ (cw_arm (kA := kA) (ad := ad) (X := up2 X 0 (X 0))) rfl 0 (by decide) (hts _ q_170) (fun _ h9 => h9) rfl dX5_makeGreased_1 ?_
  refine lv_aload_n hx hb dX5_makeGreased_4 rfl (lv_at hl 0 rfl) ?_
  refine va_get (ci := 5) (v := .ref (sA ad 0)) (C := RX5) (T := TX5) (N := 6) hx hb hts inX5 hown hK hP _ (cw_arm (kA := kA) (ad := ad) (X := up2 X 0 (X 0))) rfl 0 (by decide) (hts _ q_170) (fun _ h9 => h9) rfl dX5_makeGreased_5 ?_
  refine va_get (ci := 4) (v := .ref (rA ad 0)) (C := RX4) (T := TX4) (N := 4) hx hb hts inX4 hown hK hP _ (cw_state (kA := kA) (ad := ad) (X := up2 X 0 (X 0)) (r := 0) (by omega)) rfl 0 (by decide) (hts _ q_114) (fun _ h9 => h9) rfl dX5_makeGreased_8 ?_
  refine va_get (ci := 3) (v := .int ((X 0) 5)) (C := RX3) (T := TX3) (N := 6) hx hb hts inX3 hown hK hP _ (cw_rules (kA := kA) (ad := ad) (X := up2 X 0 (X 0)) (r := 0) (by omega)) rfl 5 (by decide) (hts _ q_47) (fun _ h9 => h9) rfl dX5_makeGreased_11 ?_
  refine cs_fn (runV (As := [.int ((X 0) 5)]) (rest := []) ⟨hx, hb, hml, hown, hts⟩ (m_X4_payCare l D kA ad (up2 X 0 (X 0)) 0 ((X 0) 5) (by omega)) q_483 q_484 q_485 q_2 q_486 hd_X4_payCare ⟨rfl, rfl⟩ ⟨Nat.le_of_ble_eq_true rfl, Nat.le_of_ble_eq_true rfl⟩ hK (ws := (cw kA ad (up2 X 0 (X 0)))) hP hD _ (ci := 4) (C := RX4) (T := TX4) (N := 4) rfl (cw_state (kA := kA) (ad := ad) (X := up2 X 0 (X 0)) (r := 0) (by omega)) rfl hl.1 rfl (Nat.le_of_ble_eq_true rfl) dX5_makeGreased_14 ⟨Nat.zero_le _, Nat.zero_le _⟩) hS (fun _ h => cw_Aw h) (fun H locs hP _ hS => ?_)
  have hD := cw_D (X' := up2 (up2 X 0 (X 0)) 0 (payZ ((X 0)) ((X 0) 5))) hD
  have hP : va_P D vwCl (cw kA ad (up2 (up2 X 0 (X 0)) 0 (payZ ((X 0)) ((X 0) 5)))) H := hP
  rw [nf_2] at hP hD
  refine lv_aload_n hx hb dX5_makeGreased_17 rfl (lv_at hl 1 rfl) ?_
  refine lv_aload_n hx hb dX5_makeGreased_18 rfl (lv_at hl 0 rfl) ?_
  refine va_get (ci := 5) (v := .ref (sA ad 0)) (C := RX5) (T := TX5) (N := 6) hx hb hts inX5 hown hK hP _ (cw_arm (kA := kA) (ad := ad) (X := up2 X 0 (payZ ((X 0)) ((X 0) 5)))) rfl 0 (by decide) (hts _ q_170) (fun _ h9 => h9) rfl dX5_makeGreased_19 ?_
  refine va_get (ci := 4) (v := .ref (rA ad 0)) (C := RX4) (T := TX4) (N := 4) hx hb hts inX4 hown hK hP _ (cw_state (kA := kA) (ad := ad) (X := up2 X 0 (payZ ((X 0)) ((X 0) 5))) (r := 0) (by omega)) rfl 0 (by decide) (hts _ q_114) (fun _ h9 => h9) rfl dX5_makeGreased_22 ?_
  refine va_get (ci := 3) (v := .int ((payZ ((X 0)) ((X 0) 5)) 4)) (C := RX3) (T := TX3) (N := 6) hx hb hts inX3 hown hK hP _ (cw_rules (kA := kA) (ad := ad) (X := up2 X 0 (payZ ((X 0)) ((X 0) 5))) (r := 0) (by omega)) rfl 4 (by decide) (hts _ q_45) (fun _ h9 => h9) rfl dX5_makeGreased_25 ?_
  refine va_put (ci := 0) (v := .int ((payZ ((X 0)) ((X 0) 5)) 4)) (ty := tyX0 6) (C := RX0) (T := TX0) (N := 12) hx hb hts inX0 tyX0 tyX0_ok nmX0 hown hK hP hD hS _ (cw_gear (kA := kA) (ad := ad) (X := up2 X 0 (payZ ((X 0)) ((X 0) 5))) (r := 0) (a := a) (by omega) (by omega)) rfl 6 (by decide) (hts _ q_79) (fun _ h9 => h9) rfl (tyX0_ok 6 (by decide)) rfl rfl (Nat.le_of_ble_eq_true rfl) dX5_makeGreased_28 (fun H locs hP hD hS => ?_)
  have hP : va_P D vwCl (cw kA ad (up3 (up2 X 0 (payZ ((X 0)) ((X 0) 5))) 0 (5 + (8 + 35 * a)) ((payZ ((X 0)) ((X 0) 5)) 4))) H := by rw [← st_greased (r := 0) (a := a) (by omega) (by omega)]; exact hP
  have hD : va_D (Aw (cw kA ad X)) (cw kA ad (up3 (up2 X 0 (payZ ((X 0)) ((X 0) 5))) 0 (5 + (8 + 35 * a)) ((payZ ((X 0)) ((X 0) 5)) 4))) := by rw [← st_greased (r := 0) (a := a) (by omega) (by omega)]; exact hD
  rw [nf_3] at hP hD
  exact end_fv hx hb hrt hlk hP hS (fun h => h) dX5_makeGreased_31




theorem hd_X5_homingFact : yX5_homingFact.cls ≠ "java/lang/invoke/MethodHandle" ∧ yX5_homingFact.cls ≠ "java/lang/invoke/VarHandle" ∧ (parseMethodDescriptor yX5_homingFact.desc).map (fun d => d.parameters.length) = some 2 := by decide +kernel
set_option maxRecDepth 100000 in
set_option maxHeartbeats 4000000 in
theorem m_X5_homingFact (l : Launch) (D : va_G) (kA : Nat → Nat) (ad : Nat → Nat) (X : Nat → Nat → Int32) (a : Nat) (p0 : Int32) (ha : a < 4) : Met l yX5_homingFact (Cond.code yX5_homingFact cX5_homingFact 4 (some .int) :: AW) ({ frames := 3, cells := 0, slots := 0, locals := 81 } : Room) (Pz [.ref (ad 0), .ref (gA ad 0 a), .int p0] D (TY kA) (cw kA ad X)) (fQ (some (.int (hfF (X 7) (X 0) a p0))) D (cw kA ad X) (cw kA ad (up2 X 7 (hfT (X 7) (X 0) a)))) 0 0 (Aw (cw kA ad X)) := by
  refine MetZ (by decide +kernel) (Nat.le_of_ble_eq_true rfl) ?_
  intro p e s m below meth c ls hx hb hrt hts hown hml hlk hnm hP hK hD hS hl
  have hl : lv_has ls 4 [(0, .ref (ad 0)), (1, .ref (gA ad 0 a)), (2, .int p0)] := hl
  rw [← up2_self (X := X) (r := 7)] at hP hD
  refine lv_aload_n hx hb dX5_homingFact_0 rfl (lv_at hl 0 rfl) ?_
  refine va_get (ci := 5) (v := .ref (gA ad 7 0)) (C := RX5) (T := TX5) (N := 6) hx hb hts inX5 hown hK hP _ (cw_arm (kA := kA) (ad := ad) (X := up2 X 7 (X 7))) rfl 2 (by decide) (hts _ q_172) (fun _ h9 => h9) rfl dX5_homingFact_1 ?_
  refine lv_aload_n hx hb dX5_homingFact_4 rfl (lv_at hl 1 rfl) ?_
  refine cs_fn (runV (As := [.ref (gA ad 0 a)]) (rest := []) ⟨hx, hb, hml, hown, hts⟩ (m_X0_copyFrom l D kA (gA ad 7 0) (wA ad 7 0) (sl ((X 7)) 0) (gA ad 0 a) (wA ad 0 a) (sl ((X 0)) a) ) q_441 q_372 q_373 q_4 q_374 hd_X0_copyFrom ⟨rfl, rfl⟩ ⟨Nat.le_of_ble_eq_true rfl, Nat.le_of_ble_eq_true rfl⟩ hK (ws := [((gA ad 7 0), gC (wA ad 7 0) (sl ((X 7)) 0)), ((wA ad 7 0), wC kA (sl ((X 7)) 0)), ((gA ad 0 a), gC (wA ad 0 a) (sl ((X 0)) a)), ((wA ad 0 a), wC kA (sl ((X 0)) a))]) (P4 hP (cw_gear (kA := kA) (ad := ad) (X := up2 X 7 (X 7)) (r := 7) (a := 0) (by omega) (by omega)) (cw_wears (kA := kA) (ad := ad) (X := up2 X 7 (X 7)) (r := 7) (a := 0) (by omega) (by omega)) (cw_gear (kA := kA) (ad := ad) (X := up2 X 7 (X 7)) (r := 0) (a := a) (by omega) (by omega)) (cw_wears (kA := kA) (ad := ad) (X := up2 X 7 (X 7)) (r := 0) (a := a) (by omega) (by omega))) (D4 hD (cw_gear (kA := kA) (ad := ad) (X := up2 X 7 (X 7)) (r := 7) (a := 0) (by omega) (by omega)) (cw_wears (kA := kA) (ad := ad) (X := up2 X 7 (X 7)) (r := 7) (a := 0) (by omega) (by omega)) (cw_gear (kA := kA) (ad := ad) (X := up2 X 7 (X 7)) (r := 0) (a := a) (by omega) (by omega)) (cw_wears (kA := kA) (ad := ad) (X := up2 X 7 (X 7)) (r := 0) (a := a) (by omega) (by omega)) (by omega) (by omega) (by omega) (by omega) (by omega) (by omega)) 0 (ci := 0) (C := RX0) (T := TX0) (N := 12) rfl rfl rfl hl.1 rfl (Nat.le_of_ble_eq_true rfl) dX5_homingFact_5 ⟨Nat.zero_le _, Nat.zero_le _⟩) hS (cw_sub (fun q hq => by simp only [List.mem_cons, List.not_mem_nil, or_false] at hq; rcases hq with rfl | rfl | rfl | rfl <;> first | exact ⟨2 * (4 * 7 + 0) + 5, by omega, rfl⟩ | exact ⟨2 * (4 * 7 + 0) + 6, by omega, rfl⟩ | exact ⟨2 * (4 * 0 + a) + 5, by omega, rfl⟩ | exact ⟨2 * (4 * 0 + a) + 6, by omega, rfl⟩)) (fun H locs hP1 hk1 hS => ?_)
  obtain ⟨hP, hD⟩ := jn_G4 (r := 7) (a := 0) (by omega) (by omega) (r' := 0) (a' := a) (by omega) (by omega) (by omega) (G' := (sl ((X 0)) a)) hP hD hk1 hP1
  clear hk1 hP1
  rw [nf_G] at hP hD
  refine lv_aload_n hx hb dX5_homingFact_8 rfl (lv_at hl 0 rfl) ?_
  refine va_get (ci := 5) (v := .ref (gA ad 7 0)) (C := RX5) (T := TX5) (N := 6) hx hb hts inX5 hown hK hP _ (cw_arm (kA := kA) (ad := ad) (X := up2 X 7 (inG (X 7) 0 (sl ((X 0)) a)))) rfl 2 (by decide) (hts _ q_172) (fun _ h9 => h9) rfl dX5_homingFact_9 ?_
  refine lv_aload_n hx hb dX5_homingFact_12 rfl (lv_at hl 0 rfl) ?_
  refine va_get (ci := 5) (v := .ref (sA ad 0)) (C := RX5) (T := TX5) (N := 6) hx hb hts inX5 hown hK hP _ (cw_arm (kA := kA) (ad := ad) (X := up2 X 7 (inG (X 7) 0 (sl ((X 0)) a)))) rfl 0 (by decide) (hts _ q_170) (fun _ h9 => h9) rfl dX5_homingFact_13 ?_
  refine va_get (ci := 4) (v := .int ((X 0) 6)) (C := RX4) (T := TX4) (N := 4) hx hb hts inX4 hown hK hP _ (cw_state (kA := kA) (ad := ad) (X := up2 X 7 (inG (X 7) 0 (sl ((X 0)) a))) (r := 0) (by omega)) rfl 2 (by decide) (hts _ q_117) (fun _ h9 => h9) rfl dX5_homingFact_16 ?_
  refine lv_aload_n hx hb dX5_homingFact_19 rfl (lv_at hl 0 rfl) ?_
  refine va_get (ci := 5) (v := .ref (sA ad 0)) (C := RX5) (T := TX5) (N := 6) hx hb hts inX5 hown hK hP _ (cw_arm (kA := kA) (ad := ad) (X := up2 X 7 (inG (X 7) 0 (sl ((X 0)) a)))) rfl 0 (by decide) (hts _ q_170) (fun _ h9 => h9) rfl dX5_homingFact_20 ?_
  refine va_get (ci := 4) (v := .ref (rA ad 0)) (C := RX4) (T := TX4) (N := 4) hx hb hts inX4 hown hK hP _ (cw_state (kA := kA) (ad := ad) (X := up2 X 7 (inG (X 7) 0 (sl ((X 0)) a))) (r := 0) (by omega)) rfl 0 (by decide) (hts _ q_114) (fun _ h9 => h9) rfl dX5_homingFact_23 ?_
  refine cs_fs (runV (As := [.int ((X 0) 6), .ref (rA ad 0)]) (rest := []) ⟨hx, hb, hml, hown, hts⟩ (m_X0_makeHomed l D kA (gA ad 7 0) (wA ad 7 0) (sl ((inG (X 7) 0 (sl ((X 0)) a))) 0) (rA ad 0) (X 0) ((X 0) 6) ) q_442 q_443 q_444 q_4 q_445 hd_X0_makeHomed ⟨rfl, rfl⟩ ⟨Nat.le_of_ble_eq_true rfl, Nat.le_of_ble_eq_true rfl⟩ hK (ws := [((gA ad 7 0), gC (wA ad 7 0) (sl ((inG (X 7) 0 (sl ((X 0)) a))) 0)), ((wA ad 7 0), wC kA (sl ((inG (X 7) 0 (sl ((X 0)) a))) 0)), ((rA ad 0), rC (X 0))]) (P3 hP (cw_gear (kA := kA) (ad := ad) (X := up2 X 7 (inG (X 7) 0 (sl ((X 0)) a))) (r := 7) (a := 0) (by omega) (by omega)) (cw_wears (kA := kA) (ad := ad) (X := up2 X 7 (inG (X 7) 0 (sl ((X 0)) a))) (r := 7) (a := 0) (by omega) (by omega)) (cw_rules (kA := kA) (ad := ad) (X := up2 X 7 (inG (X 7) 0 (sl ((X 0)) a))) (r := 0) (by omega))) (D3 hD (cw_gear (kA := kA) (ad := ad) (X := up2 X 7 (inG (X 7) 0 (sl ((X 0)) a))) (r := 7) (a := 0) (by omega) (by omega)) (cw_wears (kA := kA) (ad := ad) (X := up2 X 7 (inG (X 7) 0 (sl ((X 0)) a))) (r := 7) (a := 0) (by omega) (by omega)) (cw_rules (kA := kA) (ad := ad) (X := up2 X 7 (inG (X 7) 0 (sl ((X 0)) a))) (r := 0) (by omega)) (by omega) (by omega) (by omega)) 0 (ci := 0) (C := RX0) (T := TX0) (N := 12) rfl rfl rfl hl.1 rfl (Nat.le_of_ble_eq_true rfl) dX5_homingFact_26 ⟨Nat.zero_le _, Nat.zero_le _⟩) hS (cw_sub (fun q hq => by simp only [List.mem_cons, List.not_mem_nil, or_false] at hq; rcases hq with rfl | rfl | rfl <;> first | exact ⟨2 * (4 * 7 + 0) + 5, by omega, rfl⟩ | exact ⟨2 * (4 * 7 + 0) + 6, by omega, rfl⟩ | exact ⟨3 * 0 + 64, by omega, rfl⟩)) (fun H locs hP1 hk1 hS => ?_)
  obtain ⟨hP, hD⟩ := jn_G3 (r := 7) (a := 0) (by omega) (by omega) (r' := 0) (by omega) (G' := (hmG (sl ((inG (X 7) 0 (sl ((X 0)) a))) 0) (X 0) ((X 0) 6))) hP hD hk1 hP1
  clear hk1 hP1
  rw [nf_G] at hP hD
  refine lv_istore_n (lv' := [(3, .int (hmP (sl ((inG (X 7) 0 (sl ((X 0)) a))) 0) (X 0) ((X 0) 6))), (0, .ref (ad 0)), (1, .ref (gA ad 0 a)), (2, .int p0)]) hx hb dX5_homingFact_29 rfl hl (by decide) rfl (fun ls hl => ?_)
  refine lv_iload_n hx hb dX5_homingFact_30 rfl (lv_at hl 3 rfl) ?_
  by_cases c_1 : p0 = 0
  · skip
    refine lv_lookup (off := 25) (tgt := 56) hx hb dX5_homingFact_31 (by decide +kernel) (by rw [c_1]; decide +kernel) (by decide) ?_
    refine lv_aload_n hx hb dX5_homingFact_56 rfl (lv_at hl 1 rfl) ?_
    refine va_get (ci := 5) (v := .ref (gA ad 7 0)) (C := RX5) (T := TX5) (N := 6) hx hb hts inX5 hown hK hP _ (cw_arm (kA := kA) (ad := ad) (X := up2 X 7 (inG (inG (X 7) 0 (sl ((X 0)) a)) 0 (hmG (sl ((inG (X 7) 0 (sl ((X 0)) a))) 0) (X 0) ((X 0) 6))))) rfl 2 (by decide) (hts _ q_172) (fun _ h9 => h9) rfl dX5_homingFact_57 ?_
    refine va_get (ci := 0) (v := .int (sl ((inG (inG (X 7) 0 (sl ((X 0)) a)) 0 (hmG (sl ((inG (X 7) 0 (sl ((X 0)) a))) 0) (X 0) ((X 0) 6)))) 0 6)) (C := RX0) (T := TX0) (N := 12) hx hb hts inX0 hown hK hP _ (cw_gear (kA := kA) (ad := ad) (X := up2 X 7 (inG (inG (X 7) 0 (sl ((X 0)) a)) 0 (hmG (sl ((inG (X 7) 0 (sl ((X 0)) a))) 0) (X 0) ((X 0) 6)))) (r := 7) (a := 0) (by omega) (by omega)) rfl 7 (by decide) (hts _ q_81) (fun _ h9 => h9) rfl dX5_homingFact_60 ?_
    refine lv_aload_n hx hb dX5_homingFact_63 rfl (lv_at hl 2 rfl) ?_
    refine va_get (ci := 0) (v := .int (sl ((X 0)) a 6)) (C := RX0) (T := TX0) (N := 12) hx hb hts inX0 hown hK hP _ (cw_gear (kA := kA) (ad := ad) (X := up2 X 7 (inG (inG (X 7) 0 (sl ((X 0)) a)) 0 (hmG (sl ((inG (X 7) 0 (sl ((X 0)) a))) 0) (X 0) ((X 0) 6)))) (r := 0) (a := a) (by omega) (by omega)) rfl 7 (by decide) (hts _ q_81) (fun _ h9 => h9) rfl dX5_homingFact_64 ?_
    refine lv_isub hx hb dX5_homingFact_67 ?_
    exact end_fi hx hb hrt hlk hP hS (by rw [hfF, if_pos c_1]; rfl) (fun h => h) dX5_homingFact_68
  by_cases c_2 : p0 = 1
  · skip
    refine lv_lookup (off := 38) (tgt := 69) hx hb dX5_homingFact_31 (by decide +kernel) (by rw [c_2]; decide +kernel) (by decide) ?_
    refine lv_iload_n hx hb dX5_homingFact_69 rfl (lv_at hl 0 rfl) ?_
    exact end_fi hx hb hrt hlk hP hS (by rw [hfF, if_neg c_1, if_pos c_2]; rfl) (fun h => h) dX5_homingFact_70
  refine lv_lookup (off := 40) (tgt := 71) hx hb dX5_homingFact_31 (by decide +kernel) (by rw [lv_osw c_1 (by decide)]; rw [lv_osw c_2 (by decide)]; rfl) (by decide) ?_
  refine lv_aload_n hx hb dX5_homingFact_71 rfl (lv_at hl 1 rfl) ?_
  refine va_get (ci := 5) (v := .ref (gA ad 7 0)) (C := RX5) (T := TX5) (N := 6) hx hb hts inX5 hown hK hP _ (cw_arm (kA := kA) (ad := ad) (X := up2 X 7 (inG (inG (X 7) 0 (sl ((X 0)) a)) 0 (hmG (sl ((inG (X 7) 0 (sl ((X 0)) a))) 0) (X 0) ((X 0) 6))))) rfl 2 (by decide) (hts _ q_172) (fun _ h9 => h9) rfl dX5_homingFact_72 ?_
  refine va_get (ci := 0) (v := .int (sl ((inG (inG (X 7) 0 (sl ((X 0)) a)) 0 (hmG (sl ((inG (X 7) 0 (sl ((X 0)) a))) 0) (X 0) ((X 0) 6)))) 0 10)) (C := RX0) (T := TX0) (N := 12) hx hb hts inX0 hown hK hP _ (cw_gear (kA := kA) (ad := ad) (X := up2 X 7 (inG (inG (X 7) 0 (sl ((X 0)) a)) 0 (hmG (sl ((inG (X 7) 0 (sl ((X 0)) a))) 0) (X 0) ((X 0) 6)))) (r := 7) (a := 0) (by omega) (by omega)) rfl 11 (by decide) (hts _ q_86) (fun _ h9 => h9) rfl dX5_homingFact_75 ?_
  refine lv_aload_n hx hb dX5_homingFact_78 rfl (lv_at hl 2 rfl) ?_
  refine va_get (ci := 0) (v := .int (sl ((X 0)) a 10)) (C := RX0) (T := TX0) (N := 12) hx hb hts inX0 hown hK hP _ (cw_gear (kA := kA) (ad := ad) (X := up2 X 7 (inG (inG (X 7) 0 (sl ((X 0)) a)) 0 (hmG (sl ((inG (X 7) 0 (sl ((X 0)) a))) 0) (X 0) ((X 0) 6)))) (r := 0) (a := a) (by omega) (by omega)) rfl 11 (by decide) (hts _ q_86) (fun _ h9 => h9) rfl dX5_homingFact_79 ?_
  refine lv_isub hx hb dX5_homingFact_82 ?_
  exact end_fi hx hb hrt hlk hP hS (by rw [hfF, if_neg c_1, if_neg c_2]; rfl) (fun h => h) dX5_homingFact_83


theorem hd_X5_countOf : yX5_countOf.cls ≠ "java/lang/invoke/MethodHandle" ∧ yX5_countOf.cls ≠ "java/lang/invoke/VarHandle" ∧ (parseMethodDescriptor yX5_countOf.desc).map (fun d => d.parameters.length) = some 1 := by decide +kernel
set_option maxRecDepth 100000 in
set_option maxHeartbeats 4000000 in
theorem m_X5_countOf (l : Launch) (D : va_G) (kA : Nat → Nat) (ad : Nat → Nat) (X : Nat → Nat → Int32) (p0 : Int32) : Met l yX5_countOf (Cond.code yX5_countOf cX5_countOf 2 (some .int) :: AW) ({ frames := 4, cells := 0, slots := 0, locals := 89 } : Room) (Pz [.ref (ad 0), .int p0] D (TY kA) (cw kA ad X)) (pQ (some (.int (coF X p0)))) 0 0 (fun _ => False) := by
  refine MetZ (by decide +kernel) (Nat.le_of_ble_eq_true rfl) ?_
  intro p e s m below meth c ls hx hb hrt hts hown hml hlk hnm hP hK hD hS hl
  have hl : lv_has ls 2 [(0, .ref (ad 0)), (1, .int p0)] := hl
  refine lv_iload_n hx hb dX5_countOf_0 rfl (lv_at hl 1 rfl) ?_
  by_cases c_1 : p0 = 0
  · skip
    refine lv_tableIn (off := 47) (tgt := 48) hx hb dX5_countOf_1 (by rw [c_1]; decide) (by rw [c_1]; decide) (by rw [c_1]; decide +kernel) (by decide) ?_
    refine lv_aload_n hx hb dX5_countOf_48 rfl (lv_at hl 0 rfl) ?_
    refine va_get (ci := 5) (v := .ref (sA ad 0)) (C := RX5) (T := TX5) (N := 6) hx hb hts inX5 hown hK hP _ (cw_arm (kA := kA) (ad := ad) (X := X)) rfl 0 (by decide) (hts _ q_170) (fun _ h9 => h9) rfl dX5_countOf_49 ?_
    refine va_get (ci := 4) (v := .int ((X 0) 6)) (C := RX4) (T := TX4) (N := 4) hx hb hts inX4 hown hK hP _ (cw_state (kA := kA) (ad := ad) (X := X) (r := 0) (by omega)) rfl 2 (by decide) (hts _ q_117) (fun _ h9 => h9) rfl dX5_countOf_52 ?_
    exact end_pi hx hb hrt hlk (by rw [coF, if_pos c_1]) dX5_countOf_55
  by_cases c_2 : p0 = 1
  · skip
    refine lv_tableIn (off := 55) (tgt := 56) hx hb dX5_countOf_1 (by rw [c_2]; decide) (by rw [c_2]; decide) (by rw [c_2]; decide +kernel) (by decide) ?_
    refine lv_aload_n hx hb dX5_countOf_56 rfl (lv_at hl 0 rfl) ?_
    refine va_get (ci := 5) (v := .ref (sA ad 0)) (C := RX5) (T := TX5) (N := 6) hx hb hts inX5 hown hK hP _ (cw_arm (kA := kA) (ad := ad) (X := X)) rfl 0 (by decide) (hts _ q_170) (fun _ h9 => h9) rfl dX5_countOf_57 ?_
    refine lv_bipush (v := 6) hx hb dX5_countOf_60 (by decide) ?_
    refine cs_p (runV (As := [.int 6]) (rest := []) ⟨hx, hb, hml, hown, hts⟩ (m_X4_sumOf l D kA ad X 0 6 (by omega)) q_553 q_554 q_555 q_2 q_556 hd_X4_sumOf ⟨rfl, rfl⟩ ⟨Nat.le_of_ble_eq_true rfl, Nat.le_of_ble_eq_true rfl⟩ hK (ws := (cw kA ad X)) hP hD _ (ci := 4) (C := RX4) (T := TX4) (N := 4) rfl (cw_state (kA := kA) (ad := ad) (X := X) (r := 0) (by omega)) rfl hl.1 rfl (Nat.le_of_ble_eq_true rfl) dX5_countOf_62 ⟨Nat.zero_le _, Nat.zero_le _⟩) ?_
    exact end_pi hx hb hrt hlk (by rw [coF, if_neg c_1, if_pos c_2]) dX5_countOf_65
  by_cases c_3 : p0 = 2
  · skip
    refine lv_tableIn (off := 65) (tgt := 66) hx hb dX5_countOf_1 (by rw [c_3]; decide) (by rw [c_3]; decide) (by rw [c_3]; decide +kernel) (by decide) ?_
    refine lv_aload_n hx hb dX5_countOf_66 rfl (lv_at hl 0 rfl) ?_
    refine va_get (ci := 5) (v := .ref (sA ad 0)) (C := RX5) (T := TX5) (N := 6) hx hb hts inX5 hown hK hP _ (cw_arm (kA := kA) (ad := ad) (X := X)) rfl 0 (by decide) (hts _ q_170) (fun _ h9 => h9) rfl dX5_countOf_67 ?_
    refine lv_bipush (v := 8) hx hb dX5_countOf_70 (by decide) ?_
    refine cs_p (runV (As := [.int 8]) (rest := []) ⟨hx, hb, hml, hown, hts⟩ (m_X4_sumOf l D kA ad X 0 8 (by omega)) q_553 q_554 q_555 q_2 q_556 hd_X4_sumOf ⟨rfl, rfl⟩ ⟨Nat.le_of_ble_eq_true rfl, Nat.le_of_ble_eq_true rfl⟩ hK (ws := (cw kA ad X)) hP hD _ (ci := 4) (C := RX4) (T := TX4) (N := 4) rfl (cw_state (kA := kA) (ad := ad) (X := X) (r := 0) (by omega)) rfl hl.1 rfl (Nat.le_of_ble_eq_true rfl) dX5_countOf_72 ⟨Nat.zero_le _, Nat.zero_le _⟩) ?_
    exact end_pi hx hb hrt hlk (by rw [coF, if_neg c_1, if_neg c_2, if_pos c_3]) dX5_countOf_75
  by_cases c_4 : p0 = 3
  · skip
    refine lv_tableIn (off := 75) (tgt := 76) hx hb dX5_countOf_1 (by rw [c_4]; decide) (by rw [c_4]; decide) (by rw [c_4]; decide +kernel) (by decide) ?_
    refine lv_aload_n hx hb dX5_countOf_76 rfl (lv_at hl 0 rfl) ?_
    refine va_get (ci := 5) (v := .ref (sA ad 0)) (C := RX5) (T := TX5) (N := 6) hx hb hts inX5 hown hK hP _ (cw_arm (kA := kA) (ad := ad) (X := X)) rfl 0 (by decide) (hts _ q_170) (fun _ h9 => h9) rfl dX5_countOf_77 ?_
    refine lv_bipush (v := 7) hx hb dX5_countOf_80 (by decide) ?_
    refine cs_p (runV (As := [.int 7]) (rest := []) ⟨hx, hb, hml, hown, hts⟩ (m_X4_sumOf l D kA ad X 0 7 (by omega)) q_553 q_554 q_555 q_2 q_556 hd_X4_sumOf ⟨rfl, rfl⟩ ⟨Nat.le_of_ble_eq_true rfl, Nat.le_of_ble_eq_true rfl⟩ hK (ws := (cw kA ad X)) hP hD _ (ci := 4) (C := RX4) (T := TX4) (N := 4) rfl (cw_state (kA := kA) (ad := ad) (X := X) (r := 0) (by omega)) rfl hl.1 rfl (Nat.le_of_ble_eq_true rfl) dX5_countOf_82 ⟨Nat.zero_le _, Nat.zero_le _⟩) ?_
    exact end_pi hx hb hrt hlk (by rw [coF, if_neg c_1, if_neg c_2, if_neg c_3, if_pos c_4]) dX5_countOf_85
  by_cases c_5 : p0 = 4
  · skip
    refine lv_tableIn (off := 85) (tgt := 86) hx hb dX5_countOf_1 (by rw [c_5]; decide) (by rw [c_5]; decide) (by rw [c_5]; decide +kernel) (by decide) ?_
    refine lv_aload_n hx hb dX5_countOf_86 rfl (lv_at hl 0 rfl) ?_
    refine va_get (ci := 5) (v := .ref (sA ad 0)) (C := RX5) (T := TX5) (N := 6) hx hb hts inX5 hown hK hP _ (cw_arm (kA := kA) (ad := ad) (X := X)) rfl 0 (by decide) (hts _ q_170) (fun _ h9 => h9) rfl dX5_countOf_87 ?_
    refine va_get (ci := 4) (v := .int ((X 0) 7)) (C := RX4) (T := TX4) (N := 4) hx hb hts inX4 hown hK hP _ (cw_state (kA := kA) (ad := ad) (X := X) (r := 0) (by omega)) rfl 3 (by decide) (hts _ q_119) (fun _ h9 => h9) rfl dX5_countOf_90 ?_
    exact end_pi hx hb hrt hlk (by rw [coF, if_neg c_1, if_neg c_2, if_neg c_3, if_neg c_4, if_pos c_5]) dX5_countOf_93
  by_cases c_6 : p0 = 5
  · skip
    refine lv_tableIn (off := 93) (tgt := 94) hx hb dX5_countOf_1 (by rw [c_6]; decide) (by rw [c_6]; decide) (by rw [c_6]; decide +kernel) (by decide) ?_
    refine lv_aload_n hx hb dX5_countOf_94 rfl (lv_at hl 0 rfl) ?_
    refine va_get (ci := 5) (v := .ref (sA ad 0)) (C := RX5) (T := TX5) (N := 6) hx hb hts inX5 hown hK hP _ (cw_arm (kA := kA) (ad := ad) (X := X)) rfl 0 (by decide) (hts _ q_170) (fun _ h9 => h9) rfl dX5_countOf_95 ?_
    refine cs_p (runV (As := []) (rest := []) ⟨hx, hb, hml, hown, hts⟩ (m_X4_wearOfAll l D kA ad X 0 (by omega)) q_558 q_559 q_560 q_2 q_561 hd_X4_wearOfAll ⟨rfl, rfl⟩ ⟨Nat.le_of_ble_eq_true rfl, Nat.le_of_ble_eq_true rfl⟩ hK (ws := (cw kA ad X)) hP hD _ (ci := 4) (C := RX4) (T := TX4) (N := 4) rfl (cw_state (kA := kA) (ad := ad) (X := X) (r := 0) (by omega)) rfl hl.1 rfl (Nat.le_of_ble_eq_true rfl) dX5_countOf_98 ⟨Nat.zero_le _, Nat.zero_le _⟩) ?_
    exact end_pi hx hb hrt hlk (by rw [coF, if_neg c_1, if_neg c_2, if_neg c_3, if_neg c_4, if_neg c_5, if_pos c_6]) dX5_countOf_101
  by_cases c_7 : p0 = 6
  · skip
    refine lv_tableIn (off := 101) (tgt := 102) hx hb dX5_countOf_1 (by rw [c_7]; decide) (by rw [c_7]; decide) (by rw [c_7]; decide +kernel) (by decide) ?_
    refine lv_aload_n hx hb dX5_countOf_102 rfl (lv_at hl 0 rfl) ?_
    refine va_get (ci := 5) (v := .ref (sA ad 0)) (C := RX5) (T := TX5) (N := 6) hx hb hts inX5 hown hK hP _ (cw_arm (kA := kA) (ad := ad) (X := X)) rfl 0 (by decide) (hts _ q_170) (fun _ h9 => h9) rfl dX5_countOf_103 ?_
    refine lv_aload_n hx hb dX5_countOf_106 rfl (lv_at hl 0 rfl) ?_
    refine va_get (ci := 5) (v := .ref (sA ad 0)) (C := RX5) (T := TX5) (N := 6) hx hb hts inX5 hown hK hP _ (cw_arm (kA := kA) (ad := ad) (X := X)) rfl 0 (by decide) (hts _ q_170) (fun _ h9 => h9) rfl dX5_countOf_107 ?_
    refine va_get (ci := 4) (v := .ref (rA ad 0)) (C := RX4) (T := TX4) (N := 4) hx hb hts inX4 hown hK hP _ (cw_state (kA := kA) (ad := ad) (X := X) (r := 0) (by omega)) rfl 0 (by decide) (hts _ q_114) (fun _ h9 => h9) rfl dX5_countOf_110 ?_
    refine va_get (ci := 3) (v := .int ((X 0) 2)) (C := RX3) (T := TX3) (N := 6) hx hb hts inX3 hown hK hP _ (cw_rules (kA := kA) (ad := ad) (X := X) (r := 0) (by omega)) rfl 2 (by decide) (hts _ q_41) (fun _ h9 => h9) rfl dX5_countOf_113 ?_
    refine cs_p (runV (As := [.int ((X 0) 2)]) (rest := []) ⟨hx, hb, hml, hown, hts⟩ (m_X4_teethWornTo l D kA ad X 0 ((X 0) 2) (by omega)) q_563 q_564 q_565 q_2 q_566 hd_X4_teethWornTo ⟨rfl, rfl⟩ ⟨Nat.le_of_ble_eq_true rfl, Nat.le_of_ble_eq_true rfl⟩ hK (ws := (cw kA ad X)) hP hD _ (ci := 4) (C := RX4) (T := TX4) (N := 4) rfl (cw_state (kA := kA) (ad := ad) (X := X) (r := 0) (by omega)) rfl hl.1 rfl (Nat.le_of_ble_eq_true rfl) dX5_countOf_116 ⟨Nat.zero_le _, Nat.zero_le _⟩) ?_
    exact end_pi hx hb hrt hlk (by rw [coF, if_neg c_1, if_neg c_2, if_neg c_3, if_neg c_4, if_neg c_5, if_neg c_6, if_pos c_7]) dX5_countOf_119
  by_cases c_8 : p0 = 7
  · skip
    refine lv_tableIn (off := 119) (tgt := 120) hx hb dX5_countOf_1 (by rw [c_8]; decide) (by rw [c_8]; decide) (by rw [c_8]; decide +kernel) (by decide) ?_
    refine lv_aload_n hx hb dX5_countOf_120 rfl (lv_at hl 0 rfl) ?_
    refine va_get (ci := 5) (v := .ref (sA ad 0)) (C := RX5) (T := TX5) (N := 6) hx hb hts inX5 hown hK hP _ (cw_arm (kA := kA) (ad := ad) (X := X)) rfl 0 (by decide) (hts _ q_170) (fun _ h9 => h9) rfl dX5_countOf_121 ?_
    refine cs_p (runV (As := []) (rest := []) ⟨hx, hb, hml, hown, hts⟩ (m_X4_axesWhereBelieved l D kA ad X 0 (by omega)) q_567 q_568 q_569 q_2 q_570 hd_X4_axesWhereBelieved ⟨rfl, rfl⟩ ⟨Nat.le_of_ble_eq_true rfl, Nat.le_of_ble_eq_true rfl⟩ hK (ws := (cw kA ad X)) hP hD _ (ci := 4) (C := RX4) (T := TX4) (N := 4) rfl (cw_state (kA := kA) (ad := ad) (X := X) (r := 0) (by omega)) rfl hl.1 rfl (Nat.le_of_ble_eq_true rfl) dX5_countOf_124 ⟨Nat.zero_le _, Nat.zero_le _⟩) ?_
    exact end_pi hx hb hrt hlk (by rw [coF, if_neg c_1, if_neg c_2, if_neg c_3, if_neg c_4, if_neg c_5, if_neg c_6, if_neg c_7, if_pos c_8]) dX5_countOf_127
  refine lv_tableOut (tgt := 128) hx hb dX5_countOf_1 (sw_out 0 7 (by intro k h1 h2; rcases (show k = 0 ∨ k = 1 ∨ k = 2 ∨ k = 3 ∨ k = 4 ∨ k = 5 ∨ k = 6 ∨ k = 7 by omega) with rfl | rfl | rfl | rfl | rfl | rfl | rfl | rfl <;> first | exact lv_neT c_1 (by decide) | exact lv_neT c_2 (by decide) | exact lv_neT c_3 (by decide) | exact lv_neT c_4 (by decide) | exact lv_neT c_5 (by decide) | exact lv_neT c_6 (by decide) | exact lv_neT c_7 (by decide) | exact lv_neT c_8 (by decide))) (by decide) ?_
  refine lv_aload_n hx hb dX5_countOf_128 rfl (lv_at hl 0 rfl) ?_
  refine va_get (ci := 5) (v := .ref (ad 1)) (C := RX5) (T := TX5) (N := 6) hx hb hts inX5 hown hK hP _ (cw_arm (kA := kA) (ad := ad) (X := X)) rfl 1 (by decide) (hts _ q_171) (fun _ h9 => h9) rfl dX5_countOf_129 ?_
  refine va_get (ci := 1) (v := .int ((X 8) 1)) (C := RX1) (T := TX1) (N := 3) hx hb hts inX1 hown hK hP _ (cw_hist (kA := kA) (ad := ad) (X := X)) rfl 2 (by decide) (hts _ q_141) (fun _ h9 => h9) rfl dX5_countOf_132 ?_
  exact end_pi hx hb hrt hlk (by rw [coF, if_neg c_1, if_neg c_2, if_neg c_3, if_neg c_4, if_neg c_5, if_neg c_6, if_neg c_7, if_neg c_8]) dX5_countOf_135
end
