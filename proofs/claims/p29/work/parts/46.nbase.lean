/-! constructors: worlds that grow -/
def nN : List Cond := [.methodLinkNest RX4 11 yX3_init "ArmTolls", .methodLinkNest RX4 31 yX0_init "ArmTolls", .methodLinkNest RX5 25 yX0_init "ArmTolls", .methodLinkNest RX5 32 yX2_init "ArmTolls"]
def NW (U : State) : Prop := (∀ w ∈ nN, va_Nw w U) ∧ va_AO "ArmTolls$Gear" U ∧ va_AO "ArmTolls$State" U
theorem AO_warm {C : String} {s U : State} (hW : s.WarmedH U.vm) (h : va_AO C s) : va_AO C U := va_AO.moved hW.alike h
theorem NW.warm {s U : State} (hW : s.WarmedH U.vm) (h : NW s) : NW U := by
  refine ⟨fun w hw => ?_, AO_warm hW h.2.1, AO_warm hW h.2.2⟩
  have h1 := h.1 w hw
  simp only [nN, List.mem_cons, List.not_mem_nil, or_false] at hw
  rcases hw with rfl | rfl | rfl | rfl <;> exact va_Nw.warmM hW h1
def Pn (av : List Value) (D : va_G) (tys : List (ClassId × FieldType)) (ws : va_W) (sz : Nat) : Array Value → State → Prop := fun v U => v = av.toArray ∧ U.heap.size = sz ∧ va_P D vwCl ws U.heap ∧ va_K D vwCl tys U ∧ va_D (fun _ => True) ws ∧ NW U
def nQ (D : va_G) (blk : (Nat → Nat) → va_W) (ws : va_W) (sz : Nat) : Array Value → State → Outcome → State → Prop := fun _ st oc t => oc = .returned none ∧ (∃ d : Nat → Nat, va_P D vwCl (blk d) t.heap ∧ va_D (va_A ws sz) (blk d)) ∧ va_F (va_A ws sz) st t
theorem ua_eq {D : va_G} {tys : List (ClassId × FieldType)} {s : State} {ty : FieldType} {i j : Nat} {c1 c2 : ClassId} (hK : va_K D vwCl tys s) (h1 : tys[i]? = some (c1, ty)) (h2 : tys[j]? = some (c2, ty)) : c1 = c2 := by
  have a1 := (hK.2 i _ h1).2
  have a2 := (hK.2 j _ h2).2
  cases ty <;> first
    | exact Option.some.inj (a1.symm.trans a2)
    | (obtain ⟨_, _, _, _, _, b1⟩ := a1; obtain ⟨_, _, _, _, _, b2⟩ := a2; exact Option.some.inj (b1.symm.trans b2))
section NB
variable {p : Program} {l : Launch} {e : Env} {R : Room} {s : State} {m : MethodId} {args : Array Value} {below : List Frame} {meth : Method} {c : Code} {H : Heap} {locs : List Loc} {cells slots : Nat} {Q : State → Prop}
variable {pc : Nat} {ls : Array Slot} {rest st0 : List Value} {a : Array Value} {A0 : Nat → Prop} {H0 : Heap} {D : va_G} {tys : List (ClassId × FieldType)} {cc : ByteArray} {ws : va_W}
theorem Pn.blind {av : List Value} {sz : Nat} : FrameBlind (Pn av D tys ws sz) := fun a U g mk q => ⟨q.1, q.2.1, q.2.2.1, va_K.moved (u := U) (U := U.calling g mk a) (Vm.Alike.refl U.vm) q.2.2.2.1, q.2.2.2.2.1, NW.warm (s := U) (U := U.calling g mk a) (State.WarmedH.refl U) q.2.2.2.2.2⟩
theorem Pn.pre {av : List Value} {A : Nat → Prop} (hP : va_P D vwCl ws H) (hK : va_K D vwCl tys s) (hD : va_D A ws) (hN : NW s) : ∀ U : State, U.heap = H → s.WarmedH U.vm → Pn av D tys ws H.size av.toArray U :=
  fun U hU hW => ⟨rfl, by rw [hU], by rw [hU]; exact hP, va_K.moved hW.alike hK, hD.weaken (fun _ _ _ _ => trivial), hN.warm hW⟩
theorem MetN {y : MethodName} {maxL sz : Nat} {ret : Option FieldType} {rm : Room} {av : List Value} {Qc : Array Value → State → Outcome → State → Prop} {free : Addr → Prop} {mc ms : Nat} (hy : plainFor y = true) (hlen : (lg_sl av).length ≤ maxL)
    (body : ∀ (p : Program) (e : Env) (s : State) (m : MethodId) (below : List Frame) (meth : Method) (c : Code) (ls : Array Slot), p.tables.exec = Jvm.exec → c.code = cc → meth.sig.returnType = ret → (∀ w ∈ AW, w.before av.toArray s = true) → s.vm.findClass y.cls = some m.cls → c.maxLocals = maxL → meth.locks = false → meth.name = y.name → va_P D vwCl ws s.heap → va_K D vwCl tys s → va_D (va_A ws s.heap.size) ws → va_S (va_A ws s.heap.size) s.heap s.heap [] → lv_has ls maxL (lv_args 0 av) → NW s → s.heap.size = sz →
      W p l e rm s m av.toArray below meth c s.heap [] 0 0 (MQ below Qc av.toArray s mc ms free) (F0 m 0 ls [])) : Met l y (Cond.code y cc maxL ret :: AW) rm (Pn av D tys ws sz) Qc mc ms free := by
  refine Met.ofF (cc := cc) (maxL := maxL) (ret := ret) hy rfl ?_
  intro p e s m args below meth c s₁ B hml hv
  obtain ⟨rfl, hsz, hP, hK, hD, hN⟩ := hv
  have hts := atoms_spec (ws := Cond.code y cc maxL ret :: AW) B.pre
  have hin := (name_of_methodNamed B.named B.method).1
  have hl := lv_entry av (n := maxL) hlen
  rw [lg_entry_eq]
  exact body p e s m below meth c _ B.exec B.bytes B.returns (fun w h => hts w (List.mem_cons_of_mem _ h)) (findClass_of_methodNamed B.named) hml B.notSynchronized hin hP hK ⟨hD.1, fun k q hk => va_A.in hk⟩ va_S.rf hl hN hsz
theorem end_nv {blk : (Nat → Nat) → va_W} {ws1 : va_W} {d : Nat → Nat} (hx : p.tables.exec = Jvm.exec) (hb : c.code = cc) (hr : meth.sig.returnType = none) (hlocks : meth.locks = false) (hP : va_P D vwCl ws1 H) (hD : va_D (va_A ws s.heap.size) ws1) (hS : va_S (va_A ws s.heap.size) s.heap H locs) (hw : va_P D vwCl ws1 H → va_P D vwCl (blk d) H) (hwD : va_D (va_A ws s.heap.size) ws1 → va_D (va_A ws s.heap.size) (blk d)) (hdg : decode cc pc = .ok (.return_, 1)) : W p l e R s m args below meth c H locs cells slots (MQ below (nQ D blk ws s.heap.size) args s cells slots (va_A ws s.heap.size)) (F0 m pc ls []) :=
  W.vret hx hb hr (fun t ht _ => ⟨rfl, ⟨d, by rw [ht]; exact hw hP, hwD hD⟩, hS.F ht⟩) hS.2.2 hdg
/-- the last cell went into a constructor, and came back as a block -/
theorem jx {c0 : Nat × va_E} {w1 : va_W} {H1 : Heap} (hP : va_P D vwCl (ws ++ [c0]) H) (hD : va_D A0 (ws ++ [c0])) (hz : H0.size ≤ H.size) (hA : ∀ q, H0.size ≤ q → A0 q)
    (hk : ∀ q : Nat, q < H.size → ¬ va_A [c0] H.size q → H1[q]? = H[q]?) (hP1 : va_P D vwCl w1 H1) (hD1 : va_D (va_A [c0] H.size) w1) : va_P D vwCl (ws ++ w1) H1 ∧ va_D A0 (ws ++ w1) := by
  have hc : (ws ++ [c0])[ws.length]? = some c0 := by rw [List.getElem?_append_right (Nat.le_refl _), Nat.sub_self]; rfl
  have hi : ∀ {k : Nat} {q : Nat × va_E}, ws[k]? = some q → (ws ++ [c0])[k]? = some q := fun {k q} h => by rw [List.getElem?_append_left (List.getElem?_eq_some_iff.mp h).1]; exact h
  have hne : ∀ {k : Nat} {q : Nat × va_E}, ws[k]? = some q → ¬ va_A [c0] H.size q.1 := fun {k q} h hz => by
    have hlt := (hP k q (hi h)).lt
    rcases hz with ⟨k', e', h'⟩ | h'
    · match k', h' with
      | 0, h' =>
        have e0 := Option.some.inj h'
        have := hD.1 k ws.length q c0 (hi h) hc (by rw [e0])
        have hkl := (List.getElem?_eq_some_iff.mp h).1
        omega
    · omega
  refine ⟨va_P.app (fun k q hq => (hP k q (hi hq)).kept (hk q.1 ((hP k q (hi hq)).lt) (hne hq))) hP1, va_D.app ⟨fun i j x y hx hy hxy => hD.1 i j x y (hi hx) (hi hy) hxy, fun k q hq => hD.2 k q (hi hq)⟩ (hD1.weaken fun k q hq hz => ?_) (fun i j x y hx hy hxy => hne hx (by rw [hxy]; exact hD1.2 j y hy))⟩
  rcases hz with ⟨k', e', h'⟩ | h'
  · match k', h' with
    | 0, h' => have e0 := Option.some.inj h'; have h9 := hD.2 ws.length c0 hc; rw [e0] at h9; exact h9
  · exact hA _ (by omega)
theorem cs_n {blk : (Nat → Nat) → va_W} {c0 : Nat × va_E} {mc ms : Nat} (hr : va_Run p l e R s m args below meth c H locs cells slots mc ms (F0 m pc ls st0) rest (nQ D blk [c0] H.size a) (va_A [c0] H.size)) (hP : va_P D vwCl (ws ++ [c0]) H) (hD : va_D A0 (ws ++ [c0])) (hS : va_S A0 H0 H locs) (hA : ∀ q, H0.size ≤ q → A0 q)
    (kk : ∀ (d : Nat → Nat) (H1 : Heap) (locs1 : List Loc), va_P D vwCl (ws ++ blk d) H1 → va_D A0 (ws ++ blk d) → va_S A0 H0 H1 locs1 → W p l e R s m args below meth c H1 locs1 (cells + mc) (slots + ms) Q (F0 m (pc + 3) ls rest)) : W p l e R s m args below meth c H locs cells slots Q (F0 m pc ls st0) := by
  intro T hT X
  obtain ⟨v', st₀, t, T', L, h0, X', hL, e1, -, ⟨hv, ⟨d, hp, hd⟩, hz, hk⟩, st⟩ := hr T hT X
  cases hv
  rw [h0] at hz hk
  have hc : (ws ++ [c0])[ws.length]? = some c0 := by rw [List.getElem?_append_right (Nat.le_refl _), Nat.sub_self]; rfl
  have hF : ∀ q, va_A [c0] H.size q → A0 q := fun q hq => by
    rcases hq with ⟨k', e', h'⟩ | h'
    · match k', h' with
      | 0, h' => have e0 := Option.some.inj h'; have h9 := hD.2 ws.length c0 hc; rw [e0] at h9; exact h9
    · exact hA _ (Nat.le_trans hS.1 h')
  obtain ⟨k1, k2⟩ := jx (H1 := T'.heap) hP hD hS.1 hA (fun q h1 h2 => by rw [e1]; exact hk q h1 h2) (by rw [e1]; exact hp) hd
  obtain ⟨t2, a1, b1⟩ := kk d T'.heap (locs ++ L) k1 k2
    ⟨Nat.le_trans hS.1 (by rw [e1]; exact hz), fun q h1 h2 => by rw [e1, hk q (Nat.lt_of_lt_of_le h1 hS.1) (fun z => h2 (hF q z))]; exact hS.2.1 q h1 h2, fun q hq => by
      rcases List.mem_append.mp hq with h | h
      · exact hS.2.2 q h
      · exact hF _ (hL q h)⟩ T' rfl X'
  exact ⟨t2, st t2 a1, b1⟩
section NRUN
variable {y : MethodName} {bytes : ByteArray} {maxL nL idx mc ms : Nat} {rm : Room} {own host : String} {b : Addr} {Qc : Array Value → State → Outcome → State → Prop} {free : Addr → Prop} {A : Nat → Prop}
theorem nrunI (S : CallFix p m c cc nL s args AW own) (hM : Met l y (Cond.code y bytes maxL none :: AW) rm (Pn [.ref b] D tys ws H.size) Qc mc ms free) (hy1 : y.name = "<init>")
    (h1 : Cond.methodLink own idx y ∈ AW) (h2 : Cond.instanceMethod y ∈ AW) (h4 : Cond.initialized y.cls ∈ AW) (h5 : Cond.code y bytes maxL none ∈ AW)
    (hd : y.cls ≠ "java/lang/invoke/MethodHandle" ∧ y.cls ≠ "java/lang/invoke/VarHandle" ∧ (parseMethodDescriptor y.desc).map (fun d => d.parameters.length) = some 0) (hrm : rm.cells = mc ∧ rm.slots = ms) (hR : rm.frames + 1 ≤ R.frames ∧ 8 + (maxL + 11) + rm.locals ≤ R.locals)
    (hK : va_K D vwCl tys s) (hP : va_P D vwCl ws H) (hD : va_D A ws) (hN : NW s) (hsize : ls.size = nL) (hst : st0 = .ref b :: rest) (hW : (rest.map fun v => v.category).sum ≤ 8) (hdg : decode cc pc = .ok (.invokespecial idx, 3)) (hf : cells + mc ≤ R.cells ∧ slots + ms ≤ R.slots) :
    va_Run p l e R s m args below meth c H locs cells slots mc ms (F0 m pc ls st0) rest (Qc [Value.ref b].toArray) free :=
  va_runI (As := []) S hM ⟨callB_of 0 S.2.2.2.2 (gAW h5) rfl hrm.1 hrm.2 (S.2.2.2.2 _ h4) (S.2.2.2.2 _ h1) hd hR, hy1, S.2.2.2.2 _ h2⟩ ⟨Pn.blind, Pn.pre hP hK hD hN⟩ rfl rfl hsize hst (lv_room hW) hdg hf
theorem nrunN (S : CallFix p m c cc nL s args AW own) (hM : Met l y (Cond.code y bytes maxL none :: AW) rm (Pn [.ref b] D tys ws H.size) Qc mc ms free) (hy1 : y.name = "<init>")
    (h1 : Cond.methodLinkNest own idx y host ∈ nN) (h2 : Cond.instanceMethod y ∈ AW) (h4 : Cond.initialized y.cls ∈ AW) (h5 : Cond.code y bytes maxL none ∈ AW)
    (hd : y.cls ≠ "java/lang/invoke/MethodHandle" ∧ y.cls ≠ "java/lang/invoke/VarHandle" ∧ (parseMethodDescriptor y.desc).map (fun d => d.parameters.length) = some 0) (hrm : rm.cells = mc ∧ rm.slots = ms) (hR : rm.frames + 1 ≤ R.frames ∧ 8 + (maxL + 11) + rm.locals ≤ R.locals)
    (hK : va_K D vwCl tys s) (hP : va_P D vwCl ws H) (hD : va_D A ws) (hN : NW s) (hsize : ls.size = nL) (hst : st0 = .ref b :: rest) (hW : (rest.map fun v => v.category).sum ≤ 8) (hdg : decode cc pc = .ok (.invokespecial idx, 3)) (hf : cells + mc ≤ R.cells ∧ slots + ms ≤ R.slots) :
    va_Run p l e R s m args below meth c H locs cells slots mc ms (F0 m pc ls st0) rest (Qc [Value.ref b].toArray) free :=
  va_runIN (As := []) S hM ⟨va_cnB 0 S.2.2.2.2 (gAW h5) rfl hrm.1 hrm.2 (hN.1 _ h1) (S.2.2.2.2 _ h4) hd hR, hy1, S.2.2.2.2 _ h2⟩ ⟨Pn.blind, Pn.pre hP hK hD hN⟩ rfl rfl hsize hst (lv_room hW) hdg hf
end NRUN
end NB
/-- an array of references by another function -/
theorem va_P.refs {D : va_G} {cl : List vw_C} {ws : va_W} {H : Heap} {k a n : Nat} {cA : ClassId} {f g : Nat → Option Nat} (hP : va_P D cl ws H) (hk : ws[k]? = some (a, .inl (cA, n, .inr (.inr (.inr (.inr f)))))) (h : ∀ j, j < n → f j = g j) : va_P D cl (ws.set k (a, .inl (cA, n, .inr (.inr (.inr (.inr g)))))) H := by
  intro j q hq
  by_cases hj : j = k
  · subst hj
    rw [List.getElem?_set_self (List.getElem?_eq_some_iff.mp hk).1] at hq
    cases hq
    have h1 := hP j _ hk
    show H[a]? = some (vp_cell _ _)
    have h2 : H[a]? = some (vp_cell cA (n, .inr (.inr (.inr (.inr f))))) := h1
    rw [h2, vp_cell_q, vp_cell_q]
    have e9 : arrV cA n (fun j => va_rf (f j)) = arrV cA n (fun j => va_rf (g j)) := by
      unfold arrV
      congr 2
      funext j
      show va_rf (f j.val) = va_rf (g j.val)
      rw [h j.val j.isLt]
    rw [e9]
  · rw [List.getElem?_set_ne (fun e => hj e.symm)] at hq
    exact hP j q hq

