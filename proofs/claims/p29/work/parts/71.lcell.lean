/-! the law's reading of its script -/
def clF (L : Nat) (xs : Nat → Int32) (k : Int32) : Int32 := if k < Int32.ofNat L then xs k.toNatClampNeg else 521288629 * (k + 137)
def Ps (av : List Value) (D : va_G) (tys : List (ClassId × FieldType)) (b L : Nat) (xs : Nat → Int32) : Array Value → State → Prop := fun v U => Pz av D tys [] v U ∧ va_X b L xs U U.heap
section PS
variable {p : Program} {l : Launch} {e : Env} {R : Room} {s : State} {m : MethodId} {args : Array Value} {below : List Frame} {meth : Method} {c : Code} {H : Heap} {locs : List Loc} {cells slots : Nat}
variable {pc : Nat} {ls : Array Slot} {rest st0 : List Value} {D : va_G} {tys : List (ClassId × FieldType)} {b L : Nat} {xs : Nat → Int32}
variable {y : MethodName} {bytes cc : ByteArray} {maxL nL n idx : Nat} {ret : Option FieldType} {rm : Room} {own : String} {As av : List Value}
theorem Ps.blind : FrameBlind (Ps av D tys b L xs) := fun a U g mk q => ⟨Pz.blind a U g mk q.1, va_X.moved (u := U) (U := U.calling g mk a) (Vm.Alike.refl U.vm) q.2⟩
theorem Ps.pre (hK : va_K D vwCl tys s) (hX : va_X b L xs s H) : ∀ U : State, U.heap = H → s.WarmedH U.vm → Ps av D tys b L xs av.toArray U :=
  fun U hU hW => ⟨Pz.pre (H := H) (A := fun _ => True) (fun _ _ h => by simp at h) hK D0 U hU hW, by rw [hU]; exact va_X.moved hW.alike hX⟩
theorem srunS {Qc : Array Value → State → Outcome → State → Prop} {free : Addr → Prop} {mc ms : Nat} (S : CallFix p m c cc nL s args AW own) (hM : Met l y (Cond.code y bytes maxL ret :: AW) rm (Ps As D tys b L xs) Qc mc ms free)
    (h1 : Cond.methodLink own idx y ∈ AW) (h2 : Cond.static y ∈ AW) (h4 : Cond.initialized y.cls ∈ AW) (h5 : Cond.code y bytes maxL ret ∈ AW)
    (hd : y.cls ≠ "java/lang/invoke/MethodHandle" ∧ y.cls ≠ "java/lang/invoke/VarHandle" ∧ (parseMethodDescriptor y.desc).map (fun d => d.parameters.length) = some n) (hrm : rm.cells = mc ∧ rm.slots = ms) (hR : rm.frames + 1 ≤ R.frames ∧ 8 + (maxL + 11) + rm.locals ≤ R.locals)
    (hK : va_K D vwCl tys s) (hX : va_X b L xs s H)
    (hn : As.length = n) (hsize : ls.size = nL) (hst : st0 = As.reverse ++ rest) (hW : (rest.map fun v => v.category).sum ≤ 8) (hdg : decode cc pc = .ok (.invokestatic idx, 3)) (hf : cells + mc ≤ R.cells ∧ slots + ms ≤ R.slots) :
    va_Run p l e R s m args below meth c H locs cells slots mc ms (F0 m pc ls st0) rest (Qc As.toArray) free :=
  va_runS S hM ⟨callB_of n S.2.2.2.2 (gAW h5) rfl hrm.1 hrm.2 (S.2.2.2.2 _ h4) (S.2.2.2.2 _ h1) hd hR, S.2.2.2.2 _ h2⟩ ⟨Ps.blind, Ps.pre hK hX⟩ rfl hn hsize hst (lv_room hW) hdg hf
theorem MetS {Qc : Array Value → State → Outcome → State → Prop} {free : Addr → Prop} {mc ms : Nat} (hy : plainFor y = true) (hlen : (lg_sl av).length ≤ maxL)
    (body : ∀ (p : Program) (e : Env) (s : State) (m : MethodId) (below : List Frame) (meth : Method) (c : Code) (ls : Array Slot), p.tables.exec = Jvm.exec → c.code = cc → meth.sig.returnType = ret → (∀ w ∈ AW, w.before av.toArray s = true) → s.vm.findClass y.cls = some m.cls → c.maxLocals = maxL → meth.locks = false → va_S (Aw []) s.heap s.heap [] → lv_has ls maxL (lv_args 0 av) → va_X b L xs s s.heap →
      W p l e rm s m av.toArray below meth c s.heap [] 0 0 (MQ below Qc av.toArray s mc ms free) (F0 m 0 ls [])) : Met l y (Cond.code y cc maxL ret :: AW) rm (Ps av D tys b L xs) Qc mc ms free := by
  refine Met.ofF (cc := cc) (maxL := maxL) (ret := ret) hy rfl ?_
  intro p e s m args below meth c s₁ B hml hv
  obtain ⟨⟨rfl, -, -, -⟩, hX⟩ := hv
  have hts := atoms_spec (ws := Cond.code y cc maxL ret :: AW) B.pre
  have hl := lv_entry av (n := maxL) hlen
  rw [lg_entry_eq]
  exact body p e s m below meth c _ B.exec B.bytes B.returns (fun w h => hts w (List.mem_cons_of_mem _ h)) (findClass_of_methodNamed B.named) hml B.notSynchronized va_S.rf hl hX
end PS
theorem aw_nil {b : Nat} : ¬ Aw [] b := fun h => by obtain ⟨k, e, h⟩ := h; simp at h
theorem hd_L_cell : yL_cell.cls ≠ "java/lang/invoke/MethodHandle" ∧ yL_cell.cls ≠ "java/lang/invoke/VarHandle" ∧ (parseMethodDescriptor yL_cell.desc).map (fun d => d.parameters.length) = some 2 := by decide +kernel
set_option maxRecDepth 100000 in
set_option maxHeartbeats 4000000 in
theorem m_L_cell (l : Launch) (D : va_G) (kA : Nat → Nat) (b L j : Nat) (xs : Nat → Int32) (hL : L ≤ 260) (hj : j < 1000) : Met l yL_cell (Cond.code yL_cell cL_cell 2 (some .int) :: AW) ({ frames := 0, cells := 0, slots := 0, locals := 0 } : Room) (Ps [.ref b, .int (nI j)] D (TY kA) b L xs) (pQ (some (.int (clF L xs (nI j))))) 0 0 (fun _ => False) := by
  refine MetS (by decide +kernel) (Nat.le_of_ble_eq_true rfl) ?_
  intro p e s m below meth c ls hx hb hrt hts hown hml hlk hS hl hX
  have hl : lv_has ls 2 [(0, .ref b), (1, .int (nI j))] := hl
  have hbl : b < s.heap.size := by obtain ⟨scr, h1, -⟩ := hX; exact (Array.getElem?_eq_some_iff.mp h1).1
  refine lv_iload_n hx hb dL_cell_0 rfl (lv_at hl 1 rfl) ?_
  refine lv_aload_n hx hb dL_cell_1 rfl (lv_at hl 0 rfl) ?_
  refine va_slen hx hb hX hbl aw_nil hS dL_cell_2 ?_
  refine lv_icmp_ge (tgt := 12) hx hb dL_cell_3 (by decide) (fun c_1 => ?_) (fun c_1 => ?_)
  · replace c_1 := ge_n c_1
    refine lv_ldc (v := 521288629) hx hb hown (hts _ q_192) dL_cell_12 ?_
    refine lv_iload_n hx hb dL_cell_14 rfl (lv_at hl 1 rfl) ?_
    refine lv_sipush (v := 137) hx hb dL_cell_15 (by decide) ?_
    refine lv_iadd hx hb dL_cell_18 ?_
    refine lv_imul hx hb dL_cell_19 ?_
    exact end_pi hx hb hrt hlk (by unfold clF; rw [if_neg c_1]) dL_cell_20
  · replace c_1 := nge_l c_1
    refine lv_aload_n hx hb dL_cell_6 rfl (lv_at hl 0 rfl) ?_
    refine lv_iload_n hx hb dL_cell_7 rfl (lv_at hl 1 rfl) ?_
    refine va_sld hx hb hX hbl aw_nil hS (in_nI rfl ((nI_ltI (by omega) (by omega)).mp c_1) (by omega)) dL_cell_8 ?_
    refine lv_goto (tgt := 20) hx hb dL_cell_9 (by decide) ?_
    exact end_pi hx hb hrt hlk (by unfold clF; rw [if_pos c_1]) dL_cell_20
