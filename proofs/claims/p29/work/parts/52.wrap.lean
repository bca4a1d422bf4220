def LW (s : State) : Prop := va_Nc eA eI s ∧ va_Nc eS eA s ∧ va_Nc eS eI s
def Pw (av : List Value) (D : va_G) (tys : List (ClassId × FieldType)) (ws : va_W) (A : Nat → Prop) : Array Value → State → Prop := fun v U => Pz av D tys ws v U ∧ XW A U U.heap ∧ LW U
theorem LW.moved {u U : State} (hvm : u.vm.Alike U.vm) (h : LW u) : LW U := ⟨va_Nc.moved hvm h.1, va_Nc.moved hvm h.2.1, va_Nc.moved hvm h.2.2⟩
section WB
variable {p : Program} {l : Launch} {e : Env} {R : Room} {s : State} {m : MethodId} {args : Array Value} {below : List Frame} {meth : Method} {c : Code} {H : Heap} {locs : List Loc} {cells slots : Nat} {Q : State → Prop}
variable {pc : Nat} {ls : Array Slot} {rest st0 : List Value} {a : Array Value} {A0 A : Nat → Prop} {H0 : Heap} {D : va_G} {tys : List (ClassId × FieldType)} {cc : ByteArray} {ws : va_W}
theorem Pw.blind {av : List Value} : FrameBlind (Pw av D tys ws A) := fun a U g mk q => ⟨Pz.blind a U g mk q.1, XW.warm (s := U) (U := U.calling g mk a) (State.WarmedH.refl U) q.2.1, LW.moved (u := U) (U := U.calling g mk a) (Vm.Alike.refl U.vm) q.2.2⟩
theorem Pw.pre {av : List Value} {A1 : Nat → Prop} (hP : va_P D vwCl ws H) (hK : va_K D vwCl tys s) (hD : va_D A1 ws) (hX : XW A s H) (hL : LW s) : ∀ U : State, U.heap = H → s.WarmedH U.vm → Pw av D tys ws A av.toArray U :=
  fun U hU hW => ⟨Pz.pre hP hK hD U hU hW, by rw [hU]; exact hX.warm hW, hL.moved hW.alike⟩
end WB
