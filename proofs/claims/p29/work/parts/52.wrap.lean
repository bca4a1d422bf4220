def LW (s : State) : Prop := va_Nc eA eI s ∧ va_Nc eS eA s ∧ va_Nc eS eI s
def Pw (av : List Value) (D : va_G) (tys : List (ClassId × FieldType)) (ws : va_W) (A : Nat → Prop) : Array Value → State → Prop := fun v U => Pz av D tys ws v U ∧ XW A U U.heap ∧ LW U
theorem LW.moved {u U : State} (hvm : u.vm.Alike U.vm) (h : LW u) : LW U := ⟨va_Nc.moved hvm h.1, va_Nc.moved hvm h.2.1, va_Nc.moved hvm h.2.2⟩
section WB
variable {p : Program} {l : Launch} {e : Env} {R : Room} {s : State} {m : MethodId} {args : Array Value} {below : List Frame} {meth : Method} {c : Code} {H : Heap} {locs : List Loc} {cells slots : Nat} {Q : State → Prop}
variable {pc : Nat} {ls : Array Slot} {rest st0 : List Value} {a : Array Value} {A0 A : Nat → Prop} {H0 : Heap} {D : va_G} {tys : List (ClassId × FieldType)} {cc : ByteArray} {ws : va_W}
theorem Pw.blind {av : List Value} : FrameBlind (Pw av D tys ws A) := fun a U g mk q => ⟨Pz.blind a U g mk q.1, XW.warm (s := U) (U := U.calling g mk a) (State.WarmedH.refl U) q.2.1, LW.moved (u := U) (U := U.calling g mk a) (Vm.Alike.refl U.vm) q.2.2⟩
theorem Pw.pre {av : List Value} {A1 : Nat → Prop} (hP : va_P D vwCl ws H) (hK : va_K D vwCl tys s) (hD : va_D A1 ws) (hX : XW A s H) (hL : LW s) : ∀ U : State, U.heap = H → s.WarmedH U.vm → Pw av D tys ws A av.toArray U :=
  fun U hU hW => ⟨Pz.pre hP hK hD U hU hW, by rw [hU]; exact hX.warm hW, hL.moved hW.alike⟩
theorem va_D.lf {a b : va_W} (h : va_D A (a ++ b)) : va_D A a := by
  have hi : ∀ {k : Nat} {q : Nat × va_E}, a[k]? = some q → (a ++ b)[k]? = some q := fun {k q} h => by rw [List.getElem?_append_left (List.getElem?_eq_some_iff.mp h).1]; exact h
  exact ⟨fun i j x y hx hy hxy => h.1 i j x y (hi hx) (hi hy) hxy, fun k q hq => h.2 k q (hi hq)⟩
theorem va_D.rt {a b : va_W} (h : va_D A (a ++ b)) : va_D A b := by
  have hi : ∀ {k : Nat} {q : Nat × va_E}, b[k]? = some q → (a ++ b)[a.length + k]? = some q := fun {k q} h => by rw [List.getElem?_append_right (Nat.le_add_right _ _), Nat.add_sub_cancel_left]; exact h
  exact ⟨fun i j x y hx hy hxy => by have := h.1 _ _ x y (hi hx) (hi hy) hxy; omega, fun k q hq => h.2 _ q (hi hq)⟩
theorem va_D.ne {a b : va_W} (h : va_D A (a ++ b)) {i j : Nat} {x y : Nat × va_E} (hx : a[i]? = some x) (hy : b[j]? = some y) : x.1 ≠ y.1 := fun hxy => by
  have hl := (List.getElem?_eq_some_iff.mp hx).1
  have := h.1 i (a.length + j) x y (by rw [List.getElem?_append_left hl]; exact hx) (by rw [List.getElem?_append_right (Nat.le_add_right _ _), Nat.add_sub_cancel_left]; exact hy) hxy
  omega
/-- the second part of a world was called, the first stays -/
theorem jR {cl : List vw_C} {a b b' : va_W} {H1 : Heap} (hP : va_P D cl (a ++ b) H) (hD : va_D A0 (a ++ b)) (hk : ∀ q : Nat, q < H.size → ¬ Aw b q → H1[q]? = H[q]?) (hP1 : va_P D cl b' H1) (hf : b'.map (fun q => q.1) = b.map (fun q => q.1)) : va_P D cl (a ++ b') H1 ∧ va_D A0 (a ++ b') := by
  refine ⟨va_P.app (fun k q hq => (hP.l k q hq).kept (hk q.1 ((hP.l k q hq).lt) (fun ⟨j, e9, hj⟩ => hD.ne hq hj rfl))) hP1, hD.congr (by rw [List.map_append, List.map_append, hf])⟩
theorem jL {cl : List vw_C} {a a' b : va_W} {H1 : Heap} (hP : va_P D cl (a ++ b) H) (hD : va_D A0 (a ++ b)) (hk : ∀ q : Nat, q < H.size → ¬ Aw a q → H1[q]? = H[q]?) (hP1 : va_P D cl a' H1) (hf : a'.map (fun q => q.1) = a.map (fun q => q.1)) : va_P D cl (a' ++ b) H1 ∧ va_D A0 (a' ++ b) := by
  refine ⟨va_P.app hP1 (fun k q hq => (hP.r k q hq).kept (hk q.1 ((hP.r k q hq).lt) (fun ⟨j, e9, hj⟩ => hD.ne hj hq rfl))), hD.congr (by rw [List.map_append, List.map_append, hf])⟩
theorem Aw.lf {a b : va_W} : ∀ q, Aw a q → Aw (a ++ b) q := fun q ⟨k, e9, h⟩ => ⟨k, e9, by rw [List.getElem?_append_left (List.getElem?_eq_some_iff.mp h).1]; exact h⟩
theorem Aw.rt {a b : va_W} : ∀ q, Aw b q → Aw (a ++ b) q := fun q ⟨k, e9, h⟩ => ⟨a.length + k, e9, by rw [List.getElem?_append_right (Nat.le_add_right _ _), Nat.add_sub_cancel_left]; exact h⟩
end WB
