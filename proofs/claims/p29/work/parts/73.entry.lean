/-! what holds at the law's entry -/
section ENTRY
variable {s : State} {args : Array Value}
theorem st_Kc (hts : ∀ w ∈ AW, w.before args s = true) : ∃ D : va_G, ∀ (c : Nat) (q : vw_C), vwCl[c]? = some q → u_Kn s q.1 q.2.1 q.2.2 (D.1 c) (D.2 c) := by
  obtain ⟨c0, i0, h0⟩ := u_known (C := RX0) (T := TX0) (N := 12) (n := 12) hts inX0 (hts _ q_63)
  obtain ⟨c1, i1, h1⟩ := u_known (C := RX1) (T := TX1) (N := 3) (n := 3) hts inX1 (hts _ q_130)
  obtain ⟨c2, i2, h2⟩ := u_known (C := RX2) (T := TX2) (N := 4) (n := 4) hts inX2 (hts (.instantiable RX2 4) (List.mem_filter.mpr ⟨by decide +kernel, by decide +kernel⟩))
  obtain ⟨c3, i3, h3⟩ := u_known (C := RX3) (T := TX3) (N := 6) (n := 6) hts inX3 (hts _ q_30)
  obtain ⟨c4, i4, h4⟩ := u_known (C := RX4) (T := TX4) (N := 4) (n := 4) hts inX4 (hts _ q_24)
  obtain ⟨c5, i5, h5⟩ := u_known (C := RX5) (T := TX5) (N := 6) (n := 6) hts inX5 (hts _ q_16)
  refine ⟨(fun k => if k = 0 then c0 else if k = 1 then c1 else if k = 2 then c2 else if k = 3 then c3 else if k = 4 then c4 else c5, fun k => if k = 0 then i0 else if k = 1 then i1 else if k = 2 then i2 else if k = 3 then i3 else if k = 4 then i4 else i5), ?_⟩
  intro k q hq
  match k, hq with
  | 0, hq => cases hq; exact h0
  | 1, hq => cases hq; exact h1
  | 2, hq => cases hq; exact h2
  | 3, hq => cases hq; exact h3
  | 4, hq => cases hq; exact h4
  | 5, hq => cases hq; exact h5
  | k + 6, hq => simp at hq
theorem st_ar {ty : FieldType} (h : (Cond.arrayClass ty).before args s = true) (hp : ∀ c : ClassId, va_RA s c ty = (s.vm.findClass ("[" ++ ty.toString) = some c)) : ∃ c : ClassId, ArrOfT s c ty ∧ va_RA s c ty := by
  obtain ⟨c, k, comp, h1, h2, h3⟩ := Cond.arrayClass_spec h
  exact ⟨c, fun n z => ⟨fun k h => (by cases h), k, h2, comp, h3⟩, by rw [hp]; exact h1⟩
theorem st_ao {C : String} (h : (Cond.arrayOver (.object C)).before args s = true) : ∃ c : ClassId, ArrOfT s c (.object C) ∧ va_RA s c (.object C) := by
  obtain ⟨comp, c, k, h1, h2, h3, h4, h5⟩ := Cond.arrayOver_spec h
  exact ⟨c, fun n z => ⟨fun k h => (by cases h), k, h3, comp, h4⟩, k, comp, h3, h4, h1, h5⟩
def nd2 : List Cond := [.arrayClass .int, .arrayOver (.object "ArmTolls$Gear"), .arrayOver (.object "ArmTolls$State"), .laysStatic Bundle.tN "UNASSIGNED_STACK" Bundle.steD, .laysStatic Bundle.tN "SUPPRESSED_SENTINEL" Bundle.listD, .laysStatic RX5 "LEAST_OF_SETTING" "[I", .laysStatic RX5 "MOST_OF_SETTING" "[I", .initialized Bundle.tN, .initialized RX5]
theorem nd2_in : ∀ w ∈ nd2 ++ (nN ++ xN), w ∈ lw_tbl := by decide +kernel
theorem xS_in : ∀ w ∈ xS.map (fun q => Cond.stringRef RX5 q.1 q.2), w ∈ lw_tbl := by decide +kernel
theorem nd2_at {w : Cond} (hts : ∀ w ∈ lw_tbl, w.before args s = true) (k : Nat) (h : nd2[k]? = some w) : w.before args s = true := hts w (nd2_in w (List.mem_append_left _ (List.mem_of_getElem? h)))
theorem st_K (hts : ∀ w ∈ lw_tbl, w.before args s = true) : ∃ (D : va_G) (kA : Nat → Nat), va_K D vwCl (TY kA) s := by
  obtain ⟨D, hD⟩ := st_Kc (args := args) (s := s) (fun w hw => hts w (List.mem_filter.mp hw).1)
  obtain ⟨a0, h0⟩ := st_ar (nd2_at hts 0 rfl) (fun _ => rfl)
  obtain ⟨a1, h1⟩ := st_ao (nd2_at hts 1 rfl)
  obtain ⟨a2, h2⟩ := st_ao (nd2_at hts 2 rfl)
  refine ⟨D, fun k => if k = 0 then a0 else if k = 1 then a1 else a2, hD, ?_⟩
  intro k q hq
  match k, hq with
  | 0, hq => cases hq; exact h0
  | 1, hq => cases hq; exact h1
  | 2, hq => cases hq; exact h2
  | k + 3, hq => simp at hq
theorem st_N (hts : ∀ w ∈ lw_tbl, w.before args s = true) : NW s :=
  ⟨fun w hw => va_Nw.of (List.all_eq_true.mp (by decide +kernel : nN.all (fun w => w.onTables) = true) w hw) (hts w (nd2_in w (List.mem_append_right _ (List.mem_append_left _ hw)))), va_AO.of (nd2_at hts 1 rfl), va_AO.of (nd2_at hts 2 rfl)⟩
/-- the words of the start that the proof asks for -/
def nd1 : List Cond := [.isRef (.static Bundle.tN "UNASSIGNED_STACK" Bundle.steD), .isRef (.static Bundle.tN "SUPPRESSED_SENTINEL" Bundle.listD)] ++ ([("LEAST_OF_SETTING", leS), ("MOST_OF_SETTING", moS)].map fun q => [.arrayOf (.static RX5 q.1 "[I") .int, .eq (.length (.static RX5 q.1 "[I")) (.int 6)] ++ (List.range 6).map fun j => .eq (.elem (.static RX5 q.1 "[I") (.int (Int32.ofNat j))) (.int (q.2 j))).flatten
theorem st_T {n : String} {f : Nat → Int32} {A : Nat → Prop} (h1 : (Cond.laysStatic RX5 n "[I").before args s = true) (h2 : (Cond.initialized RX5).before args s = true) (h3 : ∀ w ∈ ([.arrayOf (.static RX5 n "[I") .int, .eq (.length (.static RX5 n "[I")) (.int 6)] ++ (List.range 6).map fun j => .eq (.elem (.static RX5 n "[I") (.int (Int32.ofNat j))) (.int (f j)) : List Cond), w.before args s = true) (hA : ∀ a : Nat, a < s.heap.size → ¬ A a) : XT n f A s s.heap := by
  obtain ⟨t, e1, e2⟩ := va_Tof (tm := .static RX5 n "[I") (ty := .int) (N := 6) (f := fun j => .int (f j)) (A := A) (by decide) (h3 _ (List.mem_of_getElem? (i := 0) rfl)) (va_eqt (h3 _ (List.mem_of_getElem? (i := 1) rfl)))
    (fun j hj => va_eqt (h3 _ (List.mem_append_right _ (List.mem_map.mpr ⟨j, List.mem_range.mpr hj, rfl⟩)))) hA
  exact ⟨t, va_Zof h1 h2 e1 hA, e2⟩
theorem st_X {A : Nat → Prop} (hts : ∀ w ∈ lw_tbl, w.before args s = true) (h1 : ∀ w ∈ nd1, w.before args s = true) (hA : ∀ a : Nat, a < s.heap.size → ¬ A a) : XW A s s.heap := by
  refine ⟨vx_Zqof (nd2_at hts 3 rfl) (nd2_at hts 7 rfl) (h1 _ (List.mem_of_getElem? (i := 0) rfl)) hA, vx_Zqof (nd2_at hts 4 rfl) (nd2_at hts 7 rfl) (h1 _ (List.mem_of_getElem? (i := 1) rfl)) hA, fun w hw => va_Nw.of (List.all_eq_true.mp (by decide +kernel : xN.all (fun w => w.onTables) = true) w hw) (hts w (nd2_in w (List.mem_append_right _ (List.mem_append_right _ hw)))), fun q hq => ?_, ?_, ?_⟩
  · have h9 := hts _ (xS_in _ (List.mem_map.mpr ⟨q, hq, rfl⟩))
    obtain ⟨cC, kC, hfc, -⟩ := Cond.instantiable_spec (hts _ (List.mem_filter.mp q_16).1)
    obtain ⟨k, cf, i, a, -, -, -, -, -, he⟩ := Cond.stringRef_spec hfc h9
    exact ⟨a, vk_R.of h9 he⟩
  · exact st_T (nd2_at hts 5 rfl) (nd2_at hts 8 rfl) (fun w hw => h1 w (List.mem_append_right _ (List.mem_append_left _ hw))) hA
  · exact st_T (nd2_at hts 6 rfl) (nd2_at hts 8 rfl) (fun w hw => h1 w (List.mem_append_right _ (List.mem_append_right _ (List.mem_append_left _ hw)))) hA
theorem nd1_in : ∀ w ∈ nd1, w ∈ flatC (Jvm.Cond.and given_1 narrow_1) := by decide +kernel
theorem nd1_of (h : (Jvm.Cond.and given_1 narrow_1).before args s = true) : ∀ w ∈ nd1, w.before args s = true := fun w hw => flat_of_before _ h w (nd1_in w hw)
end ENTRY
theorem sl_zI {a i : Nat} (ha : a < 4) : sl zI a i = 0 := by
  unfold sl zI rI
  split
  · rw [if_neg (by omega), if_neg (by omega), if_neg (by omega), if_neg (by omega), if_neg (by omega), if_neg (by omega), if_neg (by omega)]
  · rfl
theorem st_RQ : RQx XI 0 1000 := ⟨0, 0, ⟨⟨⟨3, by omega, rfl⟩, ⟨10, by omega, by omega, rfl⟩, ⟨40, by omega, by omega, rfl⟩, ⟨1, by omega, rfl⟩, ⟨12, by omega, rfl⟩, ⟨15, by omega, rfl⟩, ⟨1000, by omega, rfl⟩⟩, fun a ha => ⟨⟨0, by omega, sl_zI ha⟩, ⟨0, by omega, sl_zI ha⟩, ⟨0, by omega, sl_zI ha⟩, Or.inl (sl_zI ha), ⟨0, by omega, sl_zI ha⟩, ⟨0, by omega, sl_zI ha⟩, fun t ht => ⟨0, by omega, sl_zI ha⟩⟩⟩, fun a ha => ⟨0, 0, 0, sl_zI ha, sl_zI ha, sl_zI ha, by omega, by omega, by omega, by omega⟩, ⟨1000, by omega, rfl⟩, by omega, rfl, by omega, rfl⟩
