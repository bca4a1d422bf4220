/-! the law's loop -/
set_option maxRecDepth 100000 in
set_option maxHeartbeats 4000000 in
theorem law_loop {p : Program} {l : Launch} {e : Env} {s : State} {m : MethodId} {below : List Frame} {meth : Method} {c : Code} {Q : State → Prop} {D : va_G} {kA ad : Nat → Nat} {m0 m1 m2 m3 m4 m5 o b L : Nat} {xs : Nat → Int32} (C0 : LC l p s m meth c D kA b L xs) (hL : L ≤ 2048)
    (hEnd : ∀ (H : Heap) (locs : List Loc) (ls : Array Slot) (cells slots : Nat), va_S (fun q => s.heap.size ≤ q) s.heap H locs → cells ≤ 601024 → slots ≤ 7293034 → W p l e room_1 s m #[Value.ref b] below meth c H locs cells slots Q (F0 m 1683 ls [])) :
    ∀ (n k i N cells slots : Nat) (X : Nat → Nat → Int32) (z h tx pt kp : Nat → Int32) (w n0 r : Nat) (th rd nu du : Int32) (hs : Int64) (f : Nat → Int64) (H : Heap) (locs : List Loc) (ls : Array Slot), n + k = 512 → i = 4 * k → N = 1000 * k → cells + n ≤ 601024 → slots + 6 * n ≤ 7293034 → REL X z h tx w n0 r N → va_P D vwCl (LWd kA ad m0 m1 m2 m3 m4 m5 o X z h tx pt kp w n0 th rd nu du hs f) H → va_D (fun q => s.heap.size ≤ q) (LWd kA ad m0 m1 m2 m3 m4 m5 o X z h tx pt kp w n0 th rd nu du hs f) → va_S (fun q => s.heap.size ≤ q) s.heap H locs → lv_has ls 9 (lB ad b m0 o i) →
      W p l e room_1 s m #[Value.ref b] below meth c H locs cells slots Q (F0 m 23 ls []) := by
  intro n
  induction n with
  | zero =>
    intro k i N cells slots X z h tx pt kp w n0 r th rd nu du hs f H locs ls hk hi4 hN4 hce hsl hR2 hP hD hS hl
    obtain ⟨hx, hb, hml, hown, hts, hK, hXb, hbl, hX0, hLW, hnt⟩ := id C0
    have hl : lv_has ls 9 [(0, .ref b), (1, .ref (ad 0)), (2, .ref m0), (3, .ref o), (4, .int (nI i))] := hl
    refine lv_iload hx hb dL_law_23 (lv_at hl 4 rfl) ?_
    refine lv_aload_n hx hb dL_law_25 rfl (lv_at hl 0 rfl) ?_
    refine va_slen hx hb hXb hbl (Nat.not_le.mpr hbl) hS dL_law_26 ?_
    refine lv_iconst (v := 4) hx hb dL_law_27 (by decide) ?_
    refine lv_isub hx hb dL_law_28 ?_
    refine W_top (v' := .int (nI L - nI 4)) rfl ?_
    refine lv_icmp_gt (tgt := 1683) hx hb dL_law_29 (by decide) (fun c9 => ?_) (fun c9 => absurd (by rw [Int32.lt_iff_toInt_lt, pk_sub_toInt (by omega) (by omega), nI_toInt (by omega)]; omega) c9)
    exact hEnd H locs ls cells slots hS (by omega) (by omega)
  | succ n ih =>
    intro k i N cells slots X z h tx pt kp w n0 r th rd nu du hs f H locs ls hk hi4 hN4 hce hsl hR2 hP hD hS hl
    obtain ⟨hx, hb, hml, hown, hts, hK, hXb, hbl, hX0, hLW, hnt⟩ := id C0
    have hl9 : lv_has ls 9 [(0, .ref b), (1, .ref (ad 0)), (2, .ref m0), (3, .ref o), (4, .int (nI i))] := hl
    have K : KT p l e s m below meth c Q D kA ad m0 m1 m2 m3 m4 m5 o b i (N + 1000) (cells + 1) (slots + 6) := by
      intro X z h tx pt kp w n0 r th rd nu du hs f H locs ls hR2 hP hD hS hl
      have hl : lv_has ls 9 [(0, .ref b), (1, .ref (ad 0)), (2, .ref m0), (3, .ref o), (4, .int (nI i))] := hl
      refine lv_iinc (k := 4) (v := nI (i + 4)) (lv' := [(4, .int (nI (i + 4))), (0, .ref b), (1, .ref (ad 0)), (2, .ref m0), (3, .ref o)]) hx hb dL_law_1677 hl rfl (nI_add i 4) (by decide) rfl (fun ls hl => ?_)
      refine lv_goto (tgt := 23) hx hb dL_law_1680 (by decide) ?_
      exact ih (k + 1) (i + 4) (N + 1000) (cells + 1) (slots + 6) X z h tx pt kp w n0 r th rd nu du hs f H locs ls (by omega) (by omega) (by omega) (by omega) (by omega) hR2 hP hD hS (lv_sub hl [1, 2, 3, 4, 0] rfl)
    refine lv_iload hx hb dL_law_23 (lv_at hl9 4 rfl) ?_
    refine lv_aload_n hx hb dL_law_25 rfl (lv_at hl9 0 rfl) ?_
    refine va_slen hx hb hXb hbl (Nat.not_le.mpr hbl) hS dL_law_26 ?_
    refine lv_iconst (v := 4) hx hb dL_law_27 (by decide) ?_
    refine lv_isub hx hb dL_law_28 ?_
    refine W_top (v' := .int (nI L - nI 4)) rfl ?_
    refine lv_icmp_gt (tgt := 1683) hx hb dL_law_29 (by decide) (fun c9 => ?_) (fun c9 => ?_)
    · exact hEnd H locs ls cells slots hS (by omega) (by omega)
    rw [Int32.lt_iff_toInt_lt, pk_sub_toInt (by omega) (by omega), nI_toInt (by omega)] at c9
    have hiL : i + 4 ≤ L := by omega
    refine lv_aload_n hx hb dL_law_32 rfl (lv_at hl9 0 rfl) ?_
    refine lv_iload hx hb dL_law_33 (lv_at hl9 4 rfl) ?_
    refine va_sld hx hb hXb hbl (Nat.not_le.mpr hbl) hS (in_nI (j := i) rfl (by omega) (by omega)) dL_law_35 ?_
    refine lv_bipush (v := 31) hx hb dL_law_36 (by decide) ?_
    refine lv_iand hx hb dL_law_38 ?_
    obtain ⟨x, hx9⟩ : ∃ y, xs (nI i).toNatClampNeg &&& 31 = y := ⟨_, rfl⟩
    refine W_top (v' := .int x) (congrArg Value.int hx9) ?_
    have hroom : cells + 1 ≤ 601024 ∧ slots + 6 ≤ 7293034 := ⟨by omega, by omega⟩
    have hN9 : N + 1000 ≤ 600000 := by omega
    by_cases c_0 : x = 0
    · refine lv_tableIn (off := 117) (tgt := 156) hx hb dL_law_39 (by rw [c_0]; decide) (by rw [c_0]; decide) (by rw [c_0]; decide +kernel) (by decide) ?_
      exact k_earn C0 hR2 hN9 hiL hL hP hD hS hl hroom K
    by_cases c_1 : x = 1
    · refine lv_tableIn (off := 173) (tgt := 212) hx hb dL_law_39 (by rw [c_1]; decide) (by rw [c_1]; decide) (by rw [c_1]; decide +kernel) (by decide) ?_
      exact k_load C0 hR2 hN9 hiL hL hP hD hS hl hroom K
    by_cases c_2 : x = 2
    · refine lv_tableIn (off := 241) (tgt := 280) hx hb dL_law_39 (by rw [c_2]; decide) (by rw [c_2]; decide) (by rw [c_2]; decide +kernel) (by decide) ?_
      exact k_set C0 hR2 hN9 hiL hL hP hD hS hl hroom K
    by_cases c_3 : x = 3
    · refine lv_tableIn (off := 309) (tgt := 348) hx hb dL_law_39 (by rw [c_3]; decide) (by rw [c_3]; decide) (by rw [c_3]; decide +kernel) (by decide) ?_
      exact k_step C0 hR2 hN9 hiL hL hP hD hS hl hroom K
    by_cases c_4 : x = 4
    · refine lv_tableIn (off := 377) (tgt := 416) hx hb dL_law_39 (by rw [c_4]; decide) (by rw [c_4]; decide) (by rw [c_4]; decide +kernel) (by decide) ?_
      exact k_go C0 hR2 hN9 hiL hL hP hD hS hl hroom K
    by_cases c_5 : x = 5
    · refine lv_tableIn (off := 445) (tgt := 484) hx hb dL_law_39 (by rw [c_5]; decide) (by rw [c_5]; decide) (by rw [c_5]; decide +kernel) (by decide) ?_
      exact k_home C0 hR2 hN9 hiL hL hP hD hS hl hroom K
    by_cases c_6 : x = 6
    · refine lv_tableIn (off := 501) (tgt := 540) hx hb dL_law_39 (by rw [c_6]; decide) (by rw [c_6]; decide) (by rw [c_6]; decide +kernel) (by decide) ?_
      exact k_grease C0 hR2 hN9 hiL hL hP hD hS hl hroom K
    by_cases c_7 : x = 7
    · refine lv_tableIn (off := 557) (tgt := 596) hx hb dL_law_39 (by rw [c_7]; decide) (by rw [c_7]; decide) (by rw [c_7]; decide +kernel) (by decide) ?_
      exact k_mend C0 hR2 hN9 hiL hL hP hD hS hl hroom K
    by_cases c_8 : x = 8
    · refine lv_tableIn (off := 625) (tgt := 664) hx hb dL_law_39 (by rw [c_8]; decide) (by rw [c_8]; decide) (by rw [c_8]; decide +kernel) (by decide) ?_
      exact k_append C0 hR2 hN9 hiL hL hP hD hS hl hroom K
    by_cases c_9 : x = 9
    · refine lv_tableIn (off := 681) (tgt := 720) hx hb dL_law_39 (by rw [c_9]; decide) (by rw [c_9]; decide) (by rw [c_9]; decide +kernel) (by decide) ?_
      exact k_clearBuffer C0 hR2 hN9 hiL hL hP hD hS hl hroom K
    by_cases c_10 : x = 10
    · refine lv_tableIn (off := 694) (tgt := 733) hx hb dL_law_39 (by rw [c_10]; decide) (by rw [c_10]; decide) (by rw [c_10]; decide +kernel) (by decide) ?_
      exact k_firstError C0 hR2 hN9 hiL hL hP hD hS hl hroom K
    by_cases c_11 : x = 11
    · refine lv_tableIn (off := 707) (tgt := 746) hx hb dL_law_39 (by rw [c_11]; decide) (by rw [c_11]; decide) (by rw [c_11]; decide +kernel) (by decide) ?_
      exact k_run C0 hR2 hN9 hiL hL hP hD hS hl hroom K
    by_cases c_12 : x = 12
    · refine lv_tableIn (off := 751) (tgt := 790) hx hb dL_law_39 (by rw [c_12]; decide) (by rw [c_12]; decide) (by rw [c_12]; decide +kernel) (by decide) ?_
      exact k_undo C0 hR2 hN9 hiL hL hP hD hS hl hroom K
    by_cases c_13 : x = 13
    · refine lv_tableIn (off := 795) (tgt := 834) hx hb dL_law_39 (by rw [c_13]; decide) (by rw [c_13]; decide) (by rw [c_13]; decide +kernel) (by decide) ?_
      exact k_axis C0 hR2 hN9 hiL hL hP hD hS hl hroom K
    by_cases c_14 : x = 14
    · refine lv_tableIn (off := 863) (tgt := 902) hx hb dL_law_39 (by rw [c_14]; decide) (by rw [c_14]; decide) (by rw [c_14]; decide +kernel) (by decide) ?_
      exact k_wear C0 hR2 hN9 hiL hL hP hD hS hl hroom K
    by_cases c_15 : x = 15
    · refine lv_tableIn (off := 931) (tgt := 970) hx hb dL_law_39 (by rw [c_15]; decide) (by rw [c_15]; decide) (by rw [c_15]; decide +kernel) (by decide) ?_
      exact k_count C0 hR2 hN9 hiL hL hP hD hS hl hroom K
    by_cases c_16 : x = 16
    · refine lv_tableIn (off := 987) (tgt := 1026) hx hb dL_law_39 (by rw [c_16]; decide) (by rw [c_16]; decide) (by rw [c_16]; decide +kernel) (by decide) ?_
      exact k_setting C0 hR2 hN9 hiL hL hP hD hS hl hroom K
    by_cases c_17 : x = 17
    · refine lv_tableIn (off := 1043) (tgt := 1082) hx hb dL_law_39 (by rw [c_17]; decide) (by rw [c_17]; decide) (by rw [c_17]; decide +kernel) (by decide) ?_
      exact k_toll C0 hR2 hN9 hiL hL hP hD hS hl hroom K
    by_cases c_18 : x = 18
    · refine lv_tableIn (off := 1127) (tgt := 1166) hx hb dL_law_39 (by rw [c_18]; decide) (by rw [c_18]; decide) (by rw [c_18]; decide +kernel) (by decide) ?_
      exact k_slips C0 hR2 hN9 hiL hL hP hD hS hl hroom K
    by_cases c_19 : x = 19
    · refine lv_tableIn (off := 1211) (tgt := 1250) hx hb dL_law_39 (by rw [c_19]; decide) (by rw [c_19]; decide) (by rw [c_19]; decide +kernel) (by decide) ?_
      exact k_cost C0 hR2 hN9 hiL hL hP hD hS hl hroom K
    by_cases c_20 : x = 20
    · refine lv_tableIn (off := 1307) (tgt := 1346) hx hb dL_law_39 (by rw [c_20]; decide) (by rw [c_20]; decide) (by rw [c_20]; decide +kernel) (by decide) ?_
      exact k_ifHomed C0 hR2 hN9 hiL hL hP hD hS hl hroom K
    by_cases c_21 : x = 21
    · refine lv_tableIn (off := 1375) (tgt := 1414) hx hb dL_law_39 (by rw [c_21]; decide) (by rw [c_21]; decide) (by rw [c_21]; decide +kernel) (by decide) ?_
      exact k_reach C0 hR2 hN9 hiL hL hP hD hS hl hroom K
    by_cases c_22 : x = 22
    · refine lv_tableIn (off := 1459) (tgt := 1498) hx hb dL_law_39 (by rw [c_22]; decide) (by rw [c_22]; decide) (by rw [c_22]; decide +kernel) (by decide) ?_
      exact k_couldBe C0 hR2 hN9 hiL hL hP hD hS hl hroom K
    by_cases c_23 : x = 23
    · refine lv_tableIn (off := 1515) (tgt := 1554) hx hb dL_law_39 (by rw [c_23]; decide) (by rw [c_23]; decide) (by rw [c_23]; decide +kernel) (by decide) ?_
      exact k_worst C0 hR2 hN9 hiL hL hP hD hS hl hroom K
    by_cases c_24 : x = 24
    · refine lv_tableIn (off := 1583) (tgt := 1622) hx hb dL_law_39 (by rw [c_24]; decide) (by rw [c_24]; decide) (by rw [c_24]; decide +kernel) (by decide) ?_
      exact k_meanToll C0 hR2 hN9 hiL hL hP hD hS hl hroom K
    by_cases c_25 : x = 25
    · refine lv_tableIn (off := 1624) (tgt := 1663) hx hb dL_law_39 (by rw [c_25]; decide) (by rw [c_25]; decide) (by rw [c_25]; decide +kernel) (by decide) ?_
      exact k_digest C0 hR2 hN9 hiL hL hP hD hS hl hroom K
    refine lv_tableOut (tgt := 1677) hx hb dL_law_39 (sw_out 0 25 (by
      intro k h1 h2
      rcases (show k = 0 ∨ k = 1 ∨ k = 2 ∨ k = 3 ∨ k = 4 ∨ k = 5 ∨ k = 6 ∨ k = 7 ∨ k = 8 ∨ k = 9 ∨ k = 10 ∨ k = 11 ∨ k = 12 ∨ k = 13 ∨ k = 14 ∨ k = 15 ∨ k = 16 ∨ k = 17 ∨ k = 18 ∨ k = 19 ∨ k = 20 ∨ k = 21 ∨ k = 22 ∨ k = 23 ∨ k = 24 ∨ k = 25 by omega) with rfl | rfl | rfl | rfl | rfl | rfl | rfl | rfl | rfl | rfl | rfl | rfl | rfl | rfl | rfl | rfl | rfl | rfl | rfl | rfl | rfl | rfl | rfl | rfl | rfl | rfl
      · exact lv_neT c_0 (by decide)
      · exact lv_neT c_1 (by decide)
      · exact lv_neT c_2 (by decide)
      · exact lv_neT c_3 (by decide)
      · exact lv_neT c_4 (by decide)
      · exact lv_neT c_5 (by decide)
      · exact lv_neT c_6 (by decide)
      · exact lv_neT c_7 (by decide)
      · exact lv_neT c_8 (by decide)
      · exact lv_neT c_9 (by decide)
      · exact lv_neT c_10 (by decide)
      · exact lv_neT c_11 (by decide)
      · exact lv_neT c_12 (by decide)
      · exact lv_neT c_13 (by decide)
      · exact lv_neT c_14 (by decide)
      · exact lv_neT c_15 (by decide)
      · exact lv_neT c_16 (by decide)
      · exact lv_neT c_17 (by decide)
      · exact lv_neT c_18 (by decide)
      · exact lv_neT c_19 (by decide)
      · exact lv_neT c_20 (by decide)
      · exact lv_neT c_21 (by decide)
      · exact lv_neT c_22 (by decide)
      · exact lv_neT c_23 (by decide)
      · exact lv_neT c_24 (by decide)
      · exact lv_neT c_25 (by decide))) (by decide) ?_
    refine W.widen (k := cells + 1) (n := slots + 6) (Nat.le_succ _) (Nat.le_add_right _ _) ?_
    exact K _ _ _ _ _ _ _ _ _ _ _ _ _ _ _ _ _ _ (rel_mono hR2 (by omega)) hP hD hS hl
