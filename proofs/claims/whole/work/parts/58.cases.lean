/-! the law's cases: a call of both sides, and their answers compared -/
abbrev mL (kA : Nat → Nat) (m0 m1 m2 m3 m4 m5 : Nat) (z h tx pt kp : Nat → Int32) (st len th wo rd nu du : Int32) (hs : Int64) : va_W := [(m0, .inr (6, [.ref m1, .int st, .ref m2, .int len, .ref m3, .int th, .int wo, .ref m4, .int rd, .int nu, .int du, .ref m5, .long hs])), (m1, .inl (kA 0, 148, .inl z)), (m2, .inl (kA 0, 888, .inl h)), (m3, .inl (kA 0, 60, .inl tx)), (m4, .inl (kA 0, 72, .inl pt)), (m5, .inl (kA 0, 148, .inl kp))]
abbrev LWd (kA ad : Nat → Nat) (m0 m1 m2 m3 m4 m5 o : Nat) (X : Nat → Nat → Int32) (z h tx pt kp : Nat → Int32) (w n0 : Nat) (th rd nu du : Int32) (hs : Int64) (f : Nat → Int64) : va_W := mL kA m0 m1 m2 m3 m4 m5 z h tx pt kp (nI w) (nI n0) th (-1) rd nu du hs ++ ([(o, oO kA f)] ++ cw kA ad X)
def LC (l : Launch) (p : Program) (s : State) (m : MethodId) (meth : Method) (c : Code) (D : va_G) (kA : Nat → Nat) (b L : Nat) (xs : Nat → Int32) : Prop :=
  p.tables.exec = Jvm.exec ∧ c.code = cL_law ∧ c.maxLocals = 9 ∧ s.vm.findClass RL = some m.cls ∧ (∀ w ∈ AW, w.before #[Value.ref b] s = true) ∧ va_K D vwCl (TY kA) s ∧ va_X b L xs s s.heap ∧ b < s.heap.size ∧ XW (fun q => s.heap.size ≤ q) s s.heap ∧ LW s ∧ l.stackTraces = false
abbrev lB (ad : Nat → Nat) (b m0 o i : Nat) : List (Nat × Value) := [(0, .ref b), (1, .ref (ad 0)), (2, .ref m0), (3, .ref o), (4, .int (nI i))]
def KT (p : Program) (l : Launch) (e : Env) (s : State) (m : MethodId) (below : List Frame) (meth : Method) (c : Code) (Q : State → Prop) (D : va_G) (kA ad : Nat → Nat) (m0 m1 m2 m3 m4 m5 o b i N cells slots : Nat) : Prop :=
  ∀ (X : Nat → Nat → Int32) (z h tx pt kp : Nat → Int32) (w n0 r : Nat) (th rd nu du : Int32) (hs : Int64) (f : Nat → Int64) (H : Heap) (locs : List Loc) (ls : Array Slot), REL X z h tx w n0 r N → va_P D vwCl (LWd kA ad m0 m1 m2 m3 m4 m5 o X z h tx pt kp w n0 th rd nu du hs f) H → va_D (fun q => s.heap.size ≤ q) (LWd kA ad m0 m1 m2 m3 m4 m5 o X z h tx pt kp w n0 th rd nu du hs f) → va_S (fun q => s.heap.size ≤ q) s.heap H locs → lv_has ls 9 (lB ad b m0 o i) →
    W p l e room_1 s m #[Value.ref b] below meth c H locs cells slots Q (F0 m 1677 ls [])
section LB
variable {p : Program} {l : Launch} {e : Env} {R : Room} {s : State} {m : MethodId} {args : Array Value} {below : List Frame} {meth : Method} {c : Code} {H : Heap} {locs : List Loc} {cells slots : Nat} {Q : State → Prop}
variable {pc : Nat} {ls : Array Slot} {rest st0 : List Value} {a : Array Value} {A0 : Nat → Prop} {H0 : Heap} {D : va_G}
theorem cs_fk {v : Value} {ws ws' : va_W} {mc ms : Nat} (hr : va_Run p l e R s m args below meth c H locs cells slots mc ms (F0 m pc ls st0) rest (fQ (some v) D ws ws' a) (Aw ws)) (hS : va_S A0 H0 H locs) (hA : ∀ q, Aw ws q → A0 q)
    (kk : ∀ (H1 : Heap) (locs1 : List Loc), va_P D vwCl ws' H1 → (∀ q : Nat, q < H.size → ¬ Aw ws q → H1[q]? = H[q]?) → va_S A0 H0 H1 locs1 → W p l e R s m args below meth c H1 locs1 (cells + mc) (slots + ms) Q (F0 m (pc + 3) ls (v :: rest))) : W p l e R s m args below meth c H locs cells slots Q (F0 m pc ls st0) := by
  intro T hT X
  obtain ⟨v', st₀, t, T', L, h0, X', hL, e1, -, ⟨hv, hp, hz, hk⟩, st⟩ := hr T hT X
  cases hv
  rw [h0] at hz hk
  obtain ⟨t2, a1, b1⟩ := kk T'.heap (locs ++ L) (by rw [e1]; exact hp) (fun q h1 h2 => by rw [e1]; exact hk q h1 h2)
    ⟨Nat.le_trans hS.1 (by rw [e1]; exact hz), fun q h1 h2 => by rw [e1, hk q (Nat.lt_of_lt_of_le h1 hS.1) (fun z => h2 (hA q z))]; exact hS.2.1 q h1 h2, fun q hq => by
      rcases List.mem_append.mp hq with h | h
      · exact hS.2.2 q h
      · exact hA _ (hL q h)⟩ T' rfl X'
  exact ⟨t2, st t2 a1, b1⟩
theorem aw_D {A : Nat → Prop} {ws : va_W} (hD : va_D A ws) : ∀ q, Aw ws q → A q := fun q ⟨k, e9, h⟩ => hD.2 k (q, e9) h
theorem jRR {cl : List vw_C} {a b d d' : va_W} {H1 : Heap} (hP : va_P D cl (a ++ (b ++ d)) H) (hD : va_D A0 (a ++ (b ++ d))) (hk : ∀ q : Nat, q < H.size → ¬ Aw d q → H1[q]? = H[q]?) (hP1 : va_P D cl d' H1) (hf : d'.map (fun q => q.1) = d.map (fun q => q.1)) : va_P D cl (a ++ (b ++ d')) H1 ∧ va_D A0 (a ++ (b ++ d')) := by
  rw [← List.append_assoc] at hP hD ⊢
  exact jR hP hD hk hP1 hf
theorem lw_fst {kA ad : Nat → Nat} {X X' : Nat → Nat → Int32} {o : Nat} {e9 e9' : va_E} : ([(o, e9')] ++ cw kA ad X' : va_W).map (fun q => q.1) = ([(o, e9)] ++ cw kA ad X : va_W).map (fun q => q.1) := by
  rw [List.map_append, List.map_append, cw_fst (X := X) (X' := X')]
  rfl
end LB

section RUNL
variable {X : Nat → Nat → Int32} {z h tx pt : Nat → Int32} {w n0 r N : Nat}
theorem ru_0 (hT : TB (X 9) tx n0) (hN : N3 (qz (X 8))) (hlen : X 8 2 = nI n0) (h : ruX X n0 = 0) : (rtL tx n0 0 (pt, 0, -1, 0)).1 = n0 ∧ edB (rtL tx n0 0 (pt, 0, -1, 0)).2.2.2.1 (rtL tx n0 0 (pt, 0, -1, 0)).2.2.2.2 = true := by
  rw [ru_T (pt := pt) hT hN hlen] at h
  have hb := (rt_bd (tx := tx) n0 0 (pt, 0, -1, 0) (Nat.le_refl _)).1
  have h60 := hT.1
  unfold ruT at h
  by_cases h1 : nI (rtL tx n0 0 (pt, 0, -1, 0)).1 = nI n0
  · rw [if_pos h1] at h
    by_cases h2 : edB (rtL tx n0 0 (pt, 0, -1, 0)).2.2.2.1 (rtL tx n0 0 (pt, 0, -1, 0)).2.2.2.2 = true
    · exact ⟨nI_inj' (by omega) (by omega) h1, h2⟩
    · rw [if_neg h2] at h; exact absurd h (by decide)
  · rw [if_neg h1] at h; exact absurd h (by decide)
theorem run_val (hR2 : REL X z h tx w n0 r N) (h0 : ruX X n0 = 0) : ∀ j, j ≤ n0 → codeN (X 9) n0 j = 59 → QV (Qs (X 9) n0 (ieF X n0).2 j) := by
  obtain ⟨hXz, hI, hC, hw6, hr6, h80, h81, h82, hN3, hTB, hring⟩ := hR2
  obtain ⟨hf, he⟩ := ru_0 (pt := z0) hTB hN3 h82 h0
  exact QV_all hTB (ie_F (pt := z0) hTB hN3).2.1 hf he
theorem cbL_N3 {b : Nat → Int32} {L : Nat} (hT : TB b tx L) : ∀ (n j : Nat) (z Q : Nat → Int32) (d : Int32), N3 Q → N3 (cbL b L n j z Q d).2.2
  | 0, j, z, Q, d, hN => hN
  | n + 1, j, z, Q, d, hN => by
    have h60 := hT.1
    have hc : ch (codeN b L j) := by
      by_cases hj : j < L
      · rw [codeN_1 rfl hj, cd_n (by omega), (hT.2 j hj).1]; exact (hT.2 j hj).2
      · rw [codeN_0 hj]; exact ⟨59, by omega, by omega, rfl⟩
    rw [cbL]
    split
    · split
      · exact cbL_N3 hT n _ _ _ _ (N3_tk hN hc)
      · exact hN
    · exact cbL_N3 hT n _ _ _ _ (N3_tk hN hc)
theorem run_all (hR2 : REL X z h tx w n0 r N) (h0 : ruX X n0 = 0) : (cbF (svX (upQ X (ieF X n0).2) r) n0).1 = nI (cyL (upd (rtL tx n0 0 (pt, 0, -1, 0)).2.1 (3 * (rtL tx n0 0 (pt, 0, -1, 0)).2.2.1 + 2) (rtL tx n0 0 (pt, 0, -1, 0)).2.2.2.1) ((rtL tx n0 0 (pt, 0, -1, 0)).2.2.1 + 1) 0 z).1 ∧
    (cbF (svX (upQ X (ieF X n0).2) r) n0).2.1 = (cyL (upd (rtL tx n0 0 (pt, 0, -1, 0)).2.1 (3 * (rtL tx n0 0 (pt, 0, -1, 0)).2.2.1 + 2) (rtL tx n0 0 (pt, 0, -1, 0)).2.2.2.1) ((rtL tx n0 0 (pt, 0, -1, 0)).2.2.1 + 1) 0 z).2 ∧
    Inv (cyL (upd (rtL tx n0 0 (pt, 0, -1, 0)).2.1 (3 * (rtL tx n0 0 (pt, 0, -1, 0)).2.2.1 + 2) (rtL tx n0 0 (pt, 0, -1, 0)).2.2.2.1) ((rtL tx n0 0 (pt, 0, -1, 0)).2.2.1 + 1) 0 z).2 ∧
    CB (N + 1000) (cyL (upd (rtL tx n0 0 (pt, 0, -1, 0)).2.1 (3 * (rtL tx n0 0 (pt, 0, -1, 0)).2.2.1 + 2) (rtL tx n0 0 (pt, 0, -1, 0)).2.2.2.1) ((rtL tx n0 0 (pt, 0, -1, 0)).2.2.1 + 1) 0 z).2 ∧
    N3 (cbF (svX (upQ X (ieF X n0).2) r) n0).2.2 := by
  obtain ⟨hXz, hI, hC, hw6, hr6, h80, h81, h82, hN3, hTB, hring⟩ := hR2
  obtain ⟨hf, he⟩ := ru_0 (pt := pt) hTB hN3 h82 h0
  have e9 : svX (upQ X (ieF X n0).2) r 9 = X 9 := by rw [svX_9 hr6, upQ_9]
  have e0 : svX (upQ X (ieF X n0).2) r 0 = z := by
    rw [svX_0, ← hXz]
    exact funext fun i => upQ_ne (Or.inl (by omega))
  have hT2 : TB (svX (upQ X (ieF X n0).2) r 9) tx n0 := by rw [e9]; exact hTB
  obtain ⟨g1, g2⟩ := run_eq (X := svX (upQ X (ieF X n0).2) r) hT2 (by rw [e0]; exact hI) hf he
  rw [e0] at g1 g2
  have hbd := (rt_bd (tx := tx) n0 0 (pt, 0, -1, 0) (Nat.le_refl _)).2
  have h60 := hTB.1
  have hPI := rt_PI (tx := tx) n0 0 (pt, 0, -1, 0) PI_0 (hf.trans (Nat.zero_add _).symm)
  have hok := PI_end hPI he
  obtain ⟨k1, k2⟩ := CB_cy (pt := upd (rtL tx n0 0 (pt, 0, -1, 0)).2.1 (3 * (rtL tx n0 0 (pt, 0, -1, 0)).2.2.1 + 2) (rtL tx n0 0 (pt, 0, -1, 0)).2.2.2.1) ((rtL tx n0 0 (pt, 0, -1, 0)).2.2.1 + 1) 0 z N (fun i _ hi => hok i (by omega)) hI hC
  refine ⟨g1, g2, k1, CB_mono k2 (by omega), ?_⟩
  refine cbL_N3 hT2 _ _ _ _ _ ?_
  obtain ⟨v, hv, ev⟩ := (ie_F (pt := pt) hTB hN3).2.1
  refine ⟨v, hv, ?_⟩
  rw [qz_up hr6]
  exact ev
end RUNL
set_option maxRecDepth 100000 in
set_option maxHeartbeats 4000000 in
theorem k_earn {p : Program} {l : Launch} {e : Env} {s : State} {m : MethodId} {below : List Frame} {meth : Method} {c : Code} {Q : State → Prop} {D : va_G} {kA ad : Nat → Nat} {m0 m1 m2 m3 m4 m5 o b L i N cells slots : Nat} {xs : Nat → Int32} (C0 : LC l p s m meth c D kA b L xs) {X : Nat → Nat → Int32} {z h tx pt kp : Nat → Int32} {w n0 r : Nat} {th rd nu du : Int32} {hs : Int64} {f : Nat → Int64} {H : Heap} {locs : List Loc} {ls : Array Slot} (hR2 : REL X z h tx w n0 r N) (hN : N + 1000 ≤ 600000) (hi : i + 4 ≤ L) (hL : L ≤ 2048) (hP : va_P D vwCl (LWd kA ad m0 m1 m2 m3 m4 m5 o X z h tx pt kp w n0 th rd nu du hs f) H) (hD : va_D (fun q => s.heap.size ≤ q) (LWd kA ad m0 m1 m2 m3 m4 m5 o X z h tx pt kp w n0 th rd nu du hs f)) (hS : va_S (fun q => s.heap.size ≤ q) s.heap H locs) (hl : lv_has ls 9 (lB ad b m0 o i)) (hroom : cells + 1 ≤ 601024 ∧ slots + 6 ≤ 7293034) (K : KT p l e s m below meth c Q D kA ad m0 m1 m2 m3 m4 m5 o b i (N + 1000) (cells + 1) (slots + 6)) : W p l e room_1 s m #[Value.ref b] below meth c H locs cells slots Q (F0 m 156 ls []) := by
  obtain ⟨hx, hb, hml, hown, hts, hK, hXb, hbl, hX0, hLW, hnt⟩ := C0
  obtain ⟨hXz, hI, hC, hw6, hr6, h80, h81, h82, hN3, hTB, hring⟩ := id hR2
  have hn60 := hTB.1
  have hl : lv_has ls 9 [(0, .ref b), (1, .ref (ad 0)), (2, .ref m0), (3, .ref o), (4, .int (nI i))] := hl
  have hP : va_P D vwCl (mL kA m0 m1 m2 m3 m4 m5 z h tx pt kp (nI w) (nI n0) th (-1) rd nu du hs ++ ([(o, oO kA f)] ++ cw kA ad X)) H := hP
  have hD : va_D (fun q => s.heap.size ≤ q) (mL kA m0 m1 m2 m3 m4 m5 z h tx pt kp (nI w) (nI n0) th (-1) rd nu du hs ++ ([(o, oO kA f)] ++ cw kA ad X)) := hD
  obtain ⟨v0, hv0⟩ : ∃ y, xs (nI (i + 1)).toNatClampNeg = y := ⟨_, rfl⟩
  refine lv_aload_n hx hb dL_law_156 rfl (lv_at hl 1 rfl) ?_
  refine lv_aload_n hx hb dL_law_157 rfl (lv_at hl 0 rfl) ?_
  refine lv_iload hx hb dL_law_158 (lv_at hl 4 rfl) ?_
  refine lv_iconst (v := 1) hx hb dL_law_160 (by decide) ?_
  refine lv_iadd hx hb dL_law_161 ?_
  refine W_top (v' := .int (nI (i + 1))) (congrArg Value.int (nI_add i 1)) ?_
  refine va_sld hx hb hXb hbl (Nat.not_le.mpr hbl) hS (in_nI (j := i + 1) rfl (by omega) (by omega)) dL_law_162 ?_
  refine W_top (v' := .int v0) (congrArg Value.int hv0) ?_
  refine lv_aload_n hx hb dL_law_163 rfl (lv_at hl 3 rfl) ?_
  have hXH : XW (Aw (cw kA ad X)) s H := (hX0.kept hS.2.1).narrow (fun q9 h9 => aw_D hD.rt.rt q9 h9)
  refine cs_fk (wrunS (As := [.ref (ad 0), .int v0, .ref o]) (rest := []) ⟨hx, hb, hml, hown, hts⟩ (w_earn l D kA ad X v0 r o f h80 hr6 hnt) q_387 q_388 q_0 q_389 hdw_earn ⟨rfl, rfl⟩ ⟨Nat.le_of_ble_eq_true rfl, Nat.le_of_ble_eq_true rfl⟩ hK hP.r hD.rt hXH hLW rfl hl.1 rfl (Nat.le_of_ble_eq_true rfl) dL_law_164 ⟨hroom.1, hroom.2⟩) hS (aw_D hD.rt) (fun H locs hP1 hk1 hS => ?_)
  obtain ⟨hP, hD⟩ := jR hP hD hk1 hP1 lw_fst
  clear hP1 hk1 hXH
  refine lv_istore (lv' := [(5, .int (eaT (X 0) v0)), (0, .ref b), (1, .ref (ad 0)), (2, .ref m0), (3, .ref o), (4, .int (nI i))]) hx hb dL_law_167 hl (by decide) rfl (fun ls hl => ?_)
  refine lv_aload_n hx hb dL_law_169 rfl (lv_at hl 3 rfl) ?_
  refine lv_aload_n hx hb dL_law_170 rfl (lv_at hl 1 rfl) ?_
  refine lv_iload hx hb dL_law_171 (lv_at hl 5 rfl) ?_
  refine lv_iconst (v := 1) hx hb dL_law_173 (by decide) ?_
  refine lv_iadd hx hb dL_law_174 ?_
  refine W_top (v' := .int (nI (i + 1))) (congrArg Value.int (nI_add i 1)) ?_
  refine va_sld hx hb hXb hbl (Nat.not_le.mpr hbl) hS (in_nI (j := i + 1) rfl (by omega) (by omega)) dL_law_175 ?_
  refine W_top (v' := .int v0) (congrArg Value.int hv0) ?_
  have eT : (eaT (X 0) v0) = (eaT z v0) := by rw [hXz]
  refine cs_fs (runV (As := [.int v0]) (rest := []) ⟨hx, hb, hml, hown, hts⟩ (m_X6_earn l D kA m0 m1 m2 m3 m4 m5 z h tx pt kp (nI w) (nI n0) th (-1) rd nu du hs v0 w rfl hw6) q_814 q_815 q_816 q_7 q_817 hd_X6_earn ⟨rfl, rfl⟩ ⟨Nat.le_of_ble_eq_true rfl, Nat.le_of_ble_eq_true rfl⟩ hK hP.l hD.lf 0 (ci := 6) (C := RX6) (T := TX6) (N := 13) rfl rfl rfl hl.1 rfl (Nat.le_of_ble_eq_true rfl) dL_law_176 ⟨hroom.1, hroom.2⟩) hS (aw_D hD.lf) (fun H locs hP1 hk1 hS => ?_)
  obtain ⟨hP, hD⟩ := jL hP hD hk1 hP1 rfl
  clear hP1 hk1
  by_cases hT : (eaT (X 0) v0) = 0
  · have hT2 : (eaT z v0) = 0 := eT.symm.trans hT
    have hP : va_P D vwCl ([(m0, .inr (6, [.ref m1, .int (nI (svN w)), .ref m2, .int (nI n0), .ref m3, .int (eaT z v0), .int (-1), .ref m4, .int rd, .int nu, .int du, .ref m5, .long hs])), (m1, .inl (kA 0, 148, .inl (upd z 6 (z 6 + v0)))), (m2, .inl (kA 0, 888, .inl (svH h z w))), (m3, .inl (kA 0, 60, .inl tx)), (m4, .inl (kA 0, 72, .inl pt)), (m5, .inl (kA 0, 148, .inl kp))] ++ ([(o, oO kA (vp_updL f 0 (((up3 (svX X r) 0 6 ((((svX X r) 0) 6) + v0)) 0) 6 : Int32).toInt64))] ++ cw kA ad ((up3 (svX X r) 0 6 ((((svX X r) 0) 6) + v0))))) H := Pcg (by simp only [if_pos hT, if_pos hT2]) hP
    have hD : va_D (fun q => s.heap.size ≤ q) ([(m0, .inr (6, [.ref m1, .int (nI (svN w)), .ref m2, .int (nI n0), .ref m3, .int (eaT z v0), .int (-1), .ref m4, .int rd, .int nu, .int du, .ref m5, .long hs])), (m1, .inl (kA 0, 148, .inl (upd z 6 (z 6 + v0)))), (m2, .inl (kA 0, 888, .inl (svH h z w))), (m3, .inl (kA 0, 60, .inl tx)), (m4, .inl (kA 0, 72, .inl pt)), (m5, .inl (kA 0, 148, .inl kp))] ++ ([(o, oO kA (vp_updL f 0 (((up3 (svX X r) 0 6 ((((svX X r) 0) 6) + v0)) 0) 6 : Int32).toInt64))] ++ cw kA ad ((up3 (svX X r) 0 6 ((((svX X r) 0) 6) + v0))))) := Dcg (by simp only [if_pos hT, if_pos hT2]) hD
    refine W_top (v' := .int (z 6 + v0)) (congrArg Value.int (if_pos hT2)) ?_
    refine lv_istore (lv' := [(6, .int (z 6 + v0)), (5, .int (eaT (X 0) v0)), (0, .ref b), (1, .ref (ad 0)), (2, .ref m0), (3, .ref o), (4, .int (nI i))]) hx hb dL_law_179 hl (by decide) rfl (fun ls hl => ?_)
    refine lv_aload_n hx hb dL_law_181 rfl (lv_at hl 4 rfl) ?_
    refine cs_p (runV (As := []) (rest := []) ⟨hx, hb, hml, hown, hts⟩ (m_X6_thrown l D kA m0 m1 m2 m3 m4 m5 (upd z 6 (z 6 + v0)) (svH h z w) tx pt kp (nI (svN w)) (nI n0) (eaT z v0) (-1) rd nu du hs) q_810 q_811 q_812 q_7 q_813 hd_X6_thrown ⟨rfl, rfl⟩ ⟨Nat.le_of_ble_eq_true rfl, Nat.le_of_ble_eq_true rfl⟩ hK hP.l hD.lf 0 (ci := 6) (C := RX6) (T := TX6) (N := 13) rfl rfl rfl hl.1 rfl (Nat.le_of_ble_eq_true rfl) dL_law_182 ⟨hroom.1, hroom.2⟩) ?_
    refine lv_iload hx hb dL_law_185 (lv_at hl 1 rfl) ?_
    refine lv_icmp_eq (tgt := 192) hx hb dL_law_187 (by decide) (fun c9 => ?_) (fun c9 => absurd (eT.symm) c9)
    refine lv_iload hx hb dL_law_192 (lv_at hl 1 rfl) ?_
    refine lv_if_ne (tgt := 209) hx hb dL_law_194 (by decide) (fun c8 => absurd hT c8) (fun c8 => ?_)
    refine lv_aload_n hx hb dL_law_197 rfl (lv_at hl 5 rfl) ?_
    refine lv_iconst (v := 0) hx hb dL_law_198 (by decide) ?_
    refine va_lald hx hb hK hP 6 3 rfl rfl (in_nI (j := 0) rfl (by omega) (by decide)) dL_law_199 ?_
    refine W_top (v' := .long (((up3 (svX X r) 0 6 ((((svX X r) 0) 6) + v0)) 0) 6 : Int32).toInt64) rfl ?_
    refine lv_iload hx hb dL_law_200 (lv_at hl 0 rfl) ?_
    refine lv_i2l (v := (z 6 + v0 : Int32).toInt64) hx hb dL_law_202 rfl ?_
    refine W.lcmp hx hb dL_law_203 ?_
    have eV : (((up3 (svX X r) 0 6 ((((svX X r) 0) 6) + v0)) 0) 6 : Int32) = (z 6 + v0) := by rw [up3_s, svX_0, hXz]
    refine lv_if_eq (tgt := 209) hx hb dL_law_204 (by decide) (fun c7 => ?_) (fun c7 => absurd ((lg_cmp_eq _ _).mpr (congrArg Int32.toInt64 eV)) c7)
    refine lv_goto (tgt := 1677) hx hb dL_law_209 (by decide) ?_
    exact K _ _ _ _ _ _ _ _ _ _ _ _ _ _ _ _ _ _ (by show REL (up2 (svX X r) 0 (upd (svX X r 0) 6 (svX X r 0 6 + v0))) _ _ _ _ _ _ _; rw [svX_0, hXz]; exact rel_save (M := 1000) hR2 (inv_earn hI hT2) (CB_up (CB_mono hC (by omega)) (by omega))) hP hD hS (lv_sub hl [2, 3, 4, 5, 6] rfl)
  · have hT2 : ¬ (eaT z v0) = 0 := fun q9 => hT (eT.trans q9)
    have hP : va_P D vwCl ([(m0, .inr (6, [.ref m1, .int (nI (w)), .ref m2, .int (nI n0), .ref m3, .int (eaT z v0), .int (-1), .ref m4, .int rd, .int nu, .int du, .ref m5, .long hs])), (m1, .inl (kA 0, 148, .inl (z))), (m2, .inl (kA 0, 888, .inl (h))), (m3, .inl (kA 0, 60, .inl tx)), (m4, .inl (kA 0, 72, .inl pt)), (m5, .inl (kA 0, 148, .inl kp))] ++ ([(o, oO kA (f))] ++ cw kA ad (X))) H := Pcg (by simp only [if_neg hT, if_neg hT2]) hP
    have hD : va_D (fun q => s.heap.size ≤ q) ([(m0, .inr (6, [.ref m1, .int (nI (w)), .ref m2, .int (nI n0), .ref m3, .int (eaT z v0), .int (-1), .ref m4, .int rd, .int nu, .int du, .ref m5, .long hs])), (m1, .inl (kA 0, 148, .inl (z))), (m2, .inl (kA 0, 888, .inl (h))), (m3, .inl (kA 0, 60, .inl tx)), (m4, .inl (kA 0, 72, .inl pt)), (m5, .inl (kA 0, 148, .inl kp))] ++ ([(o, oO kA (f))] ++ cw kA ad (X))) := Dcg (by simp only [if_neg hT, if_neg hT2]) hD
    refine W_top (v' := .int (0)) (congrArg Value.int (if_neg hT2)) ?_
    refine lv_istore (lv' := [(6, .int (0)), (5, .int (eaT (X 0) v0)), (0, .ref b), (1, .ref (ad 0)), (2, .ref m0), (3, .ref o), (4, .int (nI i))]) hx hb dL_law_179 hl (by decide) rfl (fun ls hl => ?_)
    refine lv_aload_n hx hb dL_law_181 rfl (lv_at hl 4 rfl) ?_
    refine cs_p (runV (As := []) (rest := []) ⟨hx, hb, hml, hown, hts⟩ (m_X6_thrown l D kA m0 m1 m2 m3 m4 m5 z h tx pt kp (nI (w)) (nI n0) (eaT z v0) (-1) rd nu du hs) q_810 q_811 q_812 q_7 q_813 hd_X6_thrown ⟨rfl, rfl⟩ ⟨Nat.le_of_ble_eq_true rfl, Nat.le_of_ble_eq_true rfl⟩ hK hP.l hD.lf 0 (ci := 6) (C := RX6) (T := TX6) (N := 13) rfl rfl rfl hl.1 rfl (Nat.le_of_ble_eq_true rfl) dL_law_182 ⟨hroom.1, hroom.2⟩) ?_
    refine lv_iload hx hb dL_law_185 (lv_at hl 1 rfl) ?_
    refine lv_icmp_eq (tgt := 192) hx hb dL_law_187 (by decide) (fun c9 => ?_) (fun c9 => absurd (eT.symm) c9)
    refine lv_iload hx hb dL_law_192 (lv_at hl 1 rfl) ?_
    refine lv_if_ne (tgt := 209) hx hb dL_law_194 (by decide) (fun c8 => ?_) (fun c8 => absurd c8 hT)
    refine lv_goto (tgt := 1677) hx hb dL_law_209 (by decide) ?_
    exact K _ _ _ _ _ _ _ _ _ _ _ _ _ _ _ _ _ _ (by exact rel_mono hR2 (by omega)) hP hD hS (lv_sub hl [2, 3, 4, 5, 6] rfl)

set_option maxRecDepth 100000 in
set_option maxHeartbeats 4000000 in
theorem k_load {p : Program} {l : Launch} {e : Env} {s : State} {m : MethodId} {below : List Frame} {meth : Method} {c : Code} {Q : State → Prop} {D : va_G} {kA ad : Nat → Nat} {m0 m1 m2 m3 m4 m5 o b L i N cells slots : Nat} {xs : Nat → Int32} (C0 : LC l p s m meth c D kA b L xs) {X : Nat → Nat → Int32} {z h tx pt kp : Nat → Int32} {w n0 r : Nat} {th rd nu du : Int32} {hs : Int64} {f : Nat → Int64} {H : Heap} {locs : List Loc} {ls : Array Slot} (hR2 : REL X z h tx w n0 r N) (hN : N + 1000 ≤ 600000) (hi : i + 4 ≤ L) (hL : L ≤ 2048) (hP : va_P D vwCl (LWd kA ad m0 m1 m2 m3 m4 m5 o X z h tx pt kp w n0 th rd nu du hs f) H) (hD : va_D (fun q => s.heap.size ≤ q) (LWd kA ad m0 m1 m2 m3 m4 m5 o X z h tx pt kp w n0 th rd nu du hs f)) (hS : va_S (fun q => s.heap.size ≤ q) s.heap H locs) (hl : lv_has ls 9 (lB ad b m0 o i)) (hroom : cells + 1 ≤ 601024 ∧ slots + 6 ≤ 7293034) (K : KT p l e s m below meth c Q D kA ad m0 m1 m2 m3 m4 m5 o b i (N + 1000) (cells + 1) (slots + 6)) : W p l e room_1 s m #[Value.ref b] below meth c H locs cells slots Q (F0 m 212 ls []) := by
  obtain ⟨hx, hb, hml, hown, hts, hK, hXb, hbl, hX0, hLW, hnt⟩ := C0
  obtain ⟨hXz, hI, hC, hw6, hr6, h80, h81, h82, hN3, hTB, hring⟩ := id hR2
  have hn60 := hTB.1
  have hl : lv_has ls 9 [(0, .ref b), (1, .ref (ad 0)), (2, .ref m0), (3, .ref o), (4, .int (nI i))] := hl
  have hP : va_P D vwCl (mL kA m0 m1 m2 m3 m4 m5 z h tx pt kp (nI w) (nI n0) th (-1) rd nu du hs ++ ([(o, oO kA f)] ++ cw kA ad X)) H := hP
  have hD : va_D (fun q => s.heap.size ≤ q) (mL kA m0 m1 m2 m3 m4 m5 z h tx pt kp (nI w) (nI n0) th (-1) rd nu du hs ++ ([(o, oO kA f)] ++ cw kA ad X)) := hD
  obtain ⟨v0, hv0⟩ : ∃ y, xs (nI (i + 1)).toNatClampNeg = y := ⟨_, rfl⟩
  obtain ⟨v1, hv1⟩ : ∃ y, xs (nI (i + 2)).toNatClampNeg = y := ⟨_, rfl⟩
  refine lv_aload_n hx hb dL_law_212 rfl (lv_at hl 1 rfl) ?_
  refine lv_aload_n hx hb dL_law_213 rfl (lv_at hl 0 rfl) ?_
  refine lv_iload hx hb dL_law_214 (lv_at hl 4 rfl) ?_
  refine lv_iconst (v := 1) hx hb dL_law_216 (by decide) ?_
  refine lv_iadd hx hb dL_law_217 ?_
  refine W_top (v' := .int (nI (i + 1))) (congrArg Value.int (nI_add i 1)) ?_
  refine va_sld hx hb hXb hbl (Nat.not_le.mpr hbl) hS (in_nI (j := i + 1) rfl (by omega) (by omega)) dL_law_218 ?_
  refine W_top (v' := .int v0) (congrArg Value.int hv0) ?_
  refine lv_aload_n hx hb dL_law_219 rfl (lv_at hl 0 rfl) ?_
  refine lv_iload hx hb dL_law_220 (lv_at hl 4 rfl) ?_
  refine lv_iconst (v := 2) hx hb dL_law_222 (by decide) ?_
  refine lv_iadd hx hb dL_law_223 ?_
  refine W_top (v' := .int (nI (i + 2))) (congrArg Value.int (nI_add i 2)) ?_
  refine va_sld hx hb hXb hbl (Nat.not_le.mpr hbl) hS (in_nI (j := i + 2) rfl (by omega) (by omega)) dL_law_224 ?_
  refine W_top (v' := .int v1) (congrArg Value.int hv1) ?_
  refine lv_aload_n hx hb dL_law_225 rfl (lv_at hl 3 rfl) ?_
  have hXH : XW (Aw (cw kA ad X)) s H := (hX0.kept hS.2.1).narrow (fun q9 h9 => aw_D hD.rt.rt q9 h9)
  refine cs_fk (wrunS (As := [.ref (ad 0), .int v0, .int v1, .ref o]) (rest := []) ⟨hx, hb, hml, hown, hts⟩ (w_load l D kA ad X v0 v1 r o f h80 hr6 hnt) q_499 q_500 q_0 q_501 hdw_load ⟨rfl, rfl⟩ ⟨Nat.le_of_ble_eq_true rfl, Nat.le_of_ble_eq_true rfl⟩ hK hP.r hD.rt hXH hLW rfl hl.1 rfl (Nat.le_of_ble_eq_true rfl) dL_law_226 ⟨hroom.1, hroom.2⟩) hS (aw_D hD.rt) (fun H locs hP1 hk1 hS => ?_)
  obtain ⟨hP, hD⟩ := jR hP hD hk1 hP1 lw_fst
  clear hP1 hk1 hXH
  refine lv_istore (lv' := [(5, .int (loT v0 v1)), (0, .ref b), (1, .ref (ad 0)), (2, .ref m0), (3, .ref o), (4, .int (nI i))]) hx hb dL_law_229 hl (by decide) rfl (fun ls hl => ?_)
  refine lv_aload_n hx hb dL_law_231 rfl (lv_at hl 3 rfl) ?_
  refine lv_aload_n hx hb dL_law_232 rfl (lv_at hl 1 rfl) ?_
  refine lv_iload hx hb dL_law_233 (lv_at hl 5 rfl) ?_
  refine lv_iconst (v := 1) hx hb dL_law_235 (by decide) ?_
  refine lv_iadd hx hb dL_law_236 ?_
  refine W_top (v' := .int (nI (i + 1))) (congrArg Value.int (nI_add i 1)) ?_
  refine va_sld hx hb hXb hbl (Nat.not_le.mpr hbl) hS (in_nI (j := i + 1) rfl (by omega) (by omega)) dL_law_237 ?_
  refine W_top (v' := .int v0) (congrArg Value.int hv0) ?_
  refine lv_aload_n hx hb dL_law_238 rfl (lv_at hl 1 rfl) ?_
  refine lv_iload hx hb dL_law_239 (lv_at hl 5 rfl) ?_
  refine lv_iconst (v := 2) hx hb dL_law_241 (by decide) ?_
  refine lv_iadd hx hb dL_law_242 ?_
  refine W_top (v' := .int (nI (i + 2))) (congrArg Value.int (nI_add i 2)) ?_
  refine va_sld hx hb hXb hbl (Nat.not_le.mpr hbl) hS (in_nI (j := i + 2) rfl (by omega) (by omega)) dL_law_243 ?_
  refine W_top (v' := .int v1) (congrArg Value.int hv1) ?_
  have eT : (loT v0 v1) = (loT v0 v1) := rfl
  refine cs_fs (runV (As := [.int v0, .int v1]) (rest := []) ⟨hx, hb, hml, hown, hts⟩ (m_X6_load l D kA m0 m1 m2 m3 m4 m5 z h tx pt kp (nI w) (nI n0) th (-1) rd nu du hs v0 v1 w rfl hw6) q_826 q_827 q_828 q_7 q_829 hd_X6_load ⟨rfl, rfl⟩ ⟨Nat.le_of_ble_eq_true rfl, Nat.le_of_ble_eq_true rfl⟩ hK hP.l hD.lf 0 (ci := 6) (C := RX6) (T := TX6) (N := 13) rfl rfl rfl hl.1 rfl (Nat.le_of_ble_eq_true rfl) dL_law_244 ⟨hroom.1, hroom.2⟩) hS (aw_D hD.lf) (fun H locs hP1 hk1 hS => ?_)
  obtain ⟨hP, hD⟩ := jL hP hD hk1 hP1 rfl
  clear hP1 hk1
  by_cases hT : (loT v0 v1) = 0
  · have hT2 : (loT v0 v1) = 0 := eT.symm.trans hT
    have hP : va_P D vwCl ([(m0, .inr (6, [.ref m1, .int (nI (svN w)), .ref m2, .int (nI n0), .ref m3, .int (loT v0 v1), .int (-1), .ref m4, .int rd, .int nu, .int du, .ref m5, .long hs])), (m1, .inl (kA 0, 148, .inl (puZ z v0.toNatClampNeg 2 v1))), (m2, .inl (kA 0, 888, .inl (svH h z w))), (m3, .inl (kA 0, 60, .inl tx)), (m4, .inl (kA 0, 72, .inl pt)), (m5, .inl (kA 0, 148, .inl kp))] ++ ([(o, oO kA (vp_updL f 0 (sl (((svX X r) 0)) v0.toNatClampNeg 2 : Int32).toInt64))] ++ cw kA ad ((up3 (svX X r) 0 (2 + (8 + 35 * v0.toNatClampNeg)) v1)))) H := Pcg (by simp only [if_pos hT, if_pos hT2]) hP
    have hD : va_D (fun q => s.heap.size ≤ q) ([(m0, .inr (6, [.ref m1, .int (nI (svN w)), .ref m2, .int (nI n0), .ref m3, .int (loT v0 v1), .int (-1), .ref m4, .int rd, .int nu, .int du, .ref m5, .long hs])), (m1, .inl (kA 0, 148, .inl (puZ z v0.toNatClampNeg 2 v1))), (m2, .inl (kA 0, 888, .inl (svH h z w))), (m3, .inl (kA 0, 60, .inl tx)), (m4, .inl (kA 0, 72, .inl pt)), (m5, .inl (kA 0, 148, .inl kp))] ++ ([(o, oO kA (vp_updL f 0 (sl (((svX X r) 0)) v0.toNatClampNeg 2 : Int32).toInt64))] ++ cw kA ad ((up3 (svX X r) 0 (2 + (8 + 35 * v0.toNatClampNeg)) v1)))) := Dcg (by simp only [if_pos hT, if_pos hT2]) hD
    refine W_top (v' := .int (sl z v0.toNatClampNeg 2)) (congrArg Value.int (if_pos hT2)) ?_
    refine lv_istore (lv' := [(6, .int (sl z v0.toNatClampNeg 2)), (5, .int (loT v0 v1)), (0, .ref b), (1, .ref (ad 0)), (2, .ref m0), (3, .ref o), (4, .int (nI i))]) hx hb dL_law_247 hl (by decide) rfl (fun ls hl => ?_)
    refine lv_aload_n hx hb dL_law_249 rfl (lv_at hl 4 rfl) ?_
    refine cs_p (runV (As := []) (rest := []) ⟨hx, hb, hml, hown, hts⟩ (m_X6_thrown l D kA m0 m1 m2 m3 m4 m5 (puZ z v0.toNatClampNeg 2 v1) (svH h z w) tx pt kp (nI (svN w)) (nI n0) (loT v0 v1) (-1) rd nu du hs) q_810 q_811 q_812 q_7 q_813 hd_X6_thrown ⟨rfl, rfl⟩ ⟨Nat.le_of_ble_eq_true rfl, Nat.le_of_ble_eq_true rfl⟩ hK hP.l hD.lf 0 (ci := 6) (C := RX6) (T := TX6) (N := 13) rfl rfl rfl hl.1 rfl (Nat.le_of_ble_eq_true rfl) dL_law_250 ⟨hroom.1, hroom.2⟩) ?_
    refine lv_iload hx hb dL_law_253 (lv_at hl 1 rfl) ?_
    refine lv_icmp_eq (tgt := 260) hx hb dL_law_255 (by decide) (fun c9 => ?_) (fun c9 => absurd (eT.symm) c9)
    refine lv_iload hx hb dL_law_260 (lv_at hl 1 rfl) ?_
    refine lv_if_ne (tgt := 277) hx hb dL_law_262 (by decide) (fun c8 => absurd hT c8) (fun c8 => ?_)
    refine lv_aload_n hx hb dL_law_265 rfl (lv_at hl 5 rfl) ?_
    refine lv_iconst (v := 0) hx hb dL_law_266 (by decide) ?_
    refine va_lald hx hb hK hP 6 3 rfl rfl (in_nI (j := 0) rfl (by omega) (by decide)) dL_law_267 ?_
    refine W_top (v' := .long (sl (((svX X r) 0)) v0.toNatClampNeg 2 : Int32).toInt64) rfl ?_
    refine lv_iload hx hb dL_law_268 (lv_at hl 0 rfl) ?_
    refine lv_i2l (v := (sl z v0.toNatClampNeg 2 : Int32).toInt64) hx hb dL_law_270 rfl ?_
    refine W.lcmp hx hb dL_law_271 ?_
    have eV : (sl (((svX X r) 0)) v0.toNatClampNeg 2 : Int32) = (sl z v0.toNatClampNeg 2) := by rw [svX_0, hXz]
    refine lv_if_eq (tgt := 277) hx hb dL_law_272 (by decide) (fun c7 => ?_) (fun c7 => absurd ((lg_cmp_eq _ _).mpr (congrArg Int32.toInt64 eV)) c7)
    refine lv_goto (tgt := 1677) hx hb dL_law_277 (by decide) ?_
    exact K _ _ _ _ _ _ _ _ _ _ _ _ _ _ _ _ _ _ (by show REL (up2 (svX X r) 0 (puZ (svX X r 0) v0.toNatClampNeg 2 v1)) _ _ _ _ _ _ _; rw [svX_0, hXz]; exact rel_save (M := 1000) hR2 (inv_load hI hT2) (CB_pu (CB_mono hC (by omega)) (wi3 (loT_0 hT2).1) (by omega) (by omega) (by omega) (by omega))) hP hD hS (lv_sub hl [2, 3, 4, 5, 6] rfl)
  · have hT2 : ¬ (loT v0 v1) = 0 := fun q9 => hT (eT.trans q9)
    have hP : va_P D vwCl ([(m0, .inr (6, [.ref m1, .int (nI (w)), .ref m2, .int (nI n0), .ref m3, .int (loT v0 v1), .int (-1), .ref m4, .int rd, .int nu, .int du, .ref m5, .long hs])), (m1, .inl (kA 0, 148, .inl (z))), (m2, .inl (kA 0, 888, .inl (h))), (m3, .inl (kA 0, 60, .inl tx)), (m4, .inl (kA 0, 72, .inl pt)), (m5, .inl (kA 0, 148, .inl kp))] ++ ([(o, oO kA (f))] ++ cw kA ad (X))) H := Pcg (by simp only [if_neg hT, if_neg hT2]) hP
    have hD : va_D (fun q => s.heap.size ≤ q) ([(m0, .inr (6, [.ref m1, .int (nI (w)), .ref m2, .int (nI n0), .ref m3, .int (loT v0 v1), .int (-1), .ref m4, .int rd, .int nu, .int du, .ref m5, .long hs])), (m1, .inl (kA 0, 148, .inl (z))), (m2, .inl (kA 0, 888, .inl (h))), (m3, .inl (kA 0, 60, .inl tx)), (m4, .inl (kA 0, 72, .inl pt)), (m5, .inl (kA 0, 148, .inl kp))] ++ ([(o, oO kA (f))] ++ cw kA ad (X))) := Dcg (by simp only [if_neg hT, if_neg hT2]) hD
    refine W_top (v' := .int (0)) (congrArg Value.int (if_neg hT2)) ?_
    refine lv_istore (lv' := [(6, .int (0)), (5, .int (loT v0 v1)), (0, .ref b), (1, .ref (ad 0)), (2, .ref m0), (3, .ref o), (4, .int (nI i))]) hx hb dL_law_247 hl (by decide) rfl (fun ls hl => ?_)
    refine lv_aload_n hx hb dL_law_249 rfl (lv_at hl 4 rfl) ?_
    refine cs_p (runV (As := []) (rest := []) ⟨hx, hb, hml, hown, hts⟩ (m_X6_thrown l D kA m0 m1 m2 m3 m4 m5 z h tx pt kp (nI (w)) (nI n0) (loT v0 v1) (-1) rd nu du hs) q_810 q_811 q_812 q_7 q_813 hd_X6_thrown ⟨rfl, rfl⟩ ⟨Nat.le_of_ble_eq_true rfl, Nat.le_of_ble_eq_true rfl⟩ hK hP.l hD.lf 0 (ci := 6) (C := RX6) (T := TX6) (N := 13) rfl rfl rfl hl.1 rfl (Nat.le_of_ble_eq_true rfl) dL_law_250 ⟨hroom.1, hroom.2⟩) ?_
    refine lv_iload hx hb dL_law_253 (lv_at hl 1 rfl) ?_
    refine lv_icmp_eq (tgt := 260) hx hb dL_law_255 (by decide) (fun c9 => ?_) (fun c9 => absurd (eT.symm) c9)
    refine lv_iload hx hb dL_law_260 (lv_at hl 1 rfl) ?_
    refine lv_if_ne (tgt := 277) hx hb dL_law_262 (by decide) (fun c8 => ?_) (fun c8 => absurd c8 hT)
    refine lv_goto (tgt := 1677) hx hb dL_law_277 (by decide) ?_
    exact K _ _ _ _ _ _ _ _ _ _ _ _ _ _ _ _ _ _ (by exact rel_mono hR2 (by omega)) hP hD hS (lv_sub hl [2, 3, 4, 5, 6] rfl)

set_option maxRecDepth 100000 in
set_option maxHeartbeats 4000000 in
theorem k_set {p : Program} {l : Launch} {e : Env} {s : State} {m : MethodId} {below : List Frame} {meth : Method} {c : Code} {Q : State → Prop} {D : va_G} {kA ad : Nat → Nat} {m0 m1 m2 m3 m4 m5 o b L i N cells slots : Nat} {xs : Nat → Int32} (C0 : LC l p s m meth c D kA b L xs) {X : Nat → Nat → Int32} {z h tx pt kp : Nat → Int32} {w n0 r : Nat} {th rd nu du : Int32} {hs : Int64} {f : Nat → Int64} {H : Heap} {locs : List Loc} {ls : Array Slot} (hR2 : REL X z h tx w n0 r N) (hN : N + 1000 ≤ 600000) (hi : i + 4 ≤ L) (hL : L ≤ 2048) (hP : va_P D vwCl (LWd kA ad m0 m1 m2 m3 m4 m5 o X z h tx pt kp w n0 th rd nu du hs f) H) (hD : va_D (fun q => s.heap.size ≤ q) (LWd kA ad m0 m1 m2 m3 m4 m5 o X z h tx pt kp w n0 th rd nu du hs f)) (hS : va_S (fun q => s.heap.size ≤ q) s.heap H locs) (hl : lv_has ls 9 (lB ad b m0 o i)) (hroom : cells + 1 ≤ 601024 ∧ slots + 6 ≤ 7293034) (K : KT p l e s m below meth c Q D kA ad m0 m1 m2 m3 m4 m5 o b i (N + 1000) (cells + 1) (slots + 6)) : W p l e room_1 s m #[Value.ref b] below meth c H locs cells slots Q (F0 m 280 ls []) := by
  obtain ⟨hx, hb, hml, hown, hts, hK, hXb, hbl, hX0, hLW, hnt⟩ := C0
  obtain ⟨hXz, hI, hC, hw6, hr6, h80, h81, h82, hN3, hTB, hring⟩ := id hR2
  have hn60 := hTB.1
  have hl : lv_has ls 9 [(0, .ref b), (1, .ref (ad 0)), (2, .ref m0), (3, .ref o), (4, .int (nI i))] := hl
  have hP : va_P D vwCl (mL kA m0 m1 m2 m3 m4 m5 z h tx pt kp (nI w) (nI n0) th (-1) rd nu du hs ++ ([(o, oO kA f)] ++ cw kA ad X)) H := hP
  have hD : va_D (fun q => s.heap.size ≤ q) (mL kA m0 m1 m2 m3 m4 m5 z h tx pt kp (nI w) (nI n0) th (-1) rd nu du hs ++ ([(o, oO kA f)] ++ cw kA ad X)) := hD
  obtain ⟨v0, hv0⟩ : ∃ y, xs (nI (i + 1)).toNatClampNeg = y := ⟨_, rfl⟩
  obtain ⟨v1, hv1⟩ : ∃ y, xs (nI (i + 2)).toNatClampNeg = y := ⟨_, rfl⟩
  refine lv_aload_n hx hb dL_law_280 rfl (lv_at hl 1 rfl) ?_
  refine lv_aload_n hx hb dL_law_281 rfl (lv_at hl 0 rfl) ?_
  refine lv_iload hx hb dL_law_282 (lv_at hl 4 rfl) ?_
  refine lv_iconst (v := 1) hx hb dL_law_284 (by decide) ?_
  refine lv_iadd hx hb dL_law_285 ?_
  refine W_top (v' := .int (nI (i + 1))) (congrArg Value.int (nI_add i 1)) ?_
  refine va_sld hx hb hXb hbl (Nat.not_le.mpr hbl) hS (in_nI (j := i + 1) rfl (by omega) (by omega)) dL_law_286 ?_
  refine W_top (v' := .int v0) (congrArg Value.int hv0) ?_
  refine lv_aload_n hx hb dL_law_287 rfl (lv_at hl 0 rfl) ?_
  refine lv_iload hx hb dL_law_288 (lv_at hl 4 rfl) ?_
  refine lv_iconst (v := 2) hx hb dL_law_290 (by decide) ?_
  refine lv_iadd hx hb dL_law_291 ?_
  refine W_top (v' := .int (nI (i + 2))) (congrArg Value.int (nI_add i 2)) ?_
  refine va_sld hx hb hXb hbl (Nat.not_le.mpr hbl) hS (in_nI (j := i + 2) rfl (by omega) (by omega)) dL_law_292 ?_
  refine W_top (v' := .int v1) (congrArg Value.int hv1) ?_
  refine lv_aload_n hx hb dL_law_293 rfl (lv_at hl 3 rfl) ?_
  have hXH : XW (Aw (cw kA ad X)) s H := (hX0.kept hS.2.1).narrow (fun q9 h9 => aw_D hD.rt.rt q9 h9)
  refine cs_fk (wrunS (As := [.ref (ad 0), .int v0, .int v1, .ref o]) (rest := []) ⟨hx, hb, hml, hown, hts⟩ (w_set l D kA ad X v0 v1 r o f h80 hr6 hnt) q_528 q_529 q_0 q_530 hdw_set ⟨rfl, rfl⟩ ⟨Nat.le_of_ble_eq_true rfl, Nat.le_of_ble_eq_true rfl⟩ hK hP.r hD.rt hXH hLW rfl hl.1 rfl (Nat.le_of_ble_eq_true rfl) dL_law_294 ⟨hroom.1, hroom.2⟩) hS (aw_D hD.rt) (fun H locs hP1 hk1 hS => ?_)
  obtain ⟨hP, hD⟩ := jR hP hD hk1 hP1 lw_fst
  clear hP1 hk1 hXH
  refine lv_istore (lv' := [(5, .int (seT v0 v1)), (0, .ref b), (1, .ref (ad 0)), (2, .ref m0), (3, .ref o), (4, .int (nI i))]) hx hb dL_law_297 hl (by decide) rfl (fun ls hl => ?_)
  refine lv_aload_n hx hb dL_law_299 rfl (lv_at hl 3 rfl) ?_
  refine lv_aload_n hx hb dL_law_300 rfl (lv_at hl 1 rfl) ?_
  refine lv_iload hx hb dL_law_301 (lv_at hl 5 rfl) ?_
  refine lv_iconst (v := 1) hx hb dL_law_303 (by decide) ?_
  refine lv_iadd hx hb dL_law_304 ?_
  refine W_top (v' := .int (nI (i + 1))) (congrArg Value.int (nI_add i 1)) ?_
  refine va_sld hx hb hXb hbl (Nat.not_le.mpr hbl) hS (in_nI (j := i + 1) rfl (by omega) (by omega)) dL_law_305 ?_
  refine W_top (v' := .int v0) (congrArg Value.int hv0) ?_
  refine lv_aload_n hx hb dL_law_306 rfl (lv_at hl 1 rfl) ?_
  refine lv_iload hx hb dL_law_307 (lv_at hl 5 rfl) ?_
  refine lv_iconst (v := 2) hx hb dL_law_309 (by decide) ?_
  refine lv_iadd hx hb dL_law_310 ?_
  refine W_top (v' := .int (nI (i + 2))) (congrArg Value.int (nI_add i 2)) ?_
  refine va_sld hx hb hXb hbl (Nat.not_le.mpr hbl) hS (in_nI (j := i + 2) rfl (by omega) (by omega)) dL_law_311 ?_
  refine W_top (v' := .int v1) (congrArg Value.int hv1) ?_
  have eT : (seT v0 v1) = (seT v0 v1) := rfl
  refine cs_fs (runV (As := [.int v0, .int v1]) (rest := []) ⟨hx, hb, hml, hown, hts⟩ (m_X6_set l D kA m0 m1 m2 m3 m4 m5 z h tx pt kp (nI w) (nI n0) th (-1) rd nu du hs v0 v1 w rfl hw6) q_841 q_842 q_843 q_7 q_844 hd_X6_set ⟨rfl, rfl⟩ ⟨Nat.le_of_ble_eq_true rfl, Nat.le_of_ble_eq_true rfl⟩ hK hP.l hD.lf 0 (ci := 6) (C := RX6) (T := TX6) (N := 13) rfl rfl rfl hl.1 rfl (Nat.le_of_ble_eq_true rfl) dL_law_312 ⟨hroom.1, hroom.2⟩) hS (aw_D hD.lf) (fun H locs hP1 hk1 hS => ?_)
  obtain ⟨hP, hD⟩ := jL hP hD hk1 hP1 rfl
  clear hP1 hk1
  by_cases hT : (seT v0 v1) = 0
  · have hT2 : (seT v0 v1) = 0 := eT.symm.trans hT
    have hP : va_P D vwCl ([(m0, .inr (6, [.ref m1, .int (nI (svN w)), .ref m2, .int (nI n0), .ref m3, .int (seT v0 v1), .int (-1), .ref m4, .int rd, .int nu, .int du, .ref m5, .long hs])), (m1, .inl (kA 0, 148, .inl (upd z v0.toNatClampNeg v1))), (m2, .inl (kA 0, 888, .inl (svH h z w))), (m3, .inl (kA 0, 60, .inl tx)), (m4, .inl (kA 0, 72, .inl pt)), (m5, .inl (kA 0, 148, .inl kp))] ++ ([(o, oO kA (vp_updL f 0 (rvF ((svX X r) 0) v0 : Int32).toInt64))] ++ cw kA ad ((up2 (svX X r) 0 (rpF ((svX X r) 0) v0 v1))))) H := Pcg (by simp only [if_pos hT, if_pos hT2]) hP
    have hD : va_D (fun q => s.heap.size ≤ q) ([(m0, .inr (6, [.ref m1, .int (nI (svN w)), .ref m2, .int (nI n0), .ref m3, .int (seT v0 v1), .int (-1), .ref m4, .int rd, .int nu, .int du, .ref m5, .long hs])), (m1, .inl (kA 0, 148, .inl (upd z v0.toNatClampNeg v1))), (m2, .inl (kA 0, 888, .inl (svH h z w))), (m3, .inl (kA 0, 60, .inl tx)), (m4, .inl (kA 0, 72, .inl pt)), (m5, .inl (kA 0, 148, .inl kp))] ++ ([(o, oO kA (vp_updL f 0 (rvF ((svX X r) 0) v0 : Int32).toInt64))] ++ cw kA ad ((up2 (svX X r) 0 (rpF ((svX X r) 0) v0 v1))))) := Dcg (by simp only [if_pos hT, if_pos hT2]) hD
    refine W_top (v' := .int (z v0.toNatClampNeg)) (congrArg Value.int (if_pos hT2)) ?_
    refine lv_istore (lv' := [(6, .int (z v0.toNatClampNeg)), (5, .int (seT v0 v1)), (0, .ref b), (1, .ref (ad 0)), (2, .ref m0), (3, .ref o), (4, .int (nI i))]) hx hb dL_law_315 hl (by decide) rfl (fun ls hl => ?_)
    refine lv_aload_n hx hb dL_law_317 rfl (lv_at hl 4 rfl) ?_
    refine cs_p (runV (As := []) (rest := []) ⟨hx, hb, hml, hown, hts⟩ (m_X6_thrown l D kA m0 m1 m2 m3 m4 m5 (upd z v0.toNatClampNeg v1) (svH h z w) tx pt kp (nI (svN w)) (nI n0) (seT v0 v1) (-1) rd nu du hs) q_810 q_811 q_812 q_7 q_813 hd_X6_thrown ⟨rfl, rfl⟩ ⟨Nat.le_of_ble_eq_true rfl, Nat.le_of_ble_eq_true rfl⟩ hK hP.l hD.lf 0 (ci := 6) (C := RX6) (T := TX6) (N := 13) rfl rfl rfl hl.1 rfl (Nat.le_of_ble_eq_true rfl) dL_law_318 ⟨hroom.1, hroom.2⟩) ?_
    refine lv_iload hx hb dL_law_321 (lv_at hl 1 rfl) ?_
    refine lv_icmp_eq (tgt := 328) hx hb dL_law_323 (by decide) (fun c9 => ?_) (fun c9 => absurd (eT.symm) c9)
    refine lv_iload hx hb dL_law_328 (lv_at hl 1 rfl) ?_
    refine lv_if_ne (tgt := 345) hx hb dL_law_330 (by decide) (fun c8 => absurd hT c8) (fun c8 => ?_)
    refine lv_aload_n hx hb dL_law_333 rfl (lv_at hl 5 rfl) ?_
    refine lv_iconst (v := 0) hx hb dL_law_334 (by decide) ?_
    refine va_lald hx hb hK hP 6 3 rfl rfl (in_nI (j := 0) rfl (by omega) (by decide)) dL_law_335 ?_
    refine W_top (v' := .long (rvF ((svX X r) 0) v0 : Int32).toInt64) rfl ?_
    refine lv_iload hx hb dL_law_336 (lv_at hl 0 rfl) ?_
    refine lv_i2l (v := (z v0.toNatClampNeg : Int32).toInt64) hx hb dL_law_338 rfl ?_
    refine W.lcmp hx hb dL_law_339 ?_
    have eV : (rvF ((svX X r) 0) v0 : Int32) = (z v0.toNatClampNeg) := by rw [svX_0, hXz, rv_z (seT_0 hT2).1]
    refine lv_if_eq (tgt := 345) hx hb dL_law_340 (by decide) (fun c7 => ?_) (fun c7 => absurd ((lg_cmp_eq _ _).mpr (congrArg Int32.toInt64 eV)) c7)
    refine lv_goto (tgt := 1677) hx hb dL_law_345 (by decide) ?_
    exact K _ _ _ _ _ _ _ _ _ _ _ _ _ _ _ _ _ _ (by rw [svX_0, hXz, rp_z (seT_0 hT2).1]; exact rel_save (M := 1000) hR2 (inv_set hI hT2) (CB_up (CB_mono hC (by omega)) (set_lt hT2))) hP hD hS (lv_sub hl [2, 3, 4, 5, 6] rfl)
  · have hT2 : ¬ (seT v0 v1) = 0 := fun q9 => hT (eT.trans q9)
    have hP : va_P D vwCl ([(m0, .inr (6, [.ref m1, .int (nI (w)), .ref m2, .int (nI n0), .ref m3, .int (seT v0 v1), .int (-1), .ref m4, .int rd, .int nu, .int du, .ref m5, .long hs])), (m1, .inl (kA 0, 148, .inl (z))), (m2, .inl (kA 0, 888, .inl (h))), (m3, .inl (kA 0, 60, .inl tx)), (m4, .inl (kA 0, 72, .inl pt)), (m5, .inl (kA 0, 148, .inl kp))] ++ ([(o, oO kA (f))] ++ cw kA ad (X))) H := Pcg (by simp only [if_neg hT, if_neg hT2]) hP
    have hD : va_D (fun q => s.heap.size ≤ q) ([(m0, .inr (6, [.ref m1, .int (nI (w)), .ref m2, .int (nI n0), .ref m3, .int (seT v0 v1), .int (-1), .ref m4, .int rd, .int nu, .int du, .ref m5, .long hs])), (m1, .inl (kA 0, 148, .inl (z))), (m2, .inl (kA 0, 888, .inl (h))), (m3, .inl (kA 0, 60, .inl tx)), (m4, .inl (kA 0, 72, .inl pt)), (m5, .inl (kA 0, 148, .inl kp))] ++ ([(o, oO kA (f))] ++ cw kA ad (X))) := Dcg (by simp only [if_neg hT, if_neg hT2]) hD
    refine W_top (v' := .int (0)) (congrArg Value.int (if_neg hT2)) ?_
    refine lv_istore (lv' := [(6, .int (0)), (5, .int (seT v0 v1)), (0, .ref b), (1, .ref (ad 0)), (2, .ref m0), (3, .ref o), (4, .int (nI i))]) hx hb dL_law_315 hl (by decide) rfl (fun ls hl => ?_)
    refine lv_aload_n hx hb dL_law_317 rfl (lv_at hl 4 rfl) ?_
    refine cs_p (runV (As := []) (rest := []) ⟨hx, hb, hml, hown, hts⟩ (m_X6_thrown l D kA m0 m1 m2 m3 m4 m5 z h tx pt kp (nI (w)) (nI n0) (seT v0 v1) (-1) rd nu du hs) q_810 q_811 q_812 q_7 q_813 hd_X6_thrown ⟨rfl, rfl⟩ ⟨Nat.le_of_ble_eq_true rfl, Nat.le_of_ble_eq_true rfl⟩ hK hP.l hD.lf 0 (ci := 6) (C := RX6) (T := TX6) (N := 13) rfl rfl rfl hl.1 rfl (Nat.le_of_ble_eq_true rfl) dL_law_318 ⟨hroom.1, hroom.2⟩) ?_
    refine lv_iload hx hb dL_law_321 (lv_at hl 1 rfl) ?_
    refine lv_icmp_eq (tgt := 328) hx hb dL_law_323 (by decide) (fun c9 => ?_) (fun c9 => absurd (eT.symm) c9)
    refine lv_iload hx hb dL_law_328 (lv_at hl 1 rfl) ?_
    refine lv_if_ne (tgt := 345) hx hb dL_law_330 (by decide) (fun c8 => ?_) (fun c8 => absurd c8 hT)
    refine lv_goto (tgt := 1677) hx hb dL_law_345 (by decide) ?_
    exact K _ _ _ _ _ _ _ _ _ _ _ _ _ _ _ _ _ _ (by exact rel_mono hR2 (by omega)) hP hD hS (lv_sub hl [2, 3, 4, 5, 6] rfl)

set_option maxRecDepth 100000 in
set_option maxHeartbeats 4000000 in
theorem k_step {p : Program} {l : Launch} {e : Env} {s : State} {m : MethodId} {below : List Frame} {meth : Method} {c : Code} {Q : State → Prop} {D : va_G} {kA ad : Nat → Nat} {m0 m1 m2 m3 m4 m5 o b L i N cells slots : Nat} {xs : Nat → Int32} (C0 : LC l p s m meth c D kA b L xs) {X : Nat → Nat → Int32} {z h tx pt kp : Nat → Int32} {w n0 r : Nat} {th rd nu du : Int32} {hs : Int64} {f : Nat → Int64} {H : Heap} {locs : List Loc} {ls : Array Slot} (hR2 : REL X z h tx w n0 r N) (hN : N + 1000 ≤ 600000) (hi : i + 4 ≤ L) (hL : L ≤ 2048) (hP : va_P D vwCl (LWd kA ad m0 m1 m2 m3 m4 m5 o X z h tx pt kp w n0 th rd nu du hs f) H) (hD : va_D (fun q => s.heap.size ≤ q) (LWd kA ad m0 m1 m2 m3 m4 m5 o X z h tx pt kp w n0 th rd nu du hs f)) (hS : va_S (fun q => s.heap.size ≤ q) s.heap H locs) (hl : lv_has ls 9 (lB ad b m0 o i)) (hroom : cells + 1 ≤ 601024 ∧ slots + 6 ≤ 7293034) (K : KT p l e s m below meth c Q D kA ad m0 m1 m2 m3 m4 m5 o b i (N + 1000) (cells + 1) (slots + 6)) : W p l e room_1 s m #[Value.ref b] below meth c H locs cells slots Q (F0 m 348 ls []) := by
  obtain ⟨hx, hb, hml, hown, hts, hK, hXb, hbl, hX0, hLW, hnt⟩ := C0
  obtain ⟨hXz, hI, hC, hw6, hr6, h80, h81, h82, hN3, hTB, hring⟩ := id hR2
  have hn60 := hTB.1
  have hl : lv_has ls 9 [(0, .ref b), (1, .ref (ad 0)), (2, .ref m0), (3, .ref o), (4, .int (nI i))] := hl
  have hP : va_P D vwCl (mL kA m0 m1 m2 m3 m4 m5 z h tx pt kp (nI w) (nI n0) th (-1) rd nu du hs ++ ([(o, oO kA f)] ++ cw kA ad X)) H := hP
  have hD : va_D (fun q => s.heap.size ≤ q) (mL kA m0 m1 m2 m3 m4 m5 z h tx pt kp (nI w) (nI n0) th (-1) rd nu du hs ++ ([(o, oO kA f)] ++ cw kA ad X)) := hD
  obtain ⟨v0, hv0⟩ : ∃ y, xs (nI (i + 1)).toNatClampNeg = y := ⟨_, rfl⟩
  obtain ⟨v1, hv1⟩ : ∃ y, xs (nI (i + 2)).toNatClampNeg = y := ⟨_, rfl⟩
  refine lv_aload_n hx hb dL_law_348 rfl (lv_at hl 1 rfl) ?_
  refine lv_aload_n hx hb dL_law_349 rfl (lv_at hl 0 rfl) ?_
  refine lv_iload hx hb dL_law_350 (lv_at hl 4 rfl) ?_
  refine lv_iconst (v := 1) hx hb dL_law_352 (by decide) ?_
  refine lv_iadd hx hb dL_law_353 ?_
  refine W_top (v' := .int (nI (i + 1))) (congrArg Value.int (nI_add i 1)) ?_
  refine va_sld hx hb hXb hbl (Nat.not_le.mpr hbl) hS (in_nI (j := i + 1) rfl (by omega) (by omega)) dL_law_354 ?_
  refine W_top (v' := .int v0) (congrArg Value.int hv0) ?_
  refine lv_aload_n hx hb dL_law_355 rfl (lv_at hl 0 rfl) ?_
  refine lv_iload hx hb dL_law_356 (lv_at hl 4 rfl) ?_
  refine lv_iconst (v := 2) hx hb dL_law_358 (by decide) ?_
  refine lv_iadd hx hb dL_law_359 ?_
  refine W_top (v' := .int (nI (i + 2))) (congrArg Value.int (nI_add i 2)) ?_
  refine va_sld hx hb hXb hbl (Nat.not_le.mpr hbl) hS (in_nI (j := i + 2) rfl (by omega) (by omega)) dL_law_360 ?_
  refine W_top (v' := .int v1) (congrArg Value.int hv1) ?_
  refine lv_aload_n hx hb dL_law_361 rfl (lv_at hl 3 rfl) ?_
  have hXH : XW (Aw (cw kA ad X)) s H := (hX0.kept hS.2.1).narrow (fun q9 h9 => aw_D hD.rt.rt q9 h9)
  refine cs_fk (wrunS (As := [.ref (ad 0), .int v0, .int v1, .ref o]) (rest := []) ⟨hx, hb, hml, hown, hts⟩ (w_step l D kA ad X v0 v1 r o f h80 hr6 hnt) q_551 q_552 q_0 q_553 hdw_step ⟨rfl, rfl⟩ ⟨Nat.le_of_ble_eq_true rfl, Nat.le_of_ble_eq_true rfl⟩ hK hP.r hD.rt hXH hLW rfl hl.1 rfl (Nat.le_of_ble_eq_true rfl) dL_law_362 ⟨hroom.1, hroom.2⟩) hS (aw_D hD.rt) (fun H locs hP1 hk1 hS => ?_)
  obtain ⟨hP, hD⟩ := jR hP hD hk1 hP1 lw_fst
  clear hP1 hk1 hXH
  refine lv_istore (lv' := [(5, .int (spT (X 0) v0 v1)), (0, .ref b), (1, .ref (ad 0)), (2, .ref m0), (3, .ref o), (4, .int (nI i))]) hx hb dL_law_365 hl (by decide) rfl (fun ls hl => ?_)
  refine lv_aload_n hx hb dL_law_367 rfl (lv_at hl 3 rfl) ?_
  refine lv_aload_n hx hb dL_law_368 rfl (lv_at hl 1 rfl) ?_
  refine lv_iload hx hb dL_law_369 (lv_at hl 5 rfl) ?_
  refine lv_iconst (v := 1) hx hb dL_law_371 (by decide) ?_
  refine lv_iadd hx hb dL_law_372 ?_
  refine W_top (v' := .int (nI (i + 1))) (congrArg Value.int (nI_add i 1)) ?_
  refine va_sld hx hb hXb hbl (Nat.not_le.mpr hbl) hS (in_nI (j := i + 1) rfl (by omega) (by omega)) dL_law_373 ?_
  refine W_top (v' := .int v0) (congrArg Value.int hv0) ?_
  refine lv_aload_n hx hb dL_law_374 rfl (lv_at hl 1 rfl) ?_
  refine lv_iload hx hb dL_law_375 (lv_at hl 5 rfl) ?_
  refine lv_iconst (v := 2) hx hb dL_law_377 (by decide) ?_
  refine lv_iadd hx hb dL_law_378 ?_
  refine W_top (v' := .int (nI (i + 2))) (congrArg Value.int (nI_add i 2)) ?_
  refine va_sld hx hb hXb hbl (Nat.not_le.mpr hbl) hS (in_nI (j := i + 2) rfl (by omega) (by omega)) dL_law_379 ?_
  refine W_top (v' := .int v1) (congrArg Value.int hv1) ?_
  have eT : (spT (X 0) v0 v1) = (spT z v0 v1) := by rw [hXz]
  refine cs_fs (runV (As := [.int v0, .int v1]) (rest := []) ⟨hx, hb, hml, hown, hts⟩ (m_X6_step l D kA m0 m1 m2 m3 m4 m5 z h tx pt kp (nI w) (nI n0) th (-1) rd nu du hs v0 v1 w rfl hw6 hI) q_851 q_852 q_853 q_7 q_854 hd_X6_step ⟨rfl, rfl⟩ ⟨Nat.le_of_ble_eq_true rfl, Nat.le_of_ble_eq_true rfl⟩ hK hP.l hD.lf 0 (ci := 6) (C := RX6) (T := TX6) (N := 13) rfl rfl rfl hl.1 rfl (Nat.le_of_ble_eq_true rfl) dL_law_380 ⟨hroom.1, hroom.2⟩) hS (aw_D hD.lf) (fun H locs hP1 hk1 hS => ?_)
  obtain ⟨hP, hD⟩ := jL hP hD hk1 hP1 rfl
  clear hP1 hk1
  by_cases hT : (spT (X 0) v0 v1) = 0
  · have hT2 : (spT z v0 v1) = 0 := eT.symm.trans hT
    have hP : va_P D vwCl ([(m0, .inr (6, [.ref m1, .int (nI (svN w)), .ref m2, .int (nI n0), .ref m3, .int (spT z v0 v1), .int (-1), .ref m4, .int rd, .int nu, .int du, .ref m5, .long hs])), (m1, .inl (kA 0, 148, .inl ((msL v0.toNatClampNeg (wI (spU v1)) v1.toInt.natAbs z 0).2))), (m2, .inl (kA 0, 888, .inl (svH h z w))), (m3, .inl (kA 0, 60, .inl tx)), (m4, .inl (kA 0, 72, .inl pt)), (m5, .inl (kA 0, 148, .inl kp))] ++ ([(o, oO kA (vp_updL f 0 ((msL v0.toNatClampNeg (wI (spU v1)) v1.toInt.natAbs (svX X r 0) 0).1 : Int32).toInt64))] ++ cw kA ad ((up2 (svX X r) 0 (msL v0.toNatClampNeg (wI (spU v1)) v1.toInt.natAbs (svX X r 0) 0).2)))) H := Pcg (by simp only [if_pos hT, if_pos hT2]) hP
    have hD : va_D (fun q => s.heap.size ≤ q) ([(m0, .inr (6, [.ref m1, .int (nI (svN w)), .ref m2, .int (nI n0), .ref m3, .int (spT z v0 v1), .int (-1), .ref m4, .int rd, .int nu, .int du, .ref m5, .long hs])), (m1, .inl (kA 0, 148, .inl ((msL v0.toNatClampNeg (wI (spU v1)) v1.toInt.natAbs z 0).2))), (m2, .inl (kA 0, 888, .inl (svH h z w))), (m3, .inl (kA 0, 60, .inl tx)), (m4, .inl (kA 0, 72, .inl pt)), (m5, .inl (kA 0, 148, .inl kp))] ++ ([(o, oO kA (vp_updL f 0 ((msL v0.toNatClampNeg (wI (spU v1)) v1.toInt.natAbs (svX X r 0) 0).1 : Int32).toInt64))] ++ cw kA ad ((up2 (svX X r) 0 (msL v0.toNatClampNeg (wI (spU v1)) v1.toInt.natAbs (svX X r 0) 0).2)))) := Dcg (by simp only [if_pos hT, if_pos hT2]) hD
    refine W_top (v' := .int ((msL v0.toNatClampNeg (wI (spU v1)) v1.toInt.natAbs z 0).1)) (congrArg Value.int (if_pos hT2)) ?_
    refine lv_istore (lv' := [(6, .int ((msL v0.toNatClampNeg (wI (spU v1)) v1.toInt.natAbs z 0).1)), (5, .int (spT (X 0) v0 v1)), (0, .ref b), (1, .ref (ad 0)), (2, .ref m0), (3, .ref o), (4, .int (nI i))]) hx hb dL_law_383 hl (by decide) rfl (fun ls hl => ?_)
    refine lv_aload_n hx hb dL_law_385 rfl (lv_at hl 4 rfl) ?_
    refine cs_p (runV (As := []) (rest := []) ⟨hx, hb, hml, hown, hts⟩ (m_X6_thrown l D kA m0 m1 m2 m3 m4 m5 ((msL v0.toNatClampNeg (wI (spU v1)) v1.toInt.natAbs z 0).2) (svH h z w) tx pt kp (nI (svN w)) (nI n0) (spT z v0 v1) (-1) rd nu du hs) q_810 q_811 q_812 q_7 q_813 hd_X6_thrown ⟨rfl, rfl⟩ ⟨Nat.le_of_ble_eq_true rfl, Nat.le_of_ble_eq_true rfl⟩ hK hP.l hD.lf 0 (ci := 6) (C := RX6) (T := TX6) (N := 13) rfl rfl rfl hl.1 rfl (Nat.le_of_ble_eq_true rfl) dL_law_386 ⟨hroom.1, hroom.2⟩) ?_
    refine lv_iload hx hb dL_law_389 (lv_at hl 1 rfl) ?_
    refine lv_icmp_eq (tgt := 396) hx hb dL_law_391 (by decide) (fun c9 => ?_) (fun c9 => absurd (eT.symm) c9)
    refine lv_iload hx hb dL_law_396 (lv_at hl 1 rfl) ?_
    refine lv_if_ne (tgt := 413) hx hb dL_law_398 (by decide) (fun c8 => absurd hT c8) (fun c8 => ?_)
    refine lv_aload_n hx hb dL_law_401 rfl (lv_at hl 5 rfl) ?_
    refine lv_iconst (v := 0) hx hb dL_law_402 (by decide) ?_
    refine va_lald hx hb hK hP 6 3 rfl rfl (in_nI (j := 0) rfl (by omega) (by decide)) dL_law_403 ?_
    refine W_top (v' := .long ((msL v0.toNatClampNeg (wI (spU v1)) v1.toInt.natAbs (svX X r 0) 0).1 : Int32).toInt64) rfl ?_
    refine lv_iload hx hb dL_law_404 (lv_at hl 0 rfl) ?_
    refine lv_i2l (v := ((msL v0.toNatClampNeg (wI (spU v1)) v1.toInt.natAbs z 0).1 : Int32).toInt64) hx hb dL_law_406 rfl ?_
    refine W.lcmp hx hb dL_law_407 ?_
    have eV : ((msL v0.toNatClampNeg (wI (spU v1)) v1.toInt.natAbs (svX X r 0) 0).1 : Int32) = ((msL v0.toNatClampNeg (wI (spU v1)) v1.toInt.natAbs z 0).1) := by rw [svX_0, hXz]
    refine lv_if_eq (tgt := 413) hx hb dL_law_408 (by decide) (fun c7 => ?_) (fun c7 => absurd ((lg_cmp_eq _ _).mpr (congrArg Int32.toInt64 eV)) c7)
    refine lv_goto (tgt := 1677) hx hb dL_law_413 (by decide) ?_
    exact K _ _ _ _ _ _ _ _ _ _ _ _ _ _ _ _ _ _ (by rw [svX_0, hXz]; exact rel_save (M := 1000) hR2 (Inv_ms (wi3 (spT_0 hT2).1) _ _ _ hI) (CB_mono (CB_ms (wi3 (spT_0 hT2).1) _ _ _ _ hI hC) (by have := sp_na hT2; omega))) hP hD hS (lv_sub hl [2, 3, 4, 5, 6] rfl)
  · have hT2 : ¬ (spT z v0 v1) = 0 := fun q9 => hT (eT.trans q9)
    have hP : va_P D vwCl ([(m0, .inr (6, [.ref m1, .int (nI (w)), .ref m2, .int (nI n0), .ref m3, .int (spT z v0 v1), .int (-1), .ref m4, .int rd, .int nu, .int du, .ref m5, .long hs])), (m1, .inl (kA 0, 148, .inl (z))), (m2, .inl (kA 0, 888, .inl (h))), (m3, .inl (kA 0, 60, .inl tx)), (m4, .inl (kA 0, 72, .inl pt)), (m5, .inl (kA 0, 148, .inl kp))] ++ ([(o, oO kA (f))] ++ cw kA ad (X))) H := Pcg (by simp only [if_neg hT, if_neg hT2]) hP
    have hD : va_D (fun q => s.heap.size ≤ q) ([(m0, .inr (6, [.ref m1, .int (nI (w)), .ref m2, .int (nI n0), .ref m3, .int (spT z v0 v1), .int (-1), .ref m4, .int rd, .int nu, .int du, .ref m5, .long hs])), (m1, .inl (kA 0, 148, .inl (z))), (m2, .inl (kA 0, 888, .inl (h))), (m3, .inl (kA 0, 60, .inl tx)), (m4, .inl (kA 0, 72, .inl pt)), (m5, .inl (kA 0, 148, .inl kp))] ++ ([(o, oO kA (f))] ++ cw kA ad (X))) := Dcg (by simp only [if_neg hT, if_neg hT2]) hD
    refine W_top (v' := .int (0)) (congrArg Value.int (if_neg hT2)) ?_
    refine lv_istore (lv' := [(6, .int (0)), (5, .int (spT (X 0) v0 v1)), (0, .ref b), (1, .ref (ad 0)), (2, .ref m0), (3, .ref o), (4, .int (nI i))]) hx hb dL_law_383 hl (by decide) rfl (fun ls hl => ?_)
    refine lv_aload_n hx hb dL_law_385 rfl (lv_at hl 4 rfl) ?_
    refine cs_p (runV (As := []) (rest := []) ⟨hx, hb, hml, hown, hts⟩ (m_X6_thrown l D kA m0 m1 m2 m3 m4 m5 z h tx pt kp (nI (w)) (nI n0) (spT z v0 v1) (-1) rd nu du hs) q_810 q_811 q_812 q_7 q_813 hd_X6_thrown ⟨rfl, rfl⟩ ⟨Nat.le_of_ble_eq_true rfl, Nat.le_of_ble_eq_true rfl⟩ hK hP.l hD.lf 0 (ci := 6) (C := RX6) (T := TX6) (N := 13) rfl rfl rfl hl.1 rfl (Nat.le_of_ble_eq_true rfl) dL_law_386 ⟨hroom.1, hroom.2⟩) ?_
    refine lv_iload hx hb dL_law_389 (lv_at hl 1 rfl) ?_
    refine lv_icmp_eq (tgt := 396) hx hb dL_law_391 (by decide) (fun c9 => ?_) (fun c9 => absurd (eT.symm) c9)
    refine lv_iload hx hb dL_law_396 (lv_at hl 1 rfl) ?_
    refine lv_if_ne (tgt := 413) hx hb dL_law_398 (by decide) (fun c8 => ?_) (fun c8 => absurd c8 hT)
    refine lv_goto (tgt := 1677) hx hb dL_law_413 (by decide) ?_
    exact K _ _ _ _ _ _ _ _ _ _ _ _ _ _ _ _ _ _ (by exact rel_mono hR2 (by omega)) hP hD hS (lv_sub hl [2, 3, 4, 5, 6] rfl)

set_option maxRecDepth 100000 in
set_option maxHeartbeats 4000000 in
theorem k_go {p : Program} {l : Launch} {e : Env} {s : State} {m : MethodId} {below : List Frame} {meth : Method} {c : Code} {Q : State → Prop} {D : va_G} {kA ad : Nat → Nat} {m0 m1 m2 m3 m4 m5 o b L i N cells slots : Nat} {xs : Nat → Int32} (C0 : LC l p s m meth c D kA b L xs) {X : Nat → Nat → Int32} {z h tx pt kp : Nat → Int32} {w n0 r : Nat} {th rd nu du : Int32} {hs : Int64} {f : Nat → Int64} {H : Heap} {locs : List Loc} {ls : Array Slot} (hR2 : REL X z h tx w n0 r N) (hN : N + 1000 ≤ 600000) (hi : i + 4 ≤ L) (hL : L ≤ 2048) (hP : va_P D vwCl (LWd kA ad m0 m1 m2 m3 m4 m5 o X z h tx pt kp w n0 th rd nu du hs f) H) (hD : va_D (fun q => s.heap.size ≤ q) (LWd kA ad m0 m1 m2 m3 m4 m5 o X z h tx pt kp w n0 th rd nu du hs f)) (hS : va_S (fun q => s.heap.size ≤ q) s.heap H locs) (hl : lv_has ls 9 (lB ad b m0 o i)) (hroom : cells + 1 ≤ 601024 ∧ slots + 6 ≤ 7293034) (K : KT p l e s m below meth c Q D kA ad m0 m1 m2 m3 m4 m5 o b i (N + 1000) (cells + 1) (slots + 6)) : W p l e room_1 s m #[Value.ref b] below meth c H locs cells slots Q (F0 m 416 ls []) := by
  obtain ⟨hx, hb, hml, hown, hts, hK, hXb, hbl, hX0, hLW, hnt⟩ := C0
  obtain ⟨hXz, hI, hC, hw6, hr6, h80, h81, h82, hN3, hTB, hring⟩ := id hR2
  have hn60 := hTB.1
  have hl : lv_has ls 9 [(0, .ref b), (1, .ref (ad 0)), (2, .ref m0), (3, .ref o), (4, .int (nI i))] := hl
  have hP : va_P D vwCl (mL kA m0 m1 m2 m3 m4 m5 z h tx pt kp (nI w) (nI n0) th (-1) rd nu du hs ++ ([(o, oO kA f)] ++ cw kA ad X)) H := hP
  have hD : va_D (fun q => s.heap.size ≤ q) (mL kA m0 m1 m2 m3 m4 m5 z h tx pt kp (nI w) (nI n0) th (-1) rd nu du hs ++ ([(o, oO kA f)] ++ cw kA ad X)) := hD
  obtain ⟨v0, hv0⟩ : ∃ y, xs (nI (i + 1)).toNatClampNeg = y := ⟨_, rfl⟩
  obtain ⟨v1, hv1⟩ : ∃ y, xs (nI (i + 2)).toNatClampNeg = y := ⟨_, rfl⟩
  refine lv_aload_n hx hb dL_law_416 rfl (lv_at hl 1 rfl) ?_
  refine lv_aload_n hx hb dL_law_417 rfl (lv_at hl 0 rfl) ?_
  refine lv_iload hx hb dL_law_418 (lv_at hl 4 rfl) ?_
  refine lv_iconst (v := 1) hx hb dL_law_420 (by decide) ?_
  refine lv_iadd hx hb dL_law_421 ?_
  refine W_top (v' := .int (nI (i + 1))) (congrArg Value.int (nI_add i 1)) ?_
  refine va_sld hx hb hXb hbl (Nat.not_le.mpr hbl) hS (in_nI (j := i + 1) rfl (by omega) (by omega)) dL_law_422 ?_
  refine W_top (v' := .int v0) (congrArg Value.int hv0) ?_
  refine lv_aload_n hx hb dL_law_423 rfl (lv_at hl 0 rfl) ?_
  refine lv_iload hx hb dL_law_424 (lv_at hl 4 rfl) ?_
  refine lv_iconst (v := 2) hx hb dL_law_426 (by decide) ?_
  refine lv_iadd hx hb dL_law_427 ?_
  refine W_top (v' := .int (nI (i + 2))) (congrArg Value.int (nI_add i 2)) ?_
  refine va_sld hx hb hXb hbl (Nat.not_le.mpr hbl) hS (in_nI (j := i + 2) rfl (by omega) (by omega)) dL_law_428 ?_
  refine W_top (v' := .int v1) (congrArg Value.int hv1) ?_
  refine lv_aload_n hx hb dL_law_429 rfl (lv_at hl 3 rfl) ?_
  have hXH : XW (Aw (cw kA ad X)) s H := (hX0.kept hS.2.1).narrow (fun q9 h9 => aw_D hD.rt.rt q9 h9)
  refine cs_fk (wrunS (As := [.ref (ad 0), .int v0, .int v1, .ref o]) (rest := []) ⟨hx, hb, hml, hown, hts⟩ (w_go l D kA ad X v0 v1 r o f h80 hr6 hnt) q_571 q_572 q_0 q_573 hdw_go ⟨rfl, rfl⟩ ⟨Nat.le_of_ble_eq_true rfl, Nat.le_of_ble_eq_true rfl⟩ hK hP.r hD.rt hXH hLW rfl hl.1 rfl (Nat.le_of_ble_eq_true rfl) dL_law_430 ⟨hroom.1, hroom.2⟩) hS (aw_D hD.rt) (fun H locs hP1 hk1 hS => ?_)
  obtain ⟨hP, hD⟩ := jR hP hD hk1 hP1 lw_fst
  clear hP1 hk1 hXH
  refine lv_istore (lv' := [(5, .int (goT (X 0) v0 v1)), (0, .ref b), (1, .ref (ad 0)), (2, .ref m0), (3, .ref o), (4, .int (nI i))]) hx hb dL_law_433 hl (by decide) rfl (fun ls hl => ?_)
  refine lv_aload_n hx hb dL_law_435 rfl (lv_at hl 3 rfl) ?_
  refine lv_aload_n hx hb dL_law_436 rfl (lv_at hl 1 rfl) ?_
  refine lv_iload hx hb dL_law_437 (lv_at hl 5 rfl) ?_
  refine lv_iconst (v := 1) hx hb dL_law_439 (by decide) ?_
  refine lv_iadd hx hb dL_law_440 ?_
  refine W_top (v' := .int (nI (i + 1))) (congrArg Value.int (nI_add i 1)) ?_
  refine va_sld hx hb hXb hbl (Nat.not_le.mpr hbl) hS (in_nI (j := i + 1) rfl (by omega) (by omega)) dL_law_441 ?_
  refine W_top (v' := .int v0) (congrArg Value.int hv0) ?_
  refine lv_aload_n hx hb dL_law_442 rfl (lv_at hl 1 rfl) ?_
  refine lv_iload hx hb dL_law_443 (lv_at hl 5 rfl) ?_
  refine lv_iconst (v := 2) hx hb dL_law_445 (by decide) ?_
  refine lv_iadd hx hb dL_law_446 ?_
  refine W_top (v' := .int (nI (i + 2))) (congrArg Value.int (nI_add i 2)) ?_
  refine va_sld hx hb hXb hbl (Nat.not_le.mpr hbl) hS (in_nI (j := i + 2) rfl (by omega) (by omega)) dL_law_447 ?_
  refine W_top (v' := .int v1) (congrArg Value.int hv1) ?_
  have eT : (goT (X 0) v0 v1) = (goT z v0 v1) := by rw [hXz]
  refine cs_fs (runV (As := [.int v0, .int v1]) (rest := []) ⟨hx, hb, hml, hown, hts⟩ (m_X6_go l D kA m0 m1 m2 m3 m4 m5 z h tx pt kp (nI w) (nI n0) th (-1) rd nu du hs v0 v1 w rfl hw6 hI rfl) q_893 q_894 q_895 q_7 q_896 hd_X6_go ⟨rfl, rfl⟩ ⟨Nat.le_of_ble_eq_true rfl, Nat.le_of_ble_eq_true rfl⟩ hK hP.l hD.lf 0 (ci := 6) (C := RX6) (T := TX6) (N := 13) rfl rfl rfl hl.1 rfl (Nat.le_of_ble_eq_true rfl) dL_law_448 ⟨hroom.1, hroom.2⟩) hS (aw_D hD.lf) (fun H locs hP1 hk1 hS => ?_)
  obtain ⟨hP, hD⟩ := jL hP hD hk1 hP1 rfl
  clear hP1 hk1
  by_cases hT : (goT (X 0) v0 v1) = 0
  · have hT2 : (goT z v0 v1) = 0 := eT.symm.trans hT
    have hP : va_P D vwCl ([(m0, .inr (6, [.ref m1, .int (nI (svN w)), .ref m2, .int (nI n0), .ref m3, .int (goT z v0 v1), .int (-1), .ref m4, .int rd, .int nu, .int du, .ref m5, .long hs])), (m1, .inl (kA 0, 148, .inl ((gtF z v0.toNatClampNeg v1).2))), (m2, .inl (kA 0, 888, .inl (svH h z w))), (m3, .inl (kA 0, 60, .inl tx)), (m4, .inl (kA 0, 72, .inl pt)), (m5, .inl (kA 0, 148, .inl kp))] ++ ([(o, oO kA (vp_updL f 0 ((gtF (((svX X r) 0)) v0.toNatClampNeg v1).1 : Int32).toInt64))] ++ cw kA ad ((up2 (svX X r) 0 (gtF (((svX X r) 0)) v0.toNatClampNeg v1).2)))) H := Pcg (by simp only [if_pos hT, if_pos hT2]) hP
    have hD : va_D (fun q => s.heap.size ≤ q) ([(m0, .inr (6, [.ref m1, .int (nI (svN w)), .ref m2, .int (nI n0), .ref m3, .int (goT z v0 v1), .int (-1), .ref m4, .int rd, .int nu, .int du, .ref m5, .long hs])), (m1, .inl (kA 0, 148, .inl ((gtF z v0.toNatClampNeg v1).2))), (m2, .inl (kA 0, 888, .inl (svH h z w))), (m3, .inl (kA 0, 60, .inl tx)), (m4, .inl (kA 0, 72, .inl pt)), (m5, .inl (kA 0, 148, .inl kp))] ++ ([(o, oO kA (vp_updL f 0 ((gtF (((svX X r) 0)) v0.toNatClampNeg v1).1 : Int32).toInt64))] ++ cw kA ad ((up2 (svX X r) 0 (gtF (((svX X r) 0)) v0.toNatClampNeg v1).2)))) := Dcg (by simp only [if_pos hT, if_pos hT2]) hD
    refine W_top (v' := .int ((gtF z v0.toNatClampNeg v1).1)) (congrArg Value.int (if_pos hT2)) ?_
    refine lv_istore (lv' := [(6, .int ((gtF z v0.toNatClampNeg v1).1)), (5, .int (goT (X 0) v0 v1)), (0, .ref b), (1, .ref (ad 0)), (2, .ref m0), (3, .ref o), (4, .int (nI i))]) hx hb dL_law_451 hl (by decide) rfl (fun ls hl => ?_)
    refine lv_aload_n hx hb dL_law_453 rfl (lv_at hl 4 rfl) ?_
    refine cs_p (runV (As := []) (rest := []) ⟨hx, hb, hml, hown, hts⟩ (m_X6_thrown l D kA m0 m1 m2 m3 m4 m5 ((gtF z v0.toNatClampNeg v1).2) (svH h z w) tx pt kp (nI (svN w)) (nI n0) (goT z v0 v1) (-1) rd nu du hs) q_810 q_811 q_812 q_7 q_813 hd_X6_thrown ⟨rfl, rfl⟩ ⟨Nat.le_of_ble_eq_true rfl, Nat.le_of_ble_eq_true rfl⟩ hK hP.l hD.lf 0 (ci := 6) (C := RX6) (T := TX6) (N := 13) rfl rfl rfl hl.1 rfl (Nat.le_of_ble_eq_true rfl) dL_law_454 ⟨hroom.1, hroom.2⟩) ?_
    refine lv_iload hx hb dL_law_457 (lv_at hl 1 rfl) ?_
    refine lv_icmp_eq (tgt := 464) hx hb dL_law_459 (by decide) (fun c9 => ?_) (fun c9 => absurd (eT.symm) c9)
    refine lv_iload hx hb dL_law_464 (lv_at hl 1 rfl) ?_
    refine lv_if_ne (tgt := 481) hx hb dL_law_466 (by decide) (fun c8 => absurd hT c8) (fun c8 => ?_)
    refine lv_aload_n hx hb dL_law_469 rfl (lv_at hl 5 rfl) ?_
    refine lv_iconst (v := 0) hx hb dL_law_470 (by decide) ?_
    refine va_lald hx hb hK hP 6 3 rfl rfl (in_nI (j := 0) rfl (by omega) (by decide)) dL_law_471 ?_
    refine W_top (v' := .long ((gtF (((svX X r) 0)) v0.toNatClampNeg v1).1 : Int32).toInt64) rfl ?_
    refine lv_iload hx hb dL_law_472 (lv_at hl 0 rfl) ?_
    refine lv_i2l (v := ((gtF z v0.toNatClampNeg v1).1 : Int32).toInt64) hx hb dL_law_474 rfl ?_
    refine W.lcmp hx hb dL_law_475 ?_
    have eV : ((gtF (((svX X r) 0)) v0.toNatClampNeg v1).1 : Int32) = ((gtF z v0.toNatClampNeg v1).1) := by rw [svX_0, hXz]
    refine lv_if_eq (tgt := 481) hx hb dL_law_476 (by decide) (fun c7 => ?_) (fun c7 => absurd ((lg_cmp_eq _ _).mpr (congrArg Int32.toInt64 eV)) c7)
    refine lv_goto (tgt := 1677) hx hb dL_law_481 (by decide) ?_
    exact K _ _ _ _ _ _ _ _ _ _ _ _ _ _ _ _ _ _ (by rw [svX_0, hXz]; exact rel_save (M := 1000) hR2 (Inv_go hI (wi3 (goT_0 hT2).1)) (CB_mono (CB_go hI hC (wi3 (goT_0 hT2).1)) (by omega))) hP hD hS (lv_sub hl [2, 3, 4, 5, 6] rfl)
  · have hT2 : ¬ (goT z v0 v1) = 0 := fun q9 => hT (eT.trans q9)
    have hP : va_P D vwCl ([(m0, .inr (6, [.ref m1, .int (nI (w)), .ref m2, .int (nI n0), .ref m3, .int (goT z v0 v1), .int (-1), .ref m4, .int rd, .int nu, .int du, .ref m5, .long hs])), (m1, .inl (kA 0, 148, .inl (z))), (m2, .inl (kA 0, 888, .inl (h))), (m3, .inl (kA 0, 60, .inl tx)), (m4, .inl (kA 0, 72, .inl pt)), (m5, .inl (kA 0, 148, .inl kp))] ++ ([(o, oO kA (f))] ++ cw kA ad (X))) H := Pcg (by simp only [if_neg hT, if_neg hT2]) hP
    have hD : va_D (fun q => s.heap.size ≤ q) ([(m0, .inr (6, [.ref m1, .int (nI (w)), .ref m2, .int (nI n0), .ref m3, .int (goT z v0 v1), .int (-1), .ref m4, .int rd, .int nu, .int du, .ref m5, .long hs])), (m1, .inl (kA 0, 148, .inl (z))), (m2, .inl (kA 0, 888, .inl (h))), (m3, .inl (kA 0, 60, .inl tx)), (m4, .inl (kA 0, 72, .inl pt)), (m5, .inl (kA 0, 148, .inl kp))] ++ ([(o, oO kA (f))] ++ cw kA ad (X))) := Dcg (by simp only [if_neg hT, if_neg hT2]) hD
    refine W_top (v' := .int (0)) (congrArg Value.int (if_neg hT2)) ?_
    refine lv_istore (lv' := [(6, .int (0)), (5, .int (goT (X 0) v0 v1)), (0, .ref b), (1, .ref (ad 0)), (2, .ref m0), (3, .ref o), (4, .int (nI i))]) hx hb dL_law_451 hl (by decide) rfl (fun ls hl => ?_)
    refine lv_aload_n hx hb dL_law_453 rfl (lv_at hl 4 rfl) ?_
    refine cs_p (runV (As := []) (rest := []) ⟨hx, hb, hml, hown, hts⟩ (m_X6_thrown l D kA m0 m1 m2 m3 m4 m5 z h tx pt kp (nI (w)) (nI n0) (goT z v0 v1) (-1) rd nu du hs) q_810 q_811 q_812 q_7 q_813 hd_X6_thrown ⟨rfl, rfl⟩ ⟨Nat.le_of_ble_eq_true rfl, Nat.le_of_ble_eq_true rfl⟩ hK hP.l hD.lf 0 (ci := 6) (C := RX6) (T := TX6) (N := 13) rfl rfl rfl hl.1 rfl (Nat.le_of_ble_eq_true rfl) dL_law_454 ⟨hroom.1, hroom.2⟩) ?_
    refine lv_iload hx hb dL_law_457 (lv_at hl 1 rfl) ?_
    refine lv_icmp_eq (tgt := 464) hx hb dL_law_459 (by decide) (fun c9 => ?_) (fun c9 => absurd (eT.symm) c9)
    refine lv_iload hx hb dL_law_464 (lv_at hl 1 rfl) ?_
    refine lv_if_ne (tgt := 481) hx hb dL_law_466 (by decide) (fun c8 => ?_) (fun c8 => absurd c8 hT)
    refine lv_goto (tgt := 1677) hx hb dL_law_481 (by decide) ?_
    exact K _ _ _ _ _ _ _ _ _ _ _ _ _ _ _ _ _ _ (by exact rel_mono hR2 (by omega)) hP hD hS (lv_sub hl [2, 3, 4, 5, 6] rfl)

set_option maxRecDepth 100000 in
set_option maxHeartbeats 4000000 in
theorem k_home {p : Program} {l : Launch} {e : Env} {s : State} {m : MethodId} {below : List Frame} {meth : Method} {c : Code} {Q : State → Prop} {D : va_G} {kA ad : Nat → Nat} {m0 m1 m2 m3 m4 m5 o b L i N cells slots : Nat} {xs : Nat → Int32} (C0 : LC l p s m meth c D kA b L xs) {X : Nat → Nat → Int32} {z h tx pt kp : Nat → Int32} {w n0 r : Nat} {th rd nu du : Int32} {hs : Int64} {f : Nat → Int64} {H : Heap} {locs : List Loc} {ls : Array Slot} (hR2 : REL X z h tx w n0 r N) (hN : N + 1000 ≤ 600000) (hi : i + 4 ≤ L) (hL : L ≤ 2048) (hP : va_P D vwCl (LWd kA ad m0 m1 m2 m3 m4 m5 o X z h tx pt kp w n0 th rd nu du hs f) H) (hD : va_D (fun q => s.heap.size ≤ q) (LWd kA ad m0 m1 m2 m3 m4 m5 o X z h tx pt kp w n0 th rd nu du hs f)) (hS : va_S (fun q => s.heap.size ≤ q) s.heap H locs) (hl : lv_has ls 9 (lB ad b m0 o i)) (hroom : cells + 1 ≤ 601024 ∧ slots + 6 ≤ 7293034) (K : KT p l e s m below meth c Q D kA ad m0 m1 m2 m3 m4 m5 o b i (N + 1000) (cells + 1) (slots + 6)) : W p l e room_1 s m #[Value.ref b] below meth c H locs cells slots Q (F0 m 484 ls []) := by
  obtain ⟨hx, hb, hml, hown, hts, hK, hXb, hbl, hX0, hLW, hnt⟩ := C0
  obtain ⟨hXz, hI, hC, hw6, hr6, h80, h81, h82, hN3, hTB, hring⟩ := id hR2
  have hn60 := hTB.1
  have hl : lv_has ls 9 [(0, .ref b), (1, .ref (ad 0)), (2, .ref m0), (3, .ref o), (4, .int (nI i))] := hl
  have hP : va_P D vwCl (mL kA m0 m1 m2 m3 m4 m5 z h tx pt kp (nI w) (nI n0) th (-1) rd nu du hs ++ ([(o, oO kA f)] ++ cw kA ad X)) H := hP
  have hD : va_D (fun q => s.heap.size ≤ q) (mL kA m0 m1 m2 m3 m4 m5 z h tx pt kp (nI w) (nI n0) th (-1) rd nu du hs ++ ([(o, oO kA f)] ++ cw kA ad X)) := hD
  obtain ⟨v0, hv0⟩ : ∃ y, xs (nI (i + 1)).toNatClampNeg = y := ⟨_, rfl⟩
  refine lv_aload_n hx hb dL_law_484 rfl (lv_at hl 1 rfl) ?_
  refine lv_aload_n hx hb dL_law_485 rfl (lv_at hl 0 rfl) ?_
  refine lv_iload hx hb dL_law_486 (lv_at hl 4 rfl) ?_
  refine lv_iconst (v := 1) hx hb dL_law_488 (by decide) ?_
  refine lv_iadd hx hb dL_law_489 ?_
  refine W_top (v' := .int (nI (i + 1))) (congrArg Value.int (nI_add i 1)) ?_
  refine va_sld hx hb hXb hbl (Nat.not_le.mpr hbl) hS (in_nI (j := i + 1) rfl (by omega) (by omega)) dL_law_490 ?_
  refine W_top (v' := .int v0) (congrArg Value.int hv0) ?_
  refine lv_aload_n hx hb dL_law_491 rfl (lv_at hl 3 rfl) ?_
  have hXH : XW (Aw (cw kA ad X)) s H := (hX0.kept hS.2.1).narrow (fun q9 h9 => aw_D hD.rt.rt q9 h9)
  refine cs_fk (wrunS (As := [.ref (ad 0), .int v0, .ref o]) (rest := []) ⟨hx, hb, hml, hown, hts⟩ (w_home l D kA ad X v0 r o f h80 hr6 hnt) q_594 q_595 q_0 q_596 hdw_home ⟨rfl, rfl⟩ ⟨Nat.le_of_ble_eq_true rfl, Nat.le_of_ble_eq_true rfl⟩ hK hP.r hD.rt hXH hLW rfl hl.1 rfl (Nat.le_of_ble_eq_true rfl) dL_law_492 ⟨hroom.1, hroom.2⟩) hS (aw_D hD.rt) (fun H locs hP1 hk1 hS => ?_)
  obtain ⟨hP, hD⟩ := jR hP hD hk1 hP1 lw_fst
  clear hP1 hk1 hXH
  refine lv_istore (lv' := [(5, .int (axT v0)), (0, .ref b), (1, .ref (ad 0)), (2, .ref m0), (3, .ref o), (4, .int (nI i))]) hx hb dL_law_495 hl (by decide) rfl (fun ls hl => ?_)
  refine lv_aload_n hx hb dL_law_497 rfl (lv_at hl 3 rfl) ?_
  refine lv_aload_n hx hb dL_law_498 rfl (lv_at hl 1 rfl) ?_
  refine lv_iload hx hb dL_law_499 (lv_at hl 5 rfl) ?_
  refine lv_iconst (v := 1) hx hb dL_law_501 (by decide) ?_
  refine lv_iadd hx hb dL_law_502 ?_
  refine W_top (v' := .int (nI (i + 1))) (congrArg Value.int (nI_add i 1)) ?_
  refine va_sld hx hb hXb hbl (Nat.not_le.mpr hbl) hS (in_nI (j := i + 1) rfl (by omega) (by omega)) dL_law_503 ?_
  refine W_top (v' := .int v0) (congrArg Value.int hv0) ?_
  have eT : (axT v0) = (axT v0) := rfl
  refine cs_fs (runV (As := [.int v0]) (rest := []) ⟨hx, hb, hml, hown, hts⟩ (m_X6_home l D kA m0 m1 m2 m3 m4 m5 z h tx pt kp (nI w) (nI n0) th (-1) rd nu du hs v0 w rfl hw6 hI) q_916 q_917 q_918 q_7 q_919 hd_X6_home ⟨rfl, rfl⟩ ⟨Nat.le_of_ble_eq_true rfl, Nat.le_of_ble_eq_true rfl⟩ hK hP.l hD.lf 0 (ci := 6) (C := RX6) (T := TX6) (N := 13) rfl rfl rfl hl.1 rfl (Nat.le_of_ble_eq_true rfl) dL_law_504 ⟨hroom.1, hroom.2⟩) hS (aw_D hD.lf) (fun H locs hP1 hk1 hS => ?_)
  obtain ⟨hP, hD⟩ := jL hP hD hk1 hP1 rfl
  clear hP1 hk1
  by_cases hT : (axT v0) = 0
  · have hT2 : (axT v0) = 0 := eT.symm.trans hT
    have hP : va_P D vwCl ([(m0, .inr (6, [.ref m1, .int (nI (svN w)), .ref m2, .int (nI n0), .ref m3, .int (axT v0), .int (-1), .ref m4, .int rd, .int nu, .int du, .ref m5, .long hs])), (m1, .inl (kA 0, 148, .inl (hoZ z v0.toNatClampNeg))), (m2, .inl (kA 0, 888, .inl (svH h z w))), (m3, .inl (kA 0, 60, .inl tx)), (m4, .inl (kA 0, 72, .inl pt)), (m5, .inl (kA 0, 148, .inl kp))] ++ ([(o, oO kA (vp_updL f 0 (hvF (svX X r 0) v0.toNatClampNeg : Int32).toInt64))] ++ cw kA ad ((up2 (svX X r) 0 (hmZ (svX X r 0) v0.toNatClampNeg))))) H := Pcg (by simp only [if_pos hT, if_pos hT2]) hP
    have hD : va_D (fun q => s.heap.size ≤ q) ([(m0, .inr (6, [.ref m1, .int (nI (svN w)), .ref m2, .int (nI n0), .ref m3, .int (axT v0), .int (-1), .ref m4, .int rd, .int nu, .int du, .ref m5, .long hs])), (m1, .inl (kA 0, 148, .inl (hoZ z v0.toNatClampNeg))), (m2, .inl (kA 0, 888, .inl (svH h z w))), (m3, .inl (kA 0, 60, .inl tx)), (m4, .inl (kA 0, 72, .inl pt)), (m5, .inl (kA 0, 148, .inl kp))] ++ ([(o, oO kA (vp_updL f 0 (hvF (svX X r 0) v0.toNatClampNeg : Int32).toInt64))] ++ cw kA ad ((up2 (svX X r) 0 (hmZ (svX X r 0) v0.toNatClampNeg))))) := Dcg (by simp only [if_pos hT, if_pos hT2]) hD
    refine W_top (v' := .int (hoR z v0.toNatClampNeg)) (congrArg Value.int (if_pos hT2)) ?_
    refine lv_istore (lv' := [(6, .int (hoR z v0.toNatClampNeg)), (5, .int (axT v0)), (0, .ref b), (1, .ref (ad 0)), (2, .ref m0), (3, .ref o), (4, .int (nI i))]) hx hb dL_law_507 hl (by decide) rfl (fun ls hl => ?_)
    refine lv_aload_n hx hb dL_law_509 rfl (lv_at hl 4 rfl) ?_
    refine cs_p (runV (As := []) (rest := []) ⟨hx, hb, hml, hown, hts⟩ (m_X6_thrown l D kA m0 m1 m2 m3 m4 m5 (hoZ z v0.toNatClampNeg) (svH h z w) tx pt kp (nI (svN w)) (nI n0) (axT v0) (-1) rd nu du hs) q_810 q_811 q_812 q_7 q_813 hd_X6_thrown ⟨rfl, rfl⟩ ⟨Nat.le_of_ble_eq_true rfl, Nat.le_of_ble_eq_true rfl⟩ hK hP.l hD.lf 0 (ci := 6) (C := RX6) (T := TX6) (N := 13) rfl rfl rfl hl.1 rfl (Nat.le_of_ble_eq_true rfl) dL_law_510 ⟨hroom.1, hroom.2⟩) ?_
    refine lv_iload hx hb dL_law_513 (lv_at hl 1 rfl) ?_
    refine lv_icmp_eq (tgt := 520) hx hb dL_law_515 (by decide) (fun c9 => ?_) (fun c9 => absurd (eT.symm) c9)
    refine lv_iload hx hb dL_law_520 (lv_at hl 1 rfl) ?_
    refine lv_if_ne (tgt := 537) hx hb dL_law_522 (by decide) (fun c8 => absurd hT c8) (fun c8 => ?_)
    refine lv_aload_n hx hb dL_law_525 rfl (lv_at hl 5 rfl) ?_
    refine lv_iconst (v := 0) hx hb dL_law_526 (by decide) ?_
    refine va_lald hx hb hK hP 6 3 rfl rfl (in_nI (j := 0) rfl (by omega) (by decide)) dL_law_527 ?_
    refine W_top (v' := .long (hvF (svX X r 0) v0.toNatClampNeg : Int32).toInt64) rfl ?_
    refine lv_iload hx hb dL_law_528 (lv_at hl 0 rfl) ?_
    refine lv_i2l (v := (hoR z v0.toNatClampNeg : Int32).toInt64) hx hb dL_law_530 rfl ?_
    refine W.lcmp hx hb dL_law_531 ?_
    have eV : (hvF (svX X r 0) v0.toNatClampNeg : Int32) = (hoR z v0.toNatClampNeg) := by rw [svX_0, hXz]; exact hv_ho hI hC (by omega) (wi3 (axT_0 hT2))
    refine lv_if_eq (tgt := 537) hx hb dL_law_532 (by decide) (fun c7 => ?_) (fun c7 => absurd ((lg_cmp_eq _ _).mpr (congrArg Int32.toInt64 eV)) c7)
    refine lv_goto (tgt := 1677) hx hb dL_law_537 (by decide) ?_
    exact K _ _ _ _ _ _ _ _ _ _ _ _ _ _ _ _ _ _ (by rw [svX_0, hXz, ← ho_hm hI (wi3 (axT_0 hT2))]; exact rel_save (M := 1000) hR2 (Inv_ho hI (wi3 (axT_0 hT2))) (CB_mono (CB_ho hI hC (wi3 (axT_0 hT2))) (by omega))) hP hD hS (lv_sub hl [2, 3, 4, 5, 6] rfl)
  · have hT2 : ¬ (axT v0) = 0 := fun q9 => hT (eT.trans q9)
    have hP : va_P D vwCl ([(m0, .inr (6, [.ref m1, .int (nI (w)), .ref m2, .int (nI n0), .ref m3, .int (axT v0), .int (-1), .ref m4, .int rd, .int nu, .int du, .ref m5, .long hs])), (m1, .inl (kA 0, 148, .inl (z))), (m2, .inl (kA 0, 888, .inl (h))), (m3, .inl (kA 0, 60, .inl tx)), (m4, .inl (kA 0, 72, .inl pt)), (m5, .inl (kA 0, 148, .inl kp))] ++ ([(o, oO kA (f))] ++ cw kA ad (X))) H := Pcg (by simp only [if_neg hT, if_neg hT2]) hP
    have hD : va_D (fun q => s.heap.size ≤ q) ([(m0, .inr (6, [.ref m1, .int (nI (w)), .ref m2, .int (nI n0), .ref m3, .int (axT v0), .int (-1), .ref m4, .int rd, .int nu, .int du, .ref m5, .long hs])), (m1, .inl (kA 0, 148, .inl (z))), (m2, .inl (kA 0, 888, .inl (h))), (m3, .inl (kA 0, 60, .inl tx)), (m4, .inl (kA 0, 72, .inl pt)), (m5, .inl (kA 0, 148, .inl kp))] ++ ([(o, oO kA (f))] ++ cw kA ad (X))) := Dcg (by simp only [if_neg hT, if_neg hT2]) hD
    refine W_top (v' := .int (0)) (congrArg Value.int (if_neg hT2)) ?_
    refine lv_istore (lv' := [(6, .int (0)), (5, .int (axT v0)), (0, .ref b), (1, .ref (ad 0)), (2, .ref m0), (3, .ref o), (4, .int (nI i))]) hx hb dL_law_507 hl (by decide) rfl (fun ls hl => ?_)
    refine lv_aload_n hx hb dL_law_509 rfl (lv_at hl 4 rfl) ?_
    refine cs_p (runV (As := []) (rest := []) ⟨hx, hb, hml, hown, hts⟩ (m_X6_thrown l D kA m0 m1 m2 m3 m4 m5 z h tx pt kp (nI (w)) (nI n0) (axT v0) (-1) rd nu du hs) q_810 q_811 q_812 q_7 q_813 hd_X6_thrown ⟨rfl, rfl⟩ ⟨Nat.le_of_ble_eq_true rfl, Nat.le_of_ble_eq_true rfl⟩ hK hP.l hD.lf 0 (ci := 6) (C := RX6) (T := TX6) (N := 13) rfl rfl rfl hl.1 rfl (Nat.le_of_ble_eq_true rfl) dL_law_510 ⟨hroom.1, hroom.2⟩) ?_
    refine lv_iload hx hb dL_law_513 (lv_at hl 1 rfl) ?_
    refine lv_icmp_eq (tgt := 520) hx hb dL_law_515 (by decide) (fun c9 => ?_) (fun c9 => absurd (eT.symm) c9)
    refine lv_iload hx hb dL_law_520 (lv_at hl 1 rfl) ?_
    refine lv_if_ne (tgt := 537) hx hb dL_law_522 (by decide) (fun c8 => ?_) (fun c8 => absurd c8 hT)
    refine lv_goto (tgt := 1677) hx hb dL_law_537 (by decide) ?_
    exact K _ _ _ _ _ _ _ _ _ _ _ _ _ _ _ _ _ _ (by exact rel_mono hR2 (by omega)) hP hD hS (lv_sub hl [2, 3, 4, 5, 6] rfl)

set_option maxRecDepth 100000 in
set_option maxHeartbeats 4000000 in
theorem k_grease {p : Program} {l : Launch} {e : Env} {s : State} {m : MethodId} {below : List Frame} {meth : Method} {c : Code} {Q : State → Prop} {D : va_G} {kA ad : Nat → Nat} {m0 m1 m2 m3 m4 m5 o b L i N cells slots : Nat} {xs : Nat → Int32} (C0 : LC l p s m meth c D kA b L xs) {X : Nat → Nat → Int32} {z h tx pt kp : Nat → Int32} {w n0 r : Nat} {th rd nu du : Int32} {hs : Int64} {f : Nat → Int64} {H : Heap} {locs : List Loc} {ls : Array Slot} (hR2 : REL X z h tx w n0 r N) (hN : N + 1000 ≤ 600000) (hi : i + 4 ≤ L) (hL : L ≤ 2048) (hP : va_P D vwCl (LWd kA ad m0 m1 m2 m3 m4 m5 o X z h tx pt kp w n0 th rd nu du hs f) H) (hD : va_D (fun q => s.heap.size ≤ q) (LWd kA ad m0 m1 m2 m3 m4 m5 o X z h tx pt kp w n0 th rd nu du hs f)) (hS : va_S (fun q => s.heap.size ≤ q) s.heap H locs) (hl : lv_has ls 9 (lB ad b m0 o i)) (hroom : cells + 1 ≤ 601024 ∧ slots + 6 ≤ 7293034) (K : KT p l e s m below meth c Q D kA ad m0 m1 m2 m3 m4 m5 o b i (N + 1000) (cells + 1) (slots + 6)) : W p l e room_1 s m #[Value.ref b] below meth c H locs cells slots Q (F0 m 540 ls []) := by
  obtain ⟨hx, hb, hml, hown, hts, hK, hXb, hbl, hX0, hLW, hnt⟩ := C0
  obtain ⟨hXz, hI, hC, hw6, hr6, h80, h81, h82, hN3, hTB, hring⟩ := id hR2
  have hn60 := hTB.1
  have hl : lv_has ls 9 [(0, .ref b), (1, .ref (ad 0)), (2, .ref m0), (3, .ref o), (4, .int (nI i))] := hl
  have hP : va_P D vwCl (mL kA m0 m1 m2 m3 m4 m5 z h tx pt kp (nI w) (nI n0) th (-1) rd nu du hs ++ ([(o, oO kA f)] ++ cw kA ad X)) H := hP
  have hD : va_D (fun q => s.heap.size ≤ q) (mL kA m0 m1 m2 m3 m4 m5 z h tx pt kp (nI w) (nI n0) th (-1) rd nu du hs ++ ([(o, oO kA f)] ++ cw kA ad X)) := hD
  obtain ⟨v0, hv0⟩ : ∃ y, xs (nI (i + 1)).toNatClampNeg = y := ⟨_, rfl⟩
  refine lv_aload_n hx hb dL_law_540 rfl (lv_at hl 1 rfl) ?_
  refine lv_aload_n hx hb dL_law_541 rfl (lv_at hl 0 rfl) ?_
  refine lv_iload hx hb dL_law_542 (lv_at hl 4 rfl) ?_
  refine lv_iconst (v := 1) hx hb dL_law_544 (by decide) ?_
  refine lv_iadd hx hb dL_law_545 ?_
  refine W_top (v' := .int (nI (i + 1))) (congrArg Value.int (nI_add i 1)) ?_
  refine va_sld hx hb hXb hbl (Nat.not_le.mpr hbl) hS (in_nI (j := i + 1) rfl (by omega) (by omega)) dL_law_546 ?_
  refine W_top (v' := .int v0) (congrArg Value.int hv0) ?_
  refine lv_aload_n hx hb dL_law_547 rfl (lv_at hl 3 rfl) ?_
  have hXH : XW (Aw (cw kA ad X)) s H := (hX0.kept hS.2.1).narrow (fun q9 h9 => aw_D hD.rt.rt q9 h9)
  refine cs_fk (wrunS (As := [.ref (ad 0), .int v0, .ref o]) (rest := []) ⟨hx, hb, hml, hown, hts⟩ (w_grease l D kA ad X v0 r o f h80 hr6 hnt) q_605 q_606 q_0 q_607 hdw_grease ⟨rfl, rfl⟩ ⟨Nat.le_of_ble_eq_true rfl, Nat.le_of_ble_eq_true rfl⟩ hK hP.r hD.rt hXH hLW rfl hl.1 rfl (Nat.le_of_ble_eq_true rfl) dL_law_548 ⟨hroom.1, hroom.2⟩) hS (aw_D hD.rt) (fun H locs hP1 hk1 hS => ?_)
  obtain ⟨hP, hD⟩ := jR hP hD hk1 hP1 lw_fst
  clear hP1 hk1 hXH
  refine lv_istore (lv' := [(5, .int (geT (X 0) v0)), (0, .ref b), (1, .ref (ad 0)), (2, .ref m0), (3, .ref o), (4, .int (nI i))]) hx hb dL_law_551 hl (by decide) rfl (fun ls hl => ?_)
  refine lv_aload_n hx hb dL_law_553 rfl (lv_at hl 3 rfl) ?_
  refine lv_aload_n hx hb dL_law_554 rfl (lv_at hl 1 rfl) ?_
  refine lv_iload hx hb dL_law_555 (lv_at hl 5 rfl) ?_
  refine lv_iconst (v := 1) hx hb dL_law_557 (by decide) ?_
  refine lv_iadd hx hb dL_law_558 ?_
  refine W_top (v' := .int (nI (i + 1))) (congrArg Value.int (nI_add i 1)) ?_
  refine va_sld hx hb hXb hbl (Nat.not_le.mpr hbl) hS (in_nI (j := i + 1) rfl (by omega) (by omega)) dL_law_559 ?_
  refine W_top (v' := .int v0) (congrArg Value.int hv0) ?_
  have eT : (geT (X 0) v0) = (geT z v0) := by rw [hXz]
  refine cs_fs (runV (As := [.int v0]) (rest := []) ⟨hx, hb, hml, hown, hts⟩ (m_X6_grease l D kA m0 m1 m2 m3 m4 m5 z h tx pt kp (nI w) (nI n0) th (-1) rd nu du hs v0 w rfl hw6) q_924 q_925 q_926 q_7 q_927 hd_X6_grease ⟨rfl, rfl⟩ ⟨Nat.le_of_ble_eq_true rfl, Nat.le_of_ble_eq_true rfl⟩ hK hP.l hD.lf 0 (ci := 6) (C := RX6) (T := TX6) (N := 13) rfl rfl rfl hl.1 rfl (Nat.le_of_ble_eq_true rfl) dL_law_560 ⟨hroom.1, hroom.2⟩) hS (aw_D hD.lf) (fun H locs hP1 hk1 hS => ?_)
  obtain ⟨hP, hD⟩ := jL hP hD hk1 hP1 rfl
  clear hP1 hk1
  by_cases hT : (geT (X 0) v0) = 0
  · have hT2 : (geT z v0) = 0 := eT.symm.trans hT
    have hP : va_P D vwCl ([(m0, .inr (6, [.ref m1, .int (nI (svN w)), .ref m2, .int (nI n0), .ref m3, .int (geT z v0), .int (-1), .ref m4, .int rd, .int nu, .int du, .ref m5, .long hs])), (m1, .inl (kA 0, 148, .inl (grZ z v0.toNatClampNeg))), (m2, .inl (kA 0, 888, .inl (svH h z w))), (m3, .inl (kA 0, 60, .inl tx)), (m4, .inl (kA 0, 72, .inl pt)), (m5, .inl (kA 0, 148, .inl kp))] ++ ([(o, oO kA (vp_updL f 0 ((grZ (((svX X r) 0)) v0.toNatClampNeg) 6 : Int32).toInt64))] ++ cw kA ad ((up2 (svX X r) 0 (grZ (((svX X r) 0)) v0.toNatClampNeg))))) H := Pcg (by simp only [if_pos hT, if_pos hT2]) hP
    have hD : va_D (fun q => s.heap.size ≤ q) ([(m0, .inr (6, [.ref m1, .int (nI (svN w)), .ref m2, .int (nI n0), .ref m3, .int (geT z v0), .int (-1), .ref m4, .int rd, .int nu, .int du, .ref m5, .long hs])), (m1, .inl (kA 0, 148, .inl (grZ z v0.toNatClampNeg))), (m2, .inl (kA 0, 888, .inl (svH h z w))), (m3, .inl (kA 0, 60, .inl tx)), (m4, .inl (kA 0, 72, .inl pt)), (m5, .inl (kA 0, 148, .inl kp))] ++ ([(o, oO kA (vp_updL f 0 ((grZ (((svX X r) 0)) v0.toNatClampNeg) 6 : Int32).toInt64))] ++ cw kA ad ((up2 (svX X r) 0 (grZ (((svX X r) 0)) v0.toNatClampNeg))))) := Dcg (by simp only [if_pos hT, if_pos hT2]) hD
    refine W_top (v' := .int (z 6 - z 5)) (congrArg Value.int (if_pos hT2)) ?_
    refine lv_istore (lv' := [(6, .int (z 6 - z 5)), (5, .int (geT (X 0) v0)), (0, .ref b), (1, .ref (ad 0)), (2, .ref m0), (3, .ref o), (4, .int (nI i))]) hx hb dL_law_563 hl (by decide) rfl (fun ls hl => ?_)
    refine lv_aload_n hx hb dL_law_565 rfl (lv_at hl 4 rfl) ?_
    refine cs_p (runV (As := []) (rest := []) ⟨hx, hb, hml, hown, hts⟩ (m_X6_thrown l D kA m0 m1 m2 m3 m4 m5 (grZ z v0.toNatClampNeg) (svH h z w) tx pt kp (nI (svN w)) (nI n0) (geT z v0) (-1) rd nu du hs) q_810 q_811 q_812 q_7 q_813 hd_X6_thrown ⟨rfl, rfl⟩ ⟨Nat.le_of_ble_eq_true rfl, Nat.le_of_ble_eq_true rfl⟩ hK hP.l hD.lf 0 (ci := 6) (C := RX6) (T := TX6) (N := 13) rfl rfl rfl hl.1 rfl (Nat.le_of_ble_eq_true rfl) dL_law_566 ⟨hroom.1, hroom.2⟩) ?_
    refine lv_iload hx hb dL_law_569 (lv_at hl 1 rfl) ?_
    refine lv_icmp_eq (tgt := 576) hx hb dL_law_571 (by decide) (fun c9 => ?_) (fun c9 => absurd (eT.symm) c9)
    refine lv_iload hx hb dL_law_576 (lv_at hl 1 rfl) ?_
    refine lv_if_ne (tgt := 593) hx hb dL_law_578 (by decide) (fun c8 => absurd hT c8) (fun c8 => ?_)
    refine lv_aload_n hx hb dL_law_581 rfl (lv_at hl 5 rfl) ?_
    refine lv_iconst (v := 0) hx hb dL_law_582 (by decide) ?_
    refine va_lald hx hb hK hP 6 3 rfl rfl (in_nI (j := 0) rfl (by omega) (by decide)) dL_law_583 ?_
    refine W_top (v' := .long ((grZ (((svX X r) 0)) v0.toNatClampNeg) 6 : Int32).toInt64) rfl ?_
    refine lv_iload hx hb dL_law_584 (lv_at hl 0 rfl) ?_
    refine lv_i2l (v := (z 6 - z 5 : Int32).toInt64) hx hb dL_law_586 rfl ?_
    refine W.lcmp hx hb dL_law_587 ?_
    have eV : ((grZ (((svX X r) 0)) v0.toNatClampNeg) 6 : Int32) = (z 6 - z 5) := by rw [svX_0, hXz]; exact gr6
    refine lv_if_eq (tgt := 593) hx hb dL_law_588 (by decide) (fun c7 => ?_) (fun c7 => absurd ((lg_cmp_eq _ _).mpr (congrArg Int32.toInt64 eV)) c7)
    refine lv_goto (tgt := 1677) hx hb dL_law_593 (by decide) ?_
    exact K _ _ _ _ _ _ _ _ _ _ _ _ _ _ _ _ _ _ (by rw [svX_0, hXz]; exact rel_save (M := 1000) hR2 (Inv_gr hI (wi3 (geT_0 hT2).1) (gsF_t (geT_0 hT2).2)) (CB_mono (CB_gr hC (wi3 (geT_0 hT2).1)) (by omega))) hP hD hS (lv_sub hl [2, 3, 4, 5, 6] rfl)
  · have hT2 : ¬ (geT z v0) = 0 := fun q9 => hT (eT.trans q9)
    have hP : va_P D vwCl ([(m0, .inr (6, [.ref m1, .int (nI (w)), .ref m2, .int (nI n0), .ref m3, .int (geT z v0), .int (-1), .ref m4, .int rd, .int nu, .int du, .ref m5, .long hs])), (m1, .inl (kA 0, 148, .inl (z))), (m2, .inl (kA 0, 888, .inl (h))), (m3, .inl (kA 0, 60, .inl tx)), (m4, .inl (kA 0, 72, .inl pt)), (m5, .inl (kA 0, 148, .inl kp))] ++ ([(o, oO kA (f))] ++ cw kA ad (X))) H := Pcg (by simp only [if_neg hT, if_neg hT2]) hP
    have hD : va_D (fun q => s.heap.size ≤ q) ([(m0, .inr (6, [.ref m1, .int (nI (w)), .ref m2, .int (nI n0), .ref m3, .int (geT z v0), .int (-1), .ref m4, .int rd, .int nu, .int du, .ref m5, .long hs])), (m1, .inl (kA 0, 148, .inl (z))), (m2, .inl (kA 0, 888, .inl (h))), (m3, .inl (kA 0, 60, .inl tx)), (m4, .inl (kA 0, 72, .inl pt)), (m5, .inl (kA 0, 148, .inl kp))] ++ ([(o, oO kA (f))] ++ cw kA ad (X))) := Dcg (by simp only [if_neg hT, if_neg hT2]) hD
    refine W_top (v' := .int (0)) (congrArg Value.int (if_neg hT2)) ?_
    refine lv_istore (lv' := [(6, .int (0)), (5, .int (geT (X 0) v0)), (0, .ref b), (1, .ref (ad 0)), (2, .ref m0), (3, .ref o), (4, .int (nI i))]) hx hb dL_law_563 hl (by decide) rfl (fun ls hl => ?_)
    refine lv_aload_n hx hb dL_law_565 rfl (lv_at hl 4 rfl) ?_
    refine cs_p (runV (As := []) (rest := []) ⟨hx, hb, hml, hown, hts⟩ (m_X6_thrown l D kA m0 m1 m2 m3 m4 m5 z h tx pt kp (nI (w)) (nI n0) (geT z v0) (-1) rd nu du hs) q_810 q_811 q_812 q_7 q_813 hd_X6_thrown ⟨rfl, rfl⟩ ⟨Nat.le_of_ble_eq_true rfl, Nat.le_of_ble_eq_true rfl⟩ hK hP.l hD.lf 0 (ci := 6) (C := RX6) (T := TX6) (N := 13) rfl rfl rfl hl.1 rfl (Nat.le_of_ble_eq_true rfl) dL_law_566 ⟨hroom.1, hroom.2⟩) ?_
    refine lv_iload hx hb dL_law_569 (lv_at hl 1 rfl) ?_
    refine lv_icmp_eq (tgt := 576) hx hb dL_law_571 (by decide) (fun c9 => ?_) (fun c9 => absurd (eT.symm) c9)
    refine lv_iload hx hb dL_law_576 (lv_at hl 1 rfl) ?_
    refine lv_if_ne (tgt := 593) hx hb dL_law_578 (by decide) (fun c8 => ?_) (fun c8 => absurd c8 hT)
    refine lv_goto (tgt := 1677) hx hb dL_law_593 (by decide) ?_
    exact K _ _ _ _ _ _ _ _ _ _ _ _ _ _ _ _ _ _ (by exact rel_mono hR2 (by omega)) hP hD hS (lv_sub hl [2, 3, 4, 5, 6] rfl)

set_option maxRecDepth 100000 in
set_option maxHeartbeats 4000000 in
theorem k_mend {p : Program} {l : Launch} {e : Env} {s : State} {m : MethodId} {below : List Frame} {meth : Method} {c : Code} {Q : State → Prop} {D : va_G} {kA ad : Nat → Nat} {m0 m1 m2 m3 m4 m5 o b L i N cells slots : Nat} {xs : Nat → Int32} (C0 : LC l p s m meth c D kA b L xs) {X : Nat → Nat → Int32} {z h tx pt kp : Nat → Int32} {w n0 r : Nat} {th rd nu du : Int32} {hs : Int64} {f : Nat → Int64} {H : Heap} {locs : List Loc} {ls : Array Slot} (hR2 : REL X z h tx w n0 r N) (hN : N + 1000 ≤ 600000) (hi : i + 4 ≤ L) (hL : L ≤ 2048) (hP : va_P D vwCl (LWd kA ad m0 m1 m2 m3 m4 m5 o X z h tx pt kp w n0 th rd nu du hs f) H) (hD : va_D (fun q => s.heap.size ≤ q) (LWd kA ad m0 m1 m2 m3 m4 m5 o X z h tx pt kp w n0 th rd nu du hs f)) (hS : va_S (fun q => s.heap.size ≤ q) s.heap H locs) (hl : lv_has ls 9 (lB ad b m0 o i)) (hroom : cells + 1 ≤ 601024 ∧ slots + 6 ≤ 7293034) (K : KT p l e s m below meth c Q D kA ad m0 m1 m2 m3 m4 m5 o b i (N + 1000) (cells + 1) (slots + 6)) : W p l e room_1 s m #[Value.ref b] below meth c H locs cells slots Q (F0 m 596 ls []) := by
  obtain ⟨hx, hb, hml, hown, hts, hK, hXb, hbl, hX0, hLW, hnt⟩ := C0
  obtain ⟨hXz, hI, hC, hw6, hr6, h80, h81, h82, hN3, hTB, hring⟩ := id hR2
  have hn60 := hTB.1
  have hl : lv_has ls 9 [(0, .ref b), (1, .ref (ad 0)), (2, .ref m0), (3, .ref o), (4, .int (nI i))] := hl
  have hP : va_P D vwCl (mL kA m0 m1 m2 m3 m4 m5 z h tx pt kp (nI w) (nI n0) th (-1) rd nu du hs ++ ([(o, oO kA f)] ++ cw kA ad X)) H := hP
  have hD : va_D (fun q => s.heap.size ≤ q) (mL kA m0 m1 m2 m3 m4 m5 z h tx pt kp (nI w) (nI n0) th (-1) rd nu du hs ++ ([(o, oO kA f)] ++ cw kA ad X)) := hD
  obtain ⟨v0, hv0⟩ : ∃ y, xs (nI (i + 1)).toNatClampNeg = y := ⟨_, rfl⟩
  obtain ⟨v1, hv1⟩ : ∃ y, xs (nI (i + 2)).toNatClampNeg = y := ⟨_, rfl⟩
  refine lv_aload_n hx hb dL_law_596 rfl (lv_at hl 1 rfl) ?_
  refine lv_aload_n hx hb dL_law_597 rfl (lv_at hl 0 rfl) ?_
  refine lv_iload hx hb dL_law_598 (lv_at hl 4 rfl) ?_
  refine lv_iconst (v := 1) hx hb dL_law_600 (by decide) ?_
  refine lv_iadd hx hb dL_law_601 ?_
  refine W_top (v' := .int (nI (i + 1))) (congrArg Value.int (nI_add i 1)) ?_
  refine va_sld hx hb hXb hbl (Nat.not_le.mpr hbl) hS (in_nI (j := i + 1) rfl (by omega) (by omega)) dL_law_602 ?_
  refine W_top (v' := .int v0) (congrArg Value.int hv0) ?_
  refine lv_aload_n hx hb dL_law_603 rfl (lv_at hl 0 rfl) ?_
  refine lv_iload hx hb dL_law_604 (lv_at hl 4 rfl) ?_
  refine lv_iconst (v := 2) hx hb dL_law_606 (by decide) ?_
  refine lv_iadd hx hb dL_law_607 ?_
  refine W_top (v' := .int (nI (i + 2))) (congrArg Value.int (nI_add i 2)) ?_
  refine va_sld hx hb hXb hbl (Nat.not_le.mpr hbl) hS (in_nI (j := i + 2) rfl (by omega) (by omega)) dL_law_608 ?_
  refine W_top (v' := .int v1) (congrArg Value.int hv1) ?_
  refine lv_aload_n hx hb dL_law_609 rfl (lv_at hl 3 rfl) ?_
  have hXH : XW (Aw (cw kA ad X)) s H := (hX0.kept hS.2.1).narrow (fun q9 h9 => aw_D hD.rt.rt q9 h9)
  refine cs_fk (wrunS (As := [.ref (ad 0), .int v0, .int v1, .ref o]) (rest := []) ⟨hx, hb, hml, hown, hts⟩ (w_mend l D kA ad X v0 v1 r o f h80 hr6 hnt) q_625 q_626 q_0 q_627 hdw_mend ⟨rfl, rfl⟩ ⟨Nat.le_of_ble_eq_true rfl, Nat.le_of_ble_eq_true rfl⟩ hK hP.r hD.rt hXH hLW rfl hl.1 rfl (Nat.le_of_ble_eq_true rfl) dL_law_610 ⟨hroom.1, hroom.2⟩) hS (aw_D hD.rt) (fun H locs hP1 hk1 hS => ?_)
  obtain ⟨hP, hD⟩ := jR hP hD hk1 hP1 lw_fst
  clear hP1 hk1 hXH
  refine lv_istore (lv' := [(5, .int (meT (X 0) v0 v1)), (0, .ref b), (1, .ref (ad 0)), (2, .ref m0), (3, .ref o), (4, .int (nI i))]) hx hb dL_law_613 hl (by decide) rfl (fun ls hl => ?_)
  refine lv_aload_n hx hb dL_law_615 rfl (lv_at hl 3 rfl) ?_
  refine lv_aload_n hx hb dL_law_616 rfl (lv_at hl 1 rfl) ?_
  refine lv_iload hx hb dL_law_617 (lv_at hl 5 rfl) ?_
  refine lv_iconst (v := 1) hx hb dL_law_619 (by decide) ?_
  refine lv_iadd hx hb dL_law_620 ?_
  refine W_top (v' := .int (nI (i + 1))) (congrArg Value.int (nI_add i 1)) ?_
  refine va_sld hx hb hXb hbl (Nat.not_le.mpr hbl) hS (in_nI (j := i + 1) rfl (by omega) (by omega)) dL_law_621 ?_
  refine W_top (v' := .int v0) (congrArg Value.int hv0) ?_
  refine lv_aload_n hx hb dL_law_622 rfl (lv_at hl 1 rfl) ?_
  refine lv_iload hx hb dL_law_623 (lv_at hl 5 rfl) ?_
  refine lv_iconst (v := 2) hx hb dL_law_625 (by decide) ?_
  refine lv_iadd hx hb dL_law_626 ?_
  refine W_top (v' := .int (nI (i + 2))) (congrArg Value.int (nI_add i 2)) ?_
  refine va_sld hx hb hXb hbl (Nat.not_le.mpr hbl) hS (in_nI (j := i + 2) rfl (by omega) (by omega)) dL_law_627 ?_
  refine W_top (v' := .int v1) (congrArg Value.int hv1) ?_
  have eT : (meT (X 0) v0 v1) = (meT z v0 v1) := by rw [hXz]
  refine cs_fs (runV (As := [.int v0, .int v1]) (rest := []) ⟨hx, hb, hml, hown, hts⟩ (m_X6_mend l D kA m0 m1 m2 m3 m4 m5 z h tx pt kp (nI w) (nI n0) th (-1) rd nu du hs v0 v1 w rfl hw6) q_940 q_941 q_942 q_7 q_943 hd_X6_mend ⟨rfl, rfl⟩ ⟨Nat.le_of_ble_eq_true rfl, Nat.le_of_ble_eq_true rfl⟩ hK hP.l hD.lf 0 (ci := 6) (C := RX6) (T := TX6) (N := 13) rfl rfl rfl hl.1 rfl (Nat.le_of_ble_eq_true rfl) dL_law_628 ⟨hroom.1, hroom.2⟩) hS (aw_D hD.lf) (fun H locs hP1 hk1 hS => ?_)
  obtain ⟨hP, hD⟩ := jL hP hD hk1 hP1 rfl
  clear hP1 hk1
  by_cases hT : (meT (X 0) v0 v1) = 0
  · have hT2 : (meT z v0 v1) = 0 := eT.symm.trans hT
    have hP : va_P D vwCl ([(m0, .inr (6, [.ref m1, .int (nI (svN w)), .ref m2, .int (nI n0), .ref m3, .int (meT z v0 v1), .int (-1), .ref m4, .int rd, .int nu, .int du, .ref m5, .long hs])), (m1, .inl (kA 0, 148, .inl (puZ (payZ z (gwr (sl z v0.toNatClampNeg) v1 * z 3)) v0.toNatClampNeg (v1.toNatClampNeg + 11) 0))), (m2, .inl (kA 0, 888, .inl (svH h z w))), (m3, .inl (kA 0, 60, .inl tx)), (m4, .inl (kA 0, 72, .inl pt)), (m5, .inl (kA 0, 148, .inl kp))] ++ ([(o, oO kA (vp_updL f 0 ((wrF (fun t => (sl ((X 0)) v0.toNatClampNeg) (t + 11)) v1) * ((X 0) 3) : Int32).toInt64))] ++ cw kA ad ((up2 (svX X r) 0 (inG (payZ (((svX X r) 0)) ((wrF (fun t => (sl ((X 0)) v0.toNatClampNeg) (t + 11)) v1) * ((X 0) 3))) v0.toNatClampNeg (mkG ((sl ((payZ (((svX X r) 0)) ((wrF (fun t => (sl ((X 0)) v0.toNatClampNeg) (t + 11)) v1) * ((X 0) 3)))) v0.toNatClampNeg) 0) ((sl ((payZ (((svX X r) 0)) ((wrF (fun t => (sl ((X 0)) v0.toNatClampNeg) (t + 11)) v1) * ((X 0) 3)))) v0.toNatClampNeg) 1) ((sl ((payZ (((svX X r) 0)) ((wrF (fun t => (sl ((X 0)) v0.toNatClampNeg) (t + 11)) v1) * ((X 0) 3)))) v0.toNatClampNeg) 2) ((sl ((payZ (((svX X r) 0)) ((wrF (fun t => (sl ((X 0)) v0.toNatClampNeg) (t + 11)) v1) * ((X 0) 3)))) v0.toNatClampNeg) 3) ((sl ((payZ (((svX X r) 0)) ((wrF (fun t => (sl ((X 0)) v0.toNatClampNeg) (t + 11)) v1) * ((X 0) 3)))) v0.toNatClampNeg) 4) ((sl ((payZ (((svX X r) 0)) ((wrF (fun t => (sl ((X 0)) v0.toNatClampNeg) (t + 11)) v1) * ((X 0) 3)))) v0.toNatClampNeg) 5) ((sl ((payZ (((svX X r) 0)) ((wrF (fun t => (sl ((X 0)) v0.toNatClampNeg) (t + 11)) v1) * ((X 0) 3)))) v0.toNatClampNeg) 6) ((sl ((payZ (((svX X r) 0)) ((wrF (fun t => (sl ((X 0)) v0.toNatClampNeg) (t + 11)) v1) * ((X 0) 3)))) v0.toNatClampNeg) 7) ((sl ((payZ (((svX X r) 0)) ((wrF (fun t => (sl ((X 0)) v0.toNatClampNeg) (t + 11)) v1) * ((X 0) 3)))) v0.toNatClampNeg) 8) ((sl ((payZ (((svX X r) 0)) ((wrF (fun t => (sl ((X 0)) v0.toNatClampNeg) (t + 11)) v1) * ((X 0) 3)))) v0.toNatClampNeg) 9) ((sl ((payZ (((svX X r) 0)) ((wrF (fun t => (sl ((X 0)) v0.toNatClampNeg) (t + 11)) v1) * ((X 0) 3)))) v0.toNatClampNeg) 10) (wsF (fun t => (sl ((payZ (((svX X r) 0)) ((wrF (fun t => (sl ((X 0)) v0.toNatClampNeg) (t + 11)) v1) * ((X 0) 3)))) v0.toNatClampNeg) (t + 11)) v1 0))))))) H := Pcg (by simp only [if_pos hT, if_pos hT2]) hP
    have hD : va_D (fun q => s.heap.size ≤ q) ([(m0, .inr (6, [.ref m1, .int (nI (svN w)), .ref m2, .int (nI n0), .ref m3, .int (meT z v0 v1), .int (-1), .ref m4, .int rd, .int nu, .int du, .ref m5, .long hs])), (m1, .inl (kA 0, 148, .inl (puZ (payZ z (gwr (sl z v0.toNatClampNeg) v1 * z 3)) v0.toNatClampNeg (v1.toNatClampNeg + 11) 0))), (m2, .inl (kA 0, 888, .inl (svH h z w))), (m3, .inl (kA 0, 60, .inl tx)), (m4, .inl (kA 0, 72, .inl pt)), (m5, .inl (kA 0, 148, .inl kp))] ++ ([(o, oO kA (vp_updL f 0 ((wrF (fun t => (sl ((X 0)) v0.toNatClampNeg) (t + 11)) v1) * ((X 0) 3) : Int32).toInt64))] ++ cw kA ad ((up2 (svX X r) 0 (inG (payZ (((svX X r) 0)) ((wrF (fun t => (sl ((X 0)) v0.toNatClampNeg) (t + 11)) v1) * ((X 0) 3))) v0.toNatClampNeg (mkG ((sl ((payZ (((svX X r) 0)) ((wrF (fun t => (sl ((X 0)) v0.toNatClampNeg) (t + 11)) v1) * ((X 0) 3)))) v0.toNatClampNeg) 0) ((sl ((payZ (((svX X r) 0)) ((wrF (fun t => (sl ((X 0)) v0.toNatClampNeg) (t + 11)) v1) * ((X 0) 3)))) v0.toNatClampNeg) 1) ((sl ((payZ (((svX X r) 0)) ((wrF (fun t => (sl ((X 0)) v0.toNatClampNeg) (t + 11)) v1) * ((X 0) 3)))) v0.toNatClampNeg) 2) ((sl ((payZ (((svX X r) 0)) ((wrF (fun t => (sl ((X 0)) v0.toNatClampNeg) (t + 11)) v1) * ((X 0) 3)))) v0.toNatClampNeg) 3) ((sl ((payZ (((svX X r) 0)) ((wrF (fun t => (sl ((X 0)) v0.toNatClampNeg) (t + 11)) v1) * ((X 0) 3)))) v0.toNatClampNeg) 4) ((sl ((payZ (((svX X r) 0)) ((wrF (fun t => (sl ((X 0)) v0.toNatClampNeg) (t + 11)) v1) * ((X 0) 3)))) v0.toNatClampNeg) 5) ((sl ((payZ (((svX X r) 0)) ((wrF (fun t => (sl ((X 0)) v0.toNatClampNeg) (t + 11)) v1) * ((X 0) 3)))) v0.toNatClampNeg) 6) ((sl ((payZ (((svX X r) 0)) ((wrF (fun t => (sl ((X 0)) v0.toNatClampNeg) (t + 11)) v1) * ((X 0) 3)))) v0.toNatClampNeg) 7) ((sl ((payZ (((svX X r) 0)) ((wrF (fun t => (sl ((X 0)) v0.toNatClampNeg) (t + 11)) v1) * ((X 0) 3)))) v0.toNatClampNeg) 8) ((sl ((payZ (((svX X r) 0)) ((wrF (fun t => (sl ((X 0)) v0.toNatClampNeg) (t + 11)) v1) * ((X 0) 3)))) v0.toNatClampNeg) 9) ((sl ((payZ (((svX X r) 0)) ((wrF (fun t => (sl ((X 0)) v0.toNatClampNeg) (t + 11)) v1) * ((X 0) 3)))) v0.toNatClampNeg) 10) (wsF (fun t => (sl ((payZ (((svX X r) 0)) ((wrF (fun t => (sl ((X 0)) v0.toNatClampNeg) (t + 11)) v1) * ((X 0) 3)))) v0.toNatClampNeg) (t + 11)) v1 0))))))) := Dcg (by simp only [if_pos hT, if_pos hT2]) hD
    refine W_top (v' := .int (gwr (sl z v0.toNatClampNeg) v1 * z 3)) (congrArg Value.int (if_pos hT2)) ?_
    refine lv_istore (lv' := [(6, .int (gwr (sl z v0.toNatClampNeg) v1 * z 3)), (5, .int (meT (X 0) v0 v1)), (0, .ref b), (1, .ref (ad 0)), (2, .ref m0), (3, .ref o), (4, .int (nI i))]) hx hb dL_law_631 hl (by decide) rfl (fun ls hl => ?_)
    refine lv_aload_n hx hb dL_law_633 rfl (lv_at hl 4 rfl) ?_
    refine cs_p (runV (As := []) (rest := []) ⟨hx, hb, hml, hown, hts⟩ (m_X6_thrown l D kA m0 m1 m2 m3 m4 m5 (puZ (payZ z (gwr (sl z v0.toNatClampNeg) v1 * z 3)) v0.toNatClampNeg (v1.toNatClampNeg + 11) 0) (svH h z w) tx pt kp (nI (svN w)) (nI n0) (meT z v0 v1) (-1) rd nu du hs) q_810 q_811 q_812 q_7 q_813 hd_X6_thrown ⟨rfl, rfl⟩ ⟨Nat.le_of_ble_eq_true rfl, Nat.le_of_ble_eq_true rfl⟩ hK hP.l hD.lf 0 (ci := 6) (C := RX6) (T := TX6) (N := 13) rfl rfl rfl hl.1 rfl (Nat.le_of_ble_eq_true rfl) dL_law_634 ⟨hroom.1, hroom.2⟩) ?_
    refine lv_iload hx hb dL_law_637 (lv_at hl 1 rfl) ?_
    refine lv_icmp_eq (tgt := 644) hx hb dL_law_639 (by decide) (fun c9 => ?_) (fun c9 => absurd (eT.symm) c9)
    refine lv_iload hx hb dL_law_644 (lv_at hl 1 rfl) ?_
    refine lv_if_ne (tgt := 661) hx hb dL_law_646 (by decide) (fun c8 => absurd hT c8) (fun c8 => ?_)
    refine lv_aload_n hx hb dL_law_649 rfl (lv_at hl 5 rfl) ?_
    refine lv_iconst (v := 0) hx hb dL_law_650 (by decide) ?_
    refine va_lald hx hb hK hP 6 3 rfl rfl (in_nI (j := 0) rfl (by omega) (by decide)) dL_law_651 ?_
    refine W_top (v' := .long ((wrF (fun t => (sl ((X 0)) v0.toNatClampNeg) (t + 11)) v1) * ((X 0) 3) : Int32).toInt64) rfl ?_
    refine lv_iload hx hb dL_law_652 (lv_at hl 0 rfl) ?_
    refine lv_i2l (v := (gwr (sl z v0.toNatClampNeg) v1 * z 3 : Int32).toInt64) hx hb dL_law_654 rfl ?_
    refine W.lcmp hx hb dL_law_655 ?_
    have eV : ((wrF (fun t => (sl ((X 0)) v0.toNatClampNeg) (t + 11)) v1) * ((X 0) 3) : Int32) = (gwr (sl z v0.toNatClampNeg) v1 * z 3) := by rw [hXz]; rfl
    refine lv_if_eq (tgt := 661) hx hb dL_law_656 (by decide) (fun c7 => ?_) (fun c7 => absurd ((lg_cmp_eq _ _).mpr (congrArg Int32.toInt64 eV)) c7)
    refine lv_goto (tgt := 1677) hx hb dL_law_661 (by decide) ?_
    have hq24 : v1.toNatClampNeg < 24 := by (obtain ⟨k, hk, -, ec⟩ := wi_ex (meT_0 hT2).2.1 (N := 23) rfl); omega
    exact K _ _ _ _ _ _ _ _ _ _ _ _ _ _ _ _ _ _ (by rw [svX_0, hXz, mend_eq (meT_0 hT2).2.1]; exact rel_save (M := 1000) hR2 (inv_mend hI hT2) (CB_mono (CB_pu (CB_pay hC) (wi3 (meT_0 hT2).1) (by omega) (by omega) (by omega) (by omega)) (by omega))) hP hD hS (lv_sub hl [2, 3, 4, 5, 6] rfl)
  · have hT2 : ¬ (meT z v0 v1) = 0 := fun q9 => hT (eT.trans q9)
    have hP : va_P D vwCl ([(m0, .inr (6, [.ref m1, .int (nI (w)), .ref m2, .int (nI n0), .ref m3, .int (meT z v0 v1), .int (-1), .ref m4, .int rd, .int nu, .int du, .ref m5, .long hs])), (m1, .inl (kA 0, 148, .inl (z))), (m2, .inl (kA 0, 888, .inl (h))), (m3, .inl (kA 0, 60, .inl tx)), (m4, .inl (kA 0, 72, .inl pt)), (m5, .inl (kA 0, 148, .inl kp))] ++ ([(o, oO kA (f))] ++ cw kA ad (X))) H := Pcg (by simp only [if_neg hT, if_neg hT2]) hP
    have hD : va_D (fun q => s.heap.size ≤ q) ([(m0, .inr (6, [.ref m1, .int (nI (w)), .ref m2, .int (nI n0), .ref m3, .int (meT z v0 v1), .int (-1), .ref m4, .int rd, .int nu, .int du, .ref m5, .long hs])), (m1, .inl (kA 0, 148, .inl (z))), (m2, .inl (kA 0, 888, .inl (h))), (m3, .inl (kA 0, 60, .inl tx)), (m4, .inl (kA 0, 72, .inl pt)), (m5, .inl (kA 0, 148, .inl kp))] ++ ([(o, oO kA (f))] ++ cw kA ad (X))) := Dcg (by simp only [if_neg hT, if_neg hT2]) hD
    refine W_top (v' := .int (0)) (congrArg Value.int (if_neg hT2)) ?_
    refine lv_istore (lv' := [(6, .int (0)), (5, .int (meT (X 0) v0 v1)), (0, .ref b), (1, .ref (ad 0)), (2, .ref m0), (3, .ref o), (4, .int (nI i))]) hx hb dL_law_631 hl (by decide) rfl (fun ls hl => ?_)
    refine lv_aload_n hx hb dL_law_633 rfl (lv_at hl 4 rfl) ?_
    refine cs_p (runV (As := []) (rest := []) ⟨hx, hb, hml, hown, hts⟩ (m_X6_thrown l D kA m0 m1 m2 m3 m4 m5 z h tx pt kp (nI (w)) (nI n0) (meT z v0 v1) (-1) rd nu du hs) q_810 q_811 q_812 q_7 q_813 hd_X6_thrown ⟨rfl, rfl⟩ ⟨Nat.le_of_ble_eq_true rfl, Nat.le_of_ble_eq_true rfl⟩ hK hP.l hD.lf 0 (ci := 6) (C := RX6) (T := TX6) (N := 13) rfl rfl rfl hl.1 rfl (Nat.le_of_ble_eq_true rfl) dL_law_634 ⟨hroom.1, hroom.2⟩) ?_
    refine lv_iload hx hb dL_law_637 (lv_at hl 1 rfl) ?_
    refine lv_icmp_eq (tgt := 644) hx hb dL_law_639 (by decide) (fun c9 => ?_) (fun c9 => absurd (eT.symm) c9)
    refine lv_iload hx hb dL_law_644 (lv_at hl 1 rfl) ?_
    refine lv_if_ne (tgt := 661) hx hb dL_law_646 (by decide) (fun c8 => ?_) (fun c8 => absurd c8 hT)
    refine lv_goto (tgt := 1677) hx hb dL_law_661 (by decide) ?_
    exact K _ _ _ _ _ _ _ _ _ _ _ _ _ _ _ _ _ _ (by exact rel_mono hR2 (by omega)) hP hD hS (lv_sub hl [2, 3, 4, 5, 6] rfl)
