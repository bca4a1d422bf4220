/-! the relation between two acts: the class's numbers keep their bounds; the law's rows are the class's first state -/
def RQ (X : Nat → Nat → Int32) (r w N M : Nat) : Prop := Inv (X 0) ∧ CB N (X 0) ∧ bd (X 0 6) M ∧ r < 6 ∧ X 8 0 = nI r ∧ w ≤ 6 ∧ X 8 1 = nI w
def RQx (X : Nat → Nat → Int32) (N M : Nat) : Prop := ∃ r w, RQ X r w N M
def eQ (D : va_G) (kA al ad : Nat → Nat) (N M : Nat) (W0 : va_W) : Array Value → State → Outcome → State → Prop := fun _ st oc t => oc = .returned (some (.int 1)) ∧ (∃ X' : Nat → Nat → Int32, RQx X' N M ∧ va_P D vwCl (lqW kA al (X' 0) (X' 8 1) ++ cw kA ad X') t.heap) ∧ va_F (Aw W0) st t
section EQ
variable {p : Program} {l : Launch} {e : Env} {R : Room} {s : State} {m : MethodId} {args : Array Value} {below : List Frame} {meth : Method} {c : Code} {H : Heap} {locs : List Loc} {cells slots : Nat} {Q : State → Prop}
variable {pc : Nat} {ls : Array Slot} {rest st0 : List Value} {a : Array Value} {A0 : Nat → Prop} {H0 : Heap} {D : va_G} {cc : ByteArray} {ws ws1 : va_W} {kA al ad : Nat → Nat} {N M : Nat}
theorem end_e {X' : Nat → Nat → Int32} (hx : p.tables.exec = Jvm.exec) (hb : c.code = cc) (hr : meth.sig.returnType = some .boolean) (hlocks : meth.locks = false) (hP : va_P D vwCl ws1 H) (hS : va_S (Aw ws) s.heap H locs) (hR : RQx X' N M) (hw : ws1 = lqW kA al (X' 0) (X' 8 1) ++ cw kA ad X') (hdg : decode cc pc = .ok (.ireturn, 1)) : W p l e R s m args below meth c H locs cells slots (MQ below (eQ D kA al ad N M ws) args s cells slots (Aw ws)) (F0 m pc ls [.int 1]) :=
  W.zret hx hb hr (by decide) (fun t ht _ => ⟨rfl, ⟨X', hR, by rw [ht, ← hw]; exact hP⟩, hS.F ht⟩) hS.2.2 hdg
theorem cs_e (hr : va_Run p l e R s m args below meth c H locs cells slots 0 0 (F0 m pc ls st0) rest (eQ D kA al ad N M ws a) (Aw ws)) (hS : va_S A0 H0 H locs) (hA : ∀ q, Aw ws q → A0 q)
    (kk : ∀ (X' : Nat → Nat → Int32) (H1 : Heap) (locs1 : List Loc), RQx X' N M → va_P D vwCl (lqW kA al (X' 0) (X' 8 1) ++ cw kA ad X') H1 → va_S A0 H0 H1 locs1 → W p l e R s m args below meth c H1 locs1 cells slots Q (F0 m (pc + 3) ls (.int 1 :: rest))) : W p l e R s m args below meth c H locs cells slots Q (F0 m pc ls st0) := by
  intro T hT X
  obtain ⟨v', st₀, t, T', L, h0, X', hL, e1, -, ⟨hv, ⟨Y, hY, hp⟩, hz, hk⟩, st⟩ := hr T hT X
  cases hv
  rw [h0] at hz hk
  obtain ⟨t2, a1, b1⟩ := kk Y T'.heap (locs ++ L) hY (by rw [e1]; exact hp)
    ⟨Nat.le_trans hS.1 (by rw [e1]; exact hz), fun q h1 h2 => by rw [e1, hk q (Nat.lt_of_lt_of_le h1 hS.1) (fun z => h2 (hA q z))]; exact hS.2.1 q h1 h2, fun q hq => by
      rcases List.mem_append.mp hq with h | h
      · exact hS.2.2 q h
      · exact hA _ (hL q h)⟩ T' rfl X'
  exact ⟨t2, st t2 a1, b1⟩
end EQ
section PB
variable {z z' : Nat → Int32} {a N N' M M' r w k : Nat} {X Y : Nat → Nat → Int32} {kA al ad : Nat → Nat}
theorem bd_mono {x : Int32} (h : bd x M) (hM : M ≤ M') : bd x M' := by obtain ⟨n, hn, e⟩ := h; exact ⟨n, by omega, e⟩
theorem rq_mono (h : RQx X N M) (hN : N ≤ N') (hM : M ≤ M') : RQx X N' M' := by
  obtain ⟨r, w, h1, h2, h3, h4⟩ := h
  exact ⟨r, w, h1, CB_mono h2 hN, bd_mono h3 hM, h4⟩
theorem pb_S (h : Inv z) (ha : a < 4) (hM : M < 2 ^ 31) (hb : bd (z 6) M) {up : Bool} (hc : ¬ z 6 < tollG (sl z a) z (wI up)) : bd (zS z a (wI up) 6) M := by
  obtain ⟨n, h1, h2, h3⟩ := h.toll ha up
  rw [zS_eq hc, inG_out (by omega), upd_s]
  exact bd_sub hM hb h3 (by omega) hc
theorem pb_ms (ha : a < 4) (hM : M < 2 ^ 31) {up : Bool} : ∀ (n : Nat) (z : Nat → Int32) (c : Int32), Inv z → bd (z 6) M → bd ((msL a (wI up) n z c).2 6) M
  | 0, z, c, h, hb => hb
  | n + 1, z, c, h, hb => by
    rw [msL_s h ha]
    by_cases hc : z 6 < tollG (sl z a) z (wI up)
    · rw [if_pos hc]; exact hb
    · rw [if_neg hc]; exact pb_ms ha hM n _ _ (Inv_S h ha hc) (pb_S h ha hM hb hc)
theorem pb_Z (h : Inv z) (ha : a < 4) (hM : M < 2 ^ 31) (hb : bd (z 6) M) {up : Bool} : bd (stZ z a up 6) M := by
  unfold stZ
  by_cases hc : z 6 < tollG (sl z a) z (wI up)
  · rw [if_pos hc]; exact hb
  · rw [if_neg hc]; exact pb_S h ha hM hb hc
theorem pb_gt (ha : a < 4) (hM : M < 2 ^ 31) {up : Bool} {q : Int32} : ∀ (n : Nat) (z : Nat → Int32) (c : Int32), Inv z → bd (z 6) M → bd ((gtL a (wI up) q n z c).2 6) M
  | 0, z, c, h, hb => hb
  | n + 1, z, c, h, hb => by
    by_cases hq : sl z a 1 = q
    · rw [gtL, if_pos hq]; exact hb
    · have h1 := gt_s (up := up) (s := c) (kf := n + 1) h ha (by omega) hq rfl
      rw [← h1]
      by_cases hc : canF z a (wI up) = true
      · rw [if_pos hc]; exact pb_gt ha hM _ _ _ (Inv_Z h ha up) (pb_Z h ha hM hb)
      · rw [if_neg hc]; exact pb_Z h ha hM hb
theorem pb_go (h : Inv z) (ha : a < 4) (hM : M < 2 ^ 31) (hb : bd (z 6) M) {q : Int32} : bd ((gtF z a q).2 6) M := by
  obtain ⟨up, e⟩ := ch_w (z := z) (a := a) (q := q)
  unfold gtF
  rw [e]
  exact pb_gt ha hM _ _ _ h hb
theorem pb_hz (ha : a < 4) (hM : M < 2 ^ 31) : ∀ (n : Nat) (z : Nat → Int32), Inv z → bd (z 6) M → bd (hzL a n z 6) M
  | 0, z, h, hb => hb
  | n + 1, z, h, hb => by
    rw [hzL]
    by_cases h0 : sl z a 0 = 0
    · rw [if_pos h0]; exact hb
    · rw [if_neg h0]
      by_cases hc : canF z a (wI false) = true
      · rw [if_pos hc]; exact pb_hz ha hM n _ (Inv_S h ha (canF_t.mp hc)) (pb_S h ha hM hb (canF_t.mp hc))
      · rw [if_neg hc]; exact hb
theorem pb_ho (h : Inv z) (ha : a < 4) (hM : M < 2 ^ 31) (hb : bd (z 6) M) : bd (hoZ z a 6) M := by
  unfold hoZ
  by_cases h0 : sl (hzL a 40 z) a 0 = 0
  · rw [if_pos h0]
    unfold hz1
    rw [puZ_low (by omega), puZ_low (by omega), puZ_low (by omega), puZ_low (by omega)]
    exact pb_hz ha hM 40 z h hb
  · rw [if_neg h0]; exact pb_hz ha hM 40 z h hb
theorem sv81 : up2 (svX X r) 0 z' 8 1 = kpU (X 8 1) := by
  rw [up2_n (by omega)]; unfold svX; rw [up2_n (by have := nx6_lt r; omega), up3_s]
theorem sv80 : up2 (svX X r) 0 z' 8 0 = nI (nx6 r) := by
  rw [up2_n (by omega)]; unfold svX; rw [up2_n (by have := nx6_lt r; omega), up3_ne (Or.inr (by omega)), up3_s]
theorem rq_sv (hR : RQ X r w N M) (hI : Inv z') (hC : CB N' z') (hB : bd (z' 6) M') : RQx (up2 (svX X r) 0 z') N' M' := by
  obtain ⟨-, -, -, h4, h5, h6, h7⟩ := hR
  exact ⟨nx6 r, svN w, by rw [up2_s]; exact hI, by rw [up2_s]; exact hC, by rw [up2_s]; exact hB, nx6_lt r, sv80, svN_le h6, by rw [sv81, h7]; exact kp_sv h6⟩
theorem rq_w {zf : Nat → Int32} {kf : Int32} (hz : zf = z') (hk : kf = kpU (X 8 1)) : lqW kA al zf kf ++ cw kA ad (up2 (svX X r) 0 z') = lqW kA al (up2 (svX X r) 0 z' 0) (up2 (svX X r) 0 z' 8 1) ++ cw kA ad (up2 (svX X r) 0 z') := by
  rw [sv81, up2_s, hz, hk]
theorem rq_Y (hR : RQ X r w N M) (e0 : Y 0 = X 0) (e8 : Y 8 = X 8) : RQ Y r w N M := by
  unfold RQ
  rw [e0, e8]
  exact hR
theorem kp_y {x : Int32} (hx : x = nI w) (hw : w ≤ 6) (h : x < 6) : x + 1 = kpU x := by
  subst hx
  have : ∀ w, w < 7 → nI w < 6 → nI w + 1 = kpU (nI w) := by decide +kernel
  exact this w (by omega) h
theorem kp_n {x : Int32} (hx : x = nI w) (hw : w ≤ 6) (h : ¬ x < 6) : x = kpU x := by
  subst hx
  have : ∀ w, w < 7 → ¬ nI w < 6 → nI w = kpU (nI w) := by decide +kernel
  exact this w (by omega) h
theorem ite_wI {p : Prop} [Decidable p] : ∃ up : Bool, (if p then (1 : Int32) else -1) = wI up := by
  by_cases h : p
  · exact ⟨true, if_pos h⟩
  · exact ⟨false, if_neg h⟩
theorem w1k {x : Int32} : wI true * x = x := by show (1 : Int32) * x = x; exact Int32.one_mul x
theorem wm1k {x : Int32} : wI false * x = -x := by show (-1 : Int32) * x = -x; rw [Int32.neg_mul, Int32.one_mul]
theorem cg_y {q : Int32} (h : sl z a 1 = q) : cgF z a q = true := by unfold cgF; rw [if_pos h]
theorem cg_n {q : Int32} {up : Bool} (h : chF z a q = wI up) (hc : canF z a (wI up) = true) : cgF z a q = true := by
  unfold cgF
  split
  · rfl
  · rw [h, if_pos hc]
theorem sh_in (x : Int32) : ∃ m : Nat, m < 2 ^ 31 ∧ (x.toUInt32 >>> 1).toInt32 = nI m := by
  refine ⟨(x.toUInt32 >>> 1).toNat, ?_, ?_⟩
  · rw [UInt32.toNat_shiftRight]
    have := x.toUInt32.toNat_lt
    have e : (1 : UInt32).toNat % 32 = 1 := by decide
    rw [e, Nat.shiftRight_eq_div_pow]
    omega
  · generalize x.toUInt32 >>> 1 = u
    show u.toInt32 = Int32.ofNat u.toNat
    apply Int32.toBitVec_inj.mp
    simp
theorem at_in (x : Int32) {N : Nat} (h0 : 0 < N) (hN : N < 2 ^ 31) : ∃ j, j < N ∧ atF x (nI N) = nI j := by
  obtain ⟨m, hm, e⟩ := sh_in x
  refine ⟨m % N, Nat.mod_lt _ h0, ?_⟩
  unfold atF
  rw [e, pk_div (by omega) (by omega) (by omega), pk_mul, pk_sub (Nat.div_mul_le_self m N)]
  congr 1
  have := Nat.div_add_mod m N
  rw [Nat.mul_comm] at this
  omega
theorem at1_in (x : Int32) {N : Nat} (h0 : 0 < N) (hN : N < 2 ^ 31) : ∃ k, 1 ≤ k ∧ k ≤ N ∧ 1 + atF x (nI N) = nI k := by
  obtain ⟨j, hj, e⟩ := at_in x h0 hN
  exact ⟨1 + j, by omega, by omega, by rw [e, show (1 : Int32) = nI 1 from rfl, nI_add]⟩
end PB
