/-! the law's loop -/
def LC (l : Launch) (p : Program) (s : State) (m : MethodId) (meth : Method) (c : Code) (D : va_G) (kA : Nat → Nat) (b L : Nat) (xs : Nat → Int32) : Prop :=
  p.tables.exec = Jvm.exec ∧ c.code = cL_law ∧ c.maxLocals = 16 ∧ s.vm.findClass RL = some m.cls ∧ (∀ w ∈ AW, w.before #[Value.ref b] s = true) ∧ va_K D vwCl (TY kA) s ∧ va_X b L xs s s.heap ∧ b < s.heap.size ∧ XW (fun q => s.heap.size ≤ q) s s.heap
theorem lc_fst {kA al ad : Nat → Nat} {z z' : Nat → Int32} {k k' : Int32} {X X' : Nat → Nat → Int32} : (lqW kA al z' k' ++ cw kA ad X').map (fun q => q.1) = (lqW kA al z k ++ cw kA ad X).map (fun q => q.1) := by
  rw [List.map_append, List.map_append, cw_fst (X := X) (X' := X'), lw_fst (z := z) (k := k)]
theorem i60 {i : Nat} (h : i < 60) : ¬ (60 : Int32) ≤ nI i := Int32.not_le.mpr ((nI_ltI (b := 60) (by omega) (by omega)).mpr h)
theorem x2 {i : Nat} : 2 * nI i = nI (2 * i) := by rw [show (2 : Int32) = nI 2 from rfl, pk_mul]
theorem x21 {i : Nat} : 2 * nI i + 1 = nI (2 * i + 1) := by rw [x2, nI_1]
set_option maxRecDepth 100000 in
set_option maxHeartbeats 4000000 in
theorem law_loop {p : Program} {l : Launch} {e : Env} {s : State} {m : MethodId} {below : List Frame} {meth : Method} {c : Code} {Q : State → Prop} {D : va_G} {kA al ad : Nat → Nat} {b L cells slots : Nat} {xs : Nat → Int32} (C0 : LC l p s m meth c D kA b L xs) (hL : L ≤ 260) (hroom : cells ≤ 600130 ∧ slots ≤ 7301080)
    (hEnd : ∀ (H : Heap) (locs : List Loc) (ls : Array Slot), va_S (fun q : Nat => s.heap.size ≤ q) s.heap H locs → W p l e room_1 s m #[Value.ref b] below meth c H locs cells slots Q (F0 m 227 ls [])) :
    ∀ (n i : Nat) (X : Nat → Nat → Int32) (H : Heap) (locs : List Loc) (ls : Array Slot), n + i = 60 → RQx X (50 * i) (1000 + 300 * i) → va_P D vwCl (lqW kA al (X 0) (X 8 1) ++ cw kA ad X) H → va_D (fun q : Nat => s.heap.size ≤ q) (lqW kA al (X 0) (X 8 1) ++ cw kA ad X) → va_S (fun q : Nat => s.heap.size ≤ q) s.heap H locs → lv_has ls 16 [(0, .ref b), (1, .ref (ad 0)), (2, .ref (al 0)), (3, .ref (al 1)), (4, .ref (al 2)), (5, .ref (al 3)), (6, .ref (al 4)), (7, .ref (al 5)), (8, .ref (al 6)), (9, .ref (al 7)), (10, .ref (al 8)), (11, .ref (al 9)), (12, .int (nI i))] → W p l e room_1 s m #[Value.ref b] below meth c H locs cells slots Q (F0 m 100 ls []) := by
  obtain ⟨hx, hb, hml, hown, hts, hK, hXb, hbl, hX0⟩ := id C0
  intro n
  induction n with
  | zero =>
    intro i X H locs ls hi hRQ hP hD hS hl
    obtain rfl : i = 60 := by omega
    refine lv_iload hx hb dL_law_100 (lv_at hl 12 rfl) ?_
    refine lv_bipush (v := 60) hx hb dL_law_102 (by decide) ?_
    refine lv_icmp_ge (tgt := 227) hx hb dL_law_104 (by decide) (fun c9 => ?_) (fun c9 => ?_)
    · exact hEnd H locs ls hS
    · exact absurd (show (60 : Int32) ≤ nI 60 by decide) c9
  | succ n ih =>
    intro i X H locs ls hi hRQ hP hD hS hl
    refine lv_iload hx hb dL_law_100 (lv_at hl 12 rfl) ?_
    refine lv_bipush (v := 60) hx hb dL_law_102 (by decide) ?_
    refine lv_icmp_ge (tgt := 227) hx hb dL_law_104 (by decide) (fun c_1 => ?_) (fun c_1 => ?_)
    · exact absurd c_1 (i60 (by omega))
    · skip
      replace c_1 := nge_l c_1
      refine lv_aload_n hx hb dL_law_107 rfl (lv_at hl 0 rfl) ?_
      refine lv_iconst (v := 2) hx hb dL_law_108 (by decide) ?_
      refine lv_iload hx hb dL_law_109 (lv_at hl 12 rfl) ?_
      refine lv_imul hx hb dL_law_111 ?_
      refine W_top (v' := .int (nI (2 * i))) (congrArg Value.int (x2)) ?_
      refine cs_p (srunS (As := [.ref b, .int (nI (2 * i))]) (rest := []) ⟨hx, hb, hml, hown, hts⟩ (m_L_cell l D kA b L (2 * i) xs hL (by omega)) q_189 q_190 q_0 q_191 hd_L_cell ⟨rfl, rfl⟩ ⟨Nat.le_of_ble_eq_true rfl, Nat.le_of_ble_eq_true rfl⟩ hK (hXb.kept (hS.2.1 b hbl (Nat.not_le.mpr hbl))) rfl hl.1 rfl (Nat.le_of_ble_eq_true rfl) dL_law_112 hroom) ?_
      obtain ⟨xx, e_xx⟩ : ∃ y9 : Int32, y9 = clF L xs (nI (2 * i)) := ⟨_, rfl⟩
      rw [← e_xx]
      refine lv_istore (lv' := [(13, .int xx), (0, .ref b), (1, .ref (ad 0)), (2, .ref (al 0)), (3, .ref (al 1)), (4, .ref (al 2)), (5, .ref (al 3)), (6, .ref (al 4)), (7, .ref (al 5)), (8, .ref (al 6)), (9, .ref (al 7)), (10, .ref (al 8)), (11, .ref (al 9)), (12, .int (nI i))]) hx hb dL_law_115 hl (by decide) rfl (fun ls hl => ?_)
      refine lv_aload_n hx hb dL_law_117 rfl (lv_at hl 1 rfl) ?_
      refine lv_iconst (v := 2) hx hb dL_law_118 (by decide) ?_
      refine lv_iload hx hb dL_law_119 (lv_at hl 13 rfl) ?_
      refine lv_imul hx hb dL_law_121 ?_
      refine lv_iconst (v := 1) hx hb dL_law_122 (by decide) ?_
      refine lv_iadd hx hb dL_law_123 ?_
      refine W_top (v' := .int (nI (2 * i + 1))) (congrArg Value.int (x21)) ?_
      refine cs_p (srunS (As := [.ref b, .int (nI (2 * i + 1))]) (rest := []) ⟨hx, hb, hml, hown, hts⟩ (m_L_cell l D kA b L (2 * i + 1) xs hL (by omega)) q_189 q_190 q_0 q_191 hd_L_cell ⟨rfl, rfl⟩ ⟨Nat.le_of_ble_eq_true rfl, Nat.le_of_ble_eq_true rfl⟩ hK (hXb.kept (hS.2.1 b hbl (Nat.not_le.mpr hbl))) rfl hl.1 rfl (Nat.le_of_ble_eq_true rfl) dL_law_124 hroom) ?_
      obtain ⟨yy, e_yy⟩ : ∃ y9 : Int32, y9 = clF L xs (nI (2 * i + 1)) := ⟨_, rfl⟩
      rw [← e_yy]
      refine lv_istore (lv' := [(14, .int yy), (13, .int xx), (0, .ref b), (1, .ref (ad 0)), (2, .ref (al 0)), (3, .ref (al 1)), (4, .ref (al 2)), (5, .ref (al 3)), (6, .ref (al 4)), (7, .ref (al 5)), (8, .ref (al 6)), (9, .ref (al 7)), (10, .ref (al 8)), (11, .ref (al 9)), (12, .int (nI i))]) hx hb dL_law_127 hl (by decide) rfl (fun ls hl => ?_)
      refine lv_iload hx hb dL_law_129 (lv_at hl 1 rfl) ?_
      refine lv_bipush (v := 20) hx hb dL_law_131 (by decide) ?_
      refine lv_ishr hx hb dL_law_133 ?_
      refine lv_iconst (v := 4) hx hb dL_law_134 (by decide) ?_
      refine cs_p (runS (As := [.int (xx >>> (20 &&& 31)), .int 4]) (rest := []) ⟨hx, hb, hml, hown, hts⟩ (m_L_at l D kA (xx >>> (20 &&& 31)) 4 (by decide)) q_193 q_194 q_0 q_195 hd_L_at ⟨rfl, rfl⟩ ⟨Nat.le_of_ble_eq_true rfl, Nat.le_of_ble_eq_true rfl⟩ hK (ws := []) (fun _ _ h => by simp at h) (D0 (A := fun _ => True)) rfl hl.1 rfl (Nat.le_of_ble_eq_true rfl) dL_law_135 hroom) ?_
      refine lv_if_ne (tgt := 161) hx hb dL_law_138 (by decide) (fun c_2 => ?_) (fun c_2 => ?_)
      · skip
        refine lv_aload_n hx hb dL_law_161 rfl (lv_at hl 3 rfl) ?_
        refine lv_iload hx hb dL_law_162 (lv_at hl 1 rfl) ?_
        refine lv_iload hx hb dL_law_164 (lv_at hl 0 rfl) ?_
        refine lv_aload_n hx hb dL_law_166 rfl (lv_at hl 4 rfl) ?_
        refine lv_aload_n hx hb dL_law_167 rfl (lv_at hl 5 rfl) ?_
        refine lv_aload hx hb dL_law_168 (lv_at hl 6 rfl) ?_
        refine lv_aload hx hb dL_law_170 (lv_at hl 7 rfl) ?_
        refine lv_aload hx hb dL_law_172 (lv_at hl 8 rfl) ?_
        refine lv_aload hx hb dL_law_174 (lv_at hl 9 rfl) ?_
        refine lv_aload hx hb dL_law_176 (lv_at hl 10 rfl) ?_
        refine lv_aload hx hb dL_law_178 (lv_at hl 11 rfl) ?_
        refine lv_aload hx hb dL_law_180 (lv_at hl 12 rfl) ?_
        refine lv_aload hx hb dL_law_182 (lv_at hl 13 rfl) ?_
        refine cs_e (runS (As := [.ref (ad 0), .int xx, .int yy, .ref (al 0), .ref (al 1), .ref (al 2), .ref (al 3), .ref (al 4), .ref (al 5), .ref (al 6), .ref (al 7), .ref (al 8), .ref (al 9)]) (rest := []) ⟨hx, hb, hml, hown, hts⟩ (m_L_moves l D kA al ad X xx yy (50 * i) (1000 + 300 * i) hRQ (by omega) (by omega)) q_196 q_197 q_0 q_198 hd_L_moves ⟨rfl, rfl⟩ ⟨Nat.le_of_ble_eq_true rfl, Nat.le_of_ble_eq_true rfl⟩ hK (ws := (lqW kA al (X 0) (X 8 1) ++ cw kA ad X)) hP hD rfl hl.1 rfl (Nat.le_of_ble_eq_true rfl) dL_law_184 hroom) hS (aw_D hD) (fun X' H locs hRQ hP hS => ?_)
        have hD : va_D (fun q : Nat => s.heap.size ≤ q) (lqW kA al (X' 0) (X' 8 1) ++ cw kA ad X') := hD.congr lc_fst
        have hRQ : RQx X' (50 * i + 50) (1000 + 300 * i + 300) := rq_mono hRQ (by omega) (by omega)
        refine lv_istore (lv' := [(15, .int 1), (14, .int yy), (13, .int xx), (0, .ref b), (1, .ref (ad 0)), (2, .ref (al 0)), (3, .ref (al 1)), (4, .ref (al 2)), (5, .ref (al 3)), (6, .ref (al 4)), (7, .ref (al 5)), (8, .ref (al 6)), (9, .ref (al 7)), (10, .ref (al 8)), (11, .ref (al 9)), (12, .int (nI i))]) hx hb dL_law_187 hl (by decide) rfl (fun ls hl => ?_)
        refine lv_iload hx hb dL_law_189 (lv_at hl 0 rfl) ?_
        refine lv_if_eq (tgt := 219) hx hb dL_law_191 (by decide) (fun c_3 => ?_) (fun c_3 => ?_)
        · exact absurd c_3 (by decide)
        · skip
          refine lv_aload_n hx hb dL_law_194 rfl (lv_at hl 4 rfl) ?_
          refine lv_aload_n hx hb dL_law_195 rfl (lv_at hl 5 rfl) ?_
          refine lv_aload_n hx hb dL_law_196 rfl (lv_at hl 6 rfl) ?_
          refine lv_aload hx hb dL_law_197 (lv_at hl 7 rfl) ?_
          refine lv_aload hx hb dL_law_199 (lv_at hl 8 rfl) ?_
          refine lv_aload hx hb dL_law_201 (lv_at hl 9 rfl) ?_
          refine lv_aload hx hb dL_law_203 (lv_at hl 10 rfl) ?_
          refine lv_aload hx hb dL_law_205 (lv_at hl 11 rfl) ?_
          refine lv_aload hx hb dL_law_207 (lv_at hl 12 rfl) ?_
          refine lv_aload hx hb dL_law_209 (lv_at hl 13 rfl) ?_
          refine lv_aload hx hb dL_law_211 (lv_at hl 14 rfl) ?_
          obtain ⟨r9, w9, hI9, h9⟩ := id hRQ
          refine cs_p (runS (As := [.ref (ad 0), .ref (al 0), .ref (al 1), .ref (al 2), .ref (al 3), .ref (al 4), .ref (al 5), .ref (al 6), .ref (al 7), .ref (al 8), .ref (al 9)]) (rest := []) ⟨hx, hb, hml, hown, hts⟩ (m_L_agree l D kA al ad X' hI9) q_522 q_523 q_0 q_524 hd_L_agree ⟨rfl, rfl⟩ ⟨Nat.le_of_ble_eq_true rfl, Nat.le_of_ble_eq_true rfl⟩ hK (ws := (lqW kA al (X' 0) (X' 8 1) ++ cw kA ad X')) hP hD rfl hl.1 rfl (Nat.le_of_ble_eq_true rfl) dL_law_213 hroom) ?_
          refine lv_if_ne (tgt := 221) hx hb dL_law_216 (by decide) (fun c_4 => ?_) (fun c_4 => ?_)
          · skip
            refine lv_iinc (v := nI (i + 1)) (lv' := [(12, .int (nI (i + 1))), (15, .int 1), (14, .int yy), (13, .int xx), (0, .ref b), (1, .ref (ad 0)), (2, .ref (al 0)), (3, .ref (al 1)), (4, .ref (al 2)), (5, .ref (al 3)), (6, .ref (al 4)), (7, .ref (al 5)), (8, .ref (al 6)), (9, .ref (al 7)), (10, .ref (al 8)), (11, .ref (al 9))]) hx hb dL_law_221 hl (k := 15) rfl (nI_1 i) (by decide) rfl (fun ls hl => ?_)
            refine lv_goto (tgt := 100) hx hb dL_law_224 (by decide) ?_
            exact ih (i + 1) X' H locs ls (by omega) (rq_mono hRQ (by omega) (by omega)) hP hD hS (lv_sub hl [4, 5, 6, 7, 8, 9, 10, 11, 12, 13, 14, 15, 0] rfl)
          · exact absurd c_4 (by decide)
      · skip
        refine lv_aload_n hx hb dL_law_141 rfl (lv_at hl 3 rfl) ?_
        refine lv_iload hx hb dL_law_142 (lv_at hl 1 rfl) ?_
        refine lv_iload hx hb dL_law_144 (lv_at hl 0 rfl) ?_
        refine lv_aload_n hx hb dL_law_146 rfl (lv_at hl 4 rfl) ?_
        refine lv_aload hx hb dL_law_147 (lv_at hl 7 rfl) ?_
        refine lv_aload hx hb dL_law_149 (lv_at hl 10 rfl) ?_
        refine lv_aload hx hb dL_law_151 (lv_at hl 12 rfl) ?_
        refine lv_aload hx hb dL_law_153 (lv_at hl 13 rfl) ?_
        refine cs_e (yrunS (As := [.ref (ad 0), .int xx, .int yy, .ref (al 0), .ref (al 3), .ref (al 6), .ref (al 8), .ref (al 9)]) (rest := []) ⟨hx, hb, hml, hown, hts⟩ (m_L_cares l D kA al ad X xx yy (50 * i) (1000 + 300 * i) hRQ (by omega)) q_455 q_456 q_0 q_457 hd_L_cares ⟨rfl, rfl⟩ ⟨Nat.le_of_ble_eq_true rfl, Nat.le_of_ble_eq_true rfl⟩ hK (ws := (lqW kA al (X 0) (X 8 1) ++ cw kA ad X)) hP hD (XW.narrow (hX0.kept hS.2.1) (fun q h => aw_D hD q h)) rfl hl.1 rfl (Nat.le_of_ble_eq_true rfl) dL_law_155 hroom) hS (aw_D hD) (fun X' H locs hRQ hP hS => ?_)
        have hD : va_D (fun q : Nat => s.heap.size ≤ q) (lqW kA al (X' 0) (X' 8 1) ++ cw kA ad X') := hD.congr lc_fst
        have hRQ : RQx X' (50 * i + 50) (1000 + 300 * i + 300) := rq_mono hRQ (by omega) (by omega)
        refine lv_goto (tgt := 187) hx hb dL_law_158 (by decide) ?_
        refine lv_istore (lv' := [(15, .int 1), (14, .int yy), (13, .int xx), (0, .ref b), (1, .ref (ad 0)), (2, .ref (al 0)), (3, .ref (al 1)), (4, .ref (al 2)), (5, .ref (al 3)), (6, .ref (al 4)), (7, .ref (al 5)), (8, .ref (al 6)), (9, .ref (al 7)), (10, .ref (al 8)), (11, .ref (al 9)), (12, .int (nI i))]) hx hb dL_law_187 hl (by decide) rfl (fun ls hl => ?_)
        refine lv_iload hx hb dL_law_189 (lv_at hl 0 rfl) ?_
        refine lv_if_eq (tgt := 219) hx hb dL_law_191 (by decide) (fun c_5 => ?_) (fun c_5 => ?_)
        · exact absurd c_5 (by decide)
        · skip
          refine lv_aload_n hx hb dL_law_194 rfl (lv_at hl 4 rfl) ?_
          refine lv_aload_n hx hb dL_law_195 rfl (lv_at hl 5 rfl) ?_
          refine lv_aload_n hx hb dL_law_196 rfl (lv_at hl 6 rfl) ?_
          refine lv_aload hx hb dL_law_197 (lv_at hl 7 rfl) ?_
          refine lv_aload hx hb dL_law_199 (lv_at hl 8 rfl) ?_
          refine lv_aload hx hb dL_law_201 (lv_at hl 9 rfl) ?_
          refine lv_aload hx hb dL_law_203 (lv_at hl 10 rfl) ?_
          refine lv_aload hx hb dL_law_205 (lv_at hl 11 rfl) ?_
          refine lv_aload hx hb dL_law_207 (lv_at hl 12 rfl) ?_
          refine lv_aload hx hb dL_law_209 (lv_at hl 13 rfl) ?_
          refine lv_aload hx hb dL_law_211 (lv_at hl 14 rfl) ?_
          obtain ⟨r9, w9, hI9, h9⟩ := id hRQ
          refine cs_p (runS (As := [.ref (ad 0), .ref (al 0), .ref (al 1), .ref (al 2), .ref (al 3), .ref (al 4), .ref (al 5), .ref (al 6), .ref (al 7), .ref (al 8), .ref (al 9)]) (rest := []) ⟨hx, hb, hml, hown, hts⟩ (m_L_agree l D kA al ad X' hI9) q_522 q_523 q_0 q_524 hd_L_agree ⟨rfl, rfl⟩ ⟨Nat.le_of_ble_eq_true rfl, Nat.le_of_ble_eq_true rfl⟩ hK (ws := (lqW kA al (X' 0) (X' 8 1) ++ cw kA ad X')) hP hD rfl hl.1 rfl (Nat.le_of_ble_eq_true rfl) dL_law_213 hroom) ?_
          refine lv_if_ne (tgt := 221) hx hb dL_law_216 (by decide) (fun c_6 => ?_) (fun c_6 => ?_)
          · skip
            refine lv_iinc (v := nI (i + 1)) (lv' := [(12, .int (nI (i + 1))), (15, .int 1), (14, .int yy), (13, .int xx), (0, .ref b), (1, .ref (ad 0)), (2, .ref (al 0)), (3, .ref (al 1)), (4, .ref (al 2)), (5, .ref (al 3)), (6, .ref (al 4)), (7, .ref (al 5)), (8, .ref (al 6)), (9, .ref (al 7)), (10, .ref (al 8)), (11, .ref (al 9))]) hx hb dL_law_221 hl (k := 15) rfl (nI_1 i) (by decide) rfl (fun ls hl => ?_)
            refine lv_goto (tgt := 100) hx hb dL_law_224 (by decide) ?_
            exact ih (i + 1) X' H locs ls (by omega) (rq_mono hRQ (by omega) (by omega)) hP hD hS (lv_sub hl [4, 5, 6, 7, 8, 9, 10, 11, 12, 13, 14, 15, 0] rfl)
          · exact absurd c_6 (by decide)
