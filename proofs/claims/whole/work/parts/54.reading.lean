/-! programs: the class's reading is the reference's -/
def kd (q : Int32) : Prop := q = 43 ∨ q = 45 ∨ q = 61
def dgK (K nu d : Int32) : Bool := if wiF d 0 9 = true then (if nu = 0 then false else if eqB K 61 = true then (if wiF (dgV nu d) 0 23 = true then true else false) else (if wiF (dgV nu d) 1 24 = true then true else false)) else false
def sB2 (K q c : Int32) : Bool := if K = 61 then (if c < 48 then false else if 57 < c then false else if q = 0 then false else if 23 < 10 * q + c - 48 then false else true) else (if c < 48 then false else if 57 < c then false else if q = 0 then false else if 24 < 10 * q + c - 48 then false else true)
def sB1 (K c : Int32) : Bool := if K = 61 then (if c < 48 then false else if 57 < c then false else true) else (if c < 49 then false else if 57 < c then false else true)
def SM (Q : Nat → Int32) (S : PS) : Prop :=
  (Q 0 = 0 ∧ S.2.2.2 = 0 ∧ S.2.2.1 = -1) ∨
  (Q 0 = 1 ∧ S.2.2.2 = 1 ∧ S.2.2.1 = -1 ∧ S.1 (3 * S.2.1) = Q 1) ∨
  (Q 0 = 2 ∧ S.2.2.2 = 2 ∧ S.2.2.1 = -1 ∧ S.1 (3 * S.2.1) = Q 1 ∧ S.1 (3 * S.2.1 + 1) = Q 2 ∧ kd (Q 2)) ∨
  (Q 0 = 3 ∧ S.2.2.2 = 2 ∧ S.2.2.1 = Q 3 ∧ S.1 (3 * S.2.1) = Q 1 ∧ S.1 (3 * S.2.1 + 1) = Q 2 ∧ kd (Q 2) ∧ ∃ v, v < 10 ∧ Q 3 = nI v) ∨
  (Q 0 = 4 ∧ S.1 (3 * S.2.1) = Q 1 ∧ S.1 (3 * S.2.1 + 1) = Q 2 ∧ ((S.2.2.2 = 3 ∧ (Q 2 = 104 ∨ Q 2 = 103)) ∨ (S.2.2.2 = 2 ∧ S.2.2.1 = Q 3 ∧ kd (Q 2) ∧ ∃ v, 10 ≤ v ∧ v < 25 ∧ Q 3 = nI v)))
def N3 (Q : Nat → Int32) : Prop := ∃ v, v < 25 ∧ Q 3 = nI v
def ch (c : Int32) : Prop := ∃ m, 33 ≤ m ∧ m < 127 ∧ c = nI m
theorem sec_eq {Q : Nat → Int32} {c : Int32} : tkSecond Q c = if sB2 (Q 2) (Q 3) c = true then (true, mkQ 4 (Q 1) (Q 2) (10 * Q 3 + c - 48)) else (false, Q) := by
  unfold tkSecond sB2
  by_cases h : Q 2 = 61
  · rw [if_pos h, if_pos h]
    by_cases h1 : c < 48
    · rw [if_pos h1, if_pos h1, if_neg Bool.false_ne_true]
    · rw [if_neg h1, if_neg h1]
      by_cases h2 : 57 < c
      · rw [if_pos h2, if_pos h2, if_neg Bool.false_ne_true]
      · rw [if_neg h2, if_neg h2]
        by_cases h3 : Q 3 = 0
        · rw [if_pos h3, if_pos h3, if_neg Bool.false_ne_true]
        · rw [if_neg h3, if_neg h3]
          by_cases h4 : 23 < 10 * Q 3 + c - 48
          · rw [if_pos h4, if_pos h4, if_neg Bool.false_ne_true]
          · rw [if_neg h4, if_neg h4, if_pos rfl]
  · rw [if_neg h, if_neg h]
    by_cases h1 : c < 48
    · rw [if_pos h1, if_pos h1, if_neg Bool.false_ne_true]
    · rw [if_neg h1, if_neg h1]
      by_cases h2 : 57 < c
      · rw [if_pos h2, if_pos h2, if_neg Bool.false_ne_true]
      · rw [if_neg h2, if_neg h2]
        by_cases h3 : Q 3 = 0
        · rw [if_pos h3, if_pos h3, if_neg Bool.false_ne_true]
        · rw [if_neg h3, if_neg h3]
          by_cases h4 : 24 < 10 * Q 3 + c - 48
          · rw [if_pos h4, if_pos h4, if_neg Bool.false_ne_true]
          · rw [if_neg h4, if_neg h4, if_pos rfl]
theorem fst_eq {Q : Nat → Int32} {c : Int32} : tkFirst Q c = if sB1 (Q 2) c = true then (true, mkQ 3 (Q 1) (Q 2) (c - 48)) else (false, Q) := by
  unfold tkFirst sB1
  by_cases h : Q 2 = 61
  · rw [if_pos h, if_pos h]
    by_cases h1 : c < 48
    · rw [if_pos h1, if_pos h1, if_neg Bool.false_ne_true]
    · rw [if_neg h1, if_neg h1]
      by_cases h2 : 57 < c
      · rw [if_pos h2, if_pos h2, if_neg Bool.false_ne_true]
      · rw [if_neg h2, if_neg h2, if_pos rfl]
  · rw [if_neg h, if_neg h]
    by_cases h1 : c < 49
    · rw [if_pos h1, if_pos h1, if_neg Bool.false_ne_true]
    · rw [if_neg h1, if_neg h1]
      by_cases h2 : 57 < c
      · rw [if_pos h2, if_pos h2, if_neg Bool.false_ne_true]
      · rw [if_neg h2, if_neg h2, if_pos rfl]
theorem a2_61 : ∀ m, m < 127 → sB1 61 (nI m) = dgK 61 (-1) (nI m - 48) ∧ (sB1 61 (nI m) = true → nI m - 48 = nI (m - 48) ∧ m - 48 < 10) := by decide +kernel
theorem a2_43 : ∀ m, m < 127 → sB1 43 (nI m) = dgK 43 (-1) (nI m - 48) ∧ (sB1 43 (nI m) = true → nI m - 48 = nI (m - 48) ∧ m - 48 < 10) := by decide +kernel
theorem a2_45 : ∀ m, m < 127 → sB1 45 (nI m) = dgK 45 (-1) (nI m - 48) ∧ (sB1 45 (nI m) = true → nI m - 48 = nI (m - 48) ∧ m - 48 < 10) := by decide +kernel
theorem a2 {K : Int32} (hK : kd K) {m : Nat} (hm : m < 127) : sB1 K (nI m) = dgK K (-1) (nI m - 48) ∧ (sB1 K (nI m) = true → nI m - 48 = nI (m - 48) ∧ m - 48 < 10) := by
  rcases hK with rfl | rfl | rfl
  · exact a2_43 m hm
  · exact a2_45 m hm
  · exact a2_61 m hm
theorem a3_61 : ∀ v, v < 25 → ∀ m, m < 127 → sB2 61 (nI v) (nI m) = dgK 61 (nI v) (nI m - 48) ∧ (sB2 61 (nI v) (nI m) = true → 10 * nI v + nI m - 48 = nI (10 * v + m - 48) ∧ 10 ≤ 10 * v + m - 48 ∧ 10 * v + m - 48 < 25 ∧ dgV (nI v) (nI m - 48) = 10 * nI v + nI m - 48 ∧ v < 10) := by decide +kernel
theorem a3_43 : ∀ v, v < 25 → ∀ m, m < 127 → sB2 43 (nI v) (nI m) = dgK 43 (nI v) (nI m - 48) ∧ (sB2 43 (nI v) (nI m) = true → 10 * nI v + nI m - 48 = nI (10 * v + m - 48) ∧ 10 ≤ 10 * v + m - 48 ∧ 10 * v + m - 48 < 25 ∧ dgV (nI v) (nI m - 48) = 10 * nI v + nI m - 48 ∧ v < 10) := by decide +kernel
theorem a3_45 : ∀ v, v < 25 → ∀ m, m < 127 → sB2 45 (nI v) (nI m) = dgK 45 (nI v) (nI m - 48) ∧ (sB2 45 (nI v) (nI m) = true → 10 * nI v + nI m - 48 = nI (10 * v + m - 48) ∧ 10 ≤ 10 * v + m - 48 ∧ 10 * v + m - 48 < 25 ∧ dgV (nI v) (nI m - 48) = 10 * nI v + nI m - 48 ∧ v < 10) := by decide +kernel
theorem a3 {K : Int32} (hK : kd K) {v m : Nat} (hv : v < 25) (hm : m < 127) : sB2 K (nI v) (nI m) = dgK K (nI v) (nI m - 48) ∧ (sB2 K (nI v) (nI m) = true → 10 * nI v + nI m - 48 = nI (10 * v + m - 48) ∧ 10 ≤ 10 * v + m - 48 ∧ 10 * v + m - 48 < 25 ∧ dgV (nI v) (nI m - 48) = 10 * nI v + nI m - 48 ∧ v < 10) := by
  rcases hK with rfl | rfl | rfl
  · exact a3_43 v hv m hm
  · exact a3_45 v hv m hm
  · exact a3_61 v hv m hm
theorem a3_59 {K q : Int32} : sB2 K q 59 = false := by
  unfold sB2
  by_cases h : K = 61
  · rw [if_pos h, if_neg (by decide), if_pos (by decide)]
  · rw [if_neg h, if_neg (by decide), if_pos (by decide)]
theorem nI_n1 {v : Nat} (h : v < 25) : ¬ nI v = -1 := by
  have : ∀ v : Nat, v < 25 → ¬ nI v = -1 := by decide +kernel
  exact this v h
theorem ed_nI {v : Nat} (h : v < 25) : edB (nI v) 2 = true := by
  unfold edB
  rw [if_neg (by decide), if_pos rfl, if_neg (nI_n1 h)]
theorem tk_4 {Q : Nat → Int32} {c : Int32} (h : Q 0 = 4) : tk Q c = tkSep Q c := by
  unfold tk
  rw [h, if_neg (by decide), if_neg (by decide), if_neg (by decide), if_neg (by decide)]
theorem tk_3 {Q : Nat → Int32} {c : Int32} (h : Q 0 = 3) : tk Q c = if sB2 (Q 2) (Q 3) c = true then (true, mkQ 4 (Q 1) (Q 2) (10 * Q 3 + c - 48)) else tkSep Q c := by
  unfold tk
  rw [h, if_neg (by decide), if_neg (by decide), if_neg (by decide), if_pos rfl, sec_eq]
  by_cases hs : sB2 (Q 2) (Q 3) c = true
  · rw [if_pos hs, if_pos hs]; exact if_pos rfl
  · rw [if_neg hs, if_neg hs]; exact if_neg Bool.false_ne_true
theorem tk_2 {Q : Nat → Int32} {c : Int32} (h : Q 0 = 2) : tk Q c = tkFirst Q c := by
  unfold tk
  rw [h, if_neg (by decide), if_neg (by decide), if_pos rfl]
theorem tk_1 {Q : Nat → Int32} {c : Int32} (h : Q 0 = 1) : tk Q c = tkKind Q c := by
  unfold tk
  rw [h, if_neg (by decide), if_pos rfl]
theorem tk_0 {Q : Nat → Int32} {c : Int32} (h : Q 0 = 0) : tk Q c = tkLetter Q c := by
  unfold tk
  rw [h, if_pos rfl]
theorem tkM_2 {pt : Nat → Int32} {nr : Nat} {nu du : Int32} (h0 : ¬ du = 0) (h1 : ¬ du = 1) (he : edB nu du = true) : tkM (pt, nr, nu, du) 59 = (true, upd pt (3 * nr + 2) nu, nr + 1, -1, 0) := by
  unfold tkM
  rw [if_neg h0, if_neg h1, if_pos rfl, if_pos he]
theorem tkM_x {pt : Nat → Int32} {nr : Nat} {nu du c : Int32} (h0 : ¬ du = 0) (h1 : ¬ du = 1) (hc : ¬ c = 59 ∨ ¬ edB nu du = true) : tkM (pt, nr, nu, du) c = tkX pt nr nu du c := by
  unfold tkM
  rw [if_neg h0, if_neg h1]
  rcases hc with hc | hc
  · rw [if_neg hc]
  · rw [if_neg hc, ite_self]
theorem tkX_2 {pt : Nat → Int32} {nr : Nat} {nu c : Int32} : tkX pt nr nu 2 c = if dgK (pt (3 * nr + 1)) nu (c - 48) = true then (true, pt, nr, dgV nu (c - 48), 2) else (false, pt, nr, nu, 2) := by
  unfold tkX
  rw [if_pos rfl]
  rfl
theorem SM_tk {Q : Nat → Int32} {S : PS} {c : Int32} (hS : SM Q S) (hc : ch c) : (tk Q c).1 = (tkM S c).1 ∧ ((tkM S c).1 = true → SM (tk Q c).2 (tkM S c).2) := by
  obtain ⟨pt, nr, nu, du⟩ := S
  obtain ⟨m, hm0, hm, rfl⟩ := hc
  rcases hS with ⟨h0, hd, hn⟩ | ⟨h0, hd, hn, ha⟩ | ⟨h0, hd, hn, ha, hk, hkd⟩ | ⟨h0, hd, hn, ha, hk, hkd, v, hv, ev⟩ | ⟨h0, ha, hk, hh⟩
  · dsimp only at hd hn
    subst hd; subst hn
    have e : tkM (pt, nr, -1, 0) (nI m) = (wiF (nI m) 97 100, upd pt (3 * nr) (nI m - 97), nr, -1, 1) := rfl
    rw [tk_0 h0, e]
    unfold tkLetter wiF
    by_cases h1 : nI m < 97
    · rw [if_pos h1, if_pos h1]; exact ⟨rfl, fun q => absurd q Bool.false_ne_true⟩
    · rw [if_neg h1, if_neg h1]
      by_cases h2 : nI m < 101
      · rw [if_pos h2, if_neg (by rw [gt_L (M' := 101) rfl]; exact fun q => q h2)]
        exact ⟨rfl, fun _ => Or.inr (Or.inl ⟨rfl, rfl, rfl, upd_s⟩)⟩
      · rw [if_neg h2, if_pos (by rw [gt_L (M' := 101) rfl]; exact h2)]; exact ⟨rfl, fun q => absurd q Bool.false_ne_true⟩
  · dsimp only at hd hn ha
    subst hd; subst hn
    have e : tkM (pt, nr, -1, 1) (nI m) = (sgB (nI m), upd pt (3 * nr + 1) (nI m), nr, -1, sgD (nI m)) := rfl
    rw [tk_1 h0, e]
    have hp : upd pt (3 * nr + 1) (nI m) (3 * nr) = Q 1 := by rw [upd_ne (by omega)]; exact ha
    generalize nI m = c at hp ⊢
    unfold tkKind sgB sgD
    by_cases c1 : c = 43
    · subst c1
      exact ⟨rfl, fun _ => Or.inr (Or.inr (Or.inl ⟨rfl, rfl, rfl, hp, upd_s, Or.inl rfl⟩))⟩
    · rw [if_neg c1, if_neg c1]
      by_cases c2 : c = 45
      · subst c2
        exact ⟨rfl, fun _ => Or.inr (Or.inr (Or.inl ⟨rfl, rfl, rfl, hp, upd_s, Or.inr (Or.inl rfl)⟩))⟩
      · rw [if_neg c2, if_neg c2]
        by_cases c3 : c = 61
        · subst c3
          exact ⟨rfl, fun _ => Or.inr (Or.inr (Or.inl ⟨rfl, rfl, rfl, hp, upd_s, Or.inr (Or.inr rfl)⟩))⟩
        · rw [if_neg c3, if_neg c3]
          by_cases c4 : c = 104
          · subst c4
            exact ⟨rfl, fun _ => Or.inr (Or.inr (Or.inr (Or.inr ⟨rfl, hp, upd_s, Or.inl ⟨rfl, Or.inl rfl⟩⟩)))⟩
          · rw [if_neg c4, if_neg c4]
            by_cases c5 : c = 103
            · subst c5
              exact ⟨rfl, fun _ => Or.inr (Or.inr (Or.inr (Or.inr ⟨rfl, hp, upd_s, Or.inl ⟨rfl, Or.inr rfl⟩⟩)))⟩
            · rw [if_neg c5, if_neg c5]; exact ⟨rfl, fun q => absurd q Bool.false_ne_true⟩
  · dsimp only at hd hn ha hk
    subst hd; subst hn
    obtain ⟨e1, e2⟩ := a2 hkd hm
    rw [tk_2 h0, fst_eq, tkM_x (by decide) (by decide) (Or.inr (by decide)), tkX_2, hk, ← e1]
    by_cases hs : sB1 (Q 2) (nI m) = true
    · rw [if_pos hs, if_pos hs]
      obtain ⟨g1, g2⟩ := e2 hs
      exact ⟨rfl, fun _ => Or.inr (Or.inr (Or.inr (Or.inl ⟨rfl, rfl, rfl, ha, hk, hkd, m - 48, g2, g1⟩)))⟩
    · rw [if_neg hs, if_neg hs]; exact ⟨rfl, fun q => absurd q Bool.false_ne_true⟩
  · dsimp only at hd hn ha hk
    subst hd; subst hn
    by_cases h59 : nI m = 59
    · rw [h59, tk_3 h0, a3_59, if_neg Bool.false_ne_true, tkM_2 (by decide) (by decide) (by rw [ev]; exact ed_nI (by omega))]
      exact ⟨rfl, fun _ => Or.inl ⟨rfl, rfl, rfl⟩⟩
    · obtain ⟨e1, e2⟩ := a3 hkd (v := v) (by omega) hm
      rw [← ev] at e1 e2
      rw [tk_3 h0, tkM_x (by decide) (by decide) (Or.inl h59), tkX_2, hk, ← e1]
      by_cases hs : sB2 (Q 2) (Q 3) (nI m) = true
      · rw [if_pos hs, if_pos hs]
        obtain ⟨g1, g2, g3, g4, -⟩ := e2 hs
        exact ⟨rfl, fun _ => Or.inr (Or.inr (Or.inr (Or.inr ⟨rfl, ha, hk, Or.inr ⟨rfl, g4, hkd, _, g2, g3, g1⟩⟩)))⟩
      · rw [if_neg hs, if_neg hs]
        unfold tkSep
        rw [if_neg h59]
        exact ⟨rfl, fun q => absurd q Bool.false_ne_true⟩
  · dsimp only at ha hk hh
    rw [tk_4 h0]
    unfold tkSep
    rcases hh with ⟨hd, hk2⟩ | ⟨hd, hn, hkd, v, hv0, hv, ev⟩
    · subst hd
      by_cases h59 : nI m = 59
      · rw [h59, if_pos rfl, tkM_2 (by decide) (by decide) rfl]
        exact ⟨rfl, fun _ => Or.inl ⟨rfl, rfl, rfl⟩⟩
      · rw [if_neg h59, tkM_x (by decide) (by decide) (Or.inl h59)]
        have e : tkX pt nr nu 3 (nI m) = (false, pt, nr, nu, 3) := rfl
        rw [e]
        exact ⟨rfl, fun q => absurd q Bool.false_ne_true⟩
    · subst hd; subst hn
      by_cases h59 : nI m = 59
      · rw [h59, if_pos rfl, tkM_2 (by decide) (by decide) (by rw [ev]; exact ed_nI (by omega))]
        exact ⟨rfl, fun _ => Or.inl ⟨rfl, rfl, rfl⟩⟩
      · obtain ⟨e1, e2⟩ := a3 hkd (v := v) (by omega) hm
        rw [if_neg h59, tkM_x (by decide) (by decide) (Or.inl h59), tkX_2, hk, ev, ← e1]
        have hs : ¬ sB2 (Q 2) (nI v) (nI m) = true := fun q => by have := (e2 q).2.2.2.2; omega
        rw [if_neg hs]
        exact ⟨rfl, fun q => absurd q Bool.false_ne_true⟩
theorem N3_tk {Q : Nat → Int32} {c : Int32} (hN : N3 Q) (hc : ch c) : N3 (tk Q c).2 := by
  obtain ⟨m, hm0, hm, rfl⟩ := hc
  obtain ⟨v, hv, ev⟩ := hN
  have hQ : N3 Q := ⟨v, hv, ev⟩
  have hsep : N3 (tkSep Q (nI m)).2 := by
    unfold tkSep
    split
    · exact ⟨v, hv, ev⟩
    · exact hQ
  by_cases h0 : Q 0 = 0
  · rw [tk_0 h0]
    unfold tkLetter
    split
    · exact hQ
    · split
      · exact ⟨v, hv, ev⟩
      · exact hQ
  by_cases h1 : Q 0 = 1
  · rw [tk_1 h1]
    unfold tkKind
    (repeat' split) <;> first | exact hQ | exact ⟨v, hv, ev⟩
  by_cases h2 : Q 0 = 2
  · rw [tk_2 h2, fst_eq]
    split
    · rename_i hs
      have : ∀ (K : Int32) (m : Nat), m < 127 → sB1 K (nI m) = true → nI m - 48 = nI (m - 48) ∧ m - 48 < 25 := by
        intro K m hm hs
        by_cases hK : K = 61
        · subst hK; have := (a2_61 m hm).2 hs; exact ⟨this.1, by omega⟩
        · have e : sB1 K (nI m) = sB1 43 (nI m) := by unfold sB1; rw [if_neg hK]; rfl
          rw [e] at hs
          have := (a2_43 m hm).2 hs
          exact ⟨this.1, by omega⟩
      obtain ⟨g1, g2⟩ := this _ m hm hs
      exact ⟨_, g2, g1⟩
    · exact hQ
  by_cases h3 : Q 0 = 3
  · rw [tk_3 h3]
    split
    · rename_i hs
      rw [ev] at hs
      have : ∀ (K : Int32), sB2 K (nI v) (nI m) = true → 10 * nI v + nI m - 48 = nI (10 * v + m - 48) ∧ 10 * v + m - 48 < 25 := by
        intro K hs
        by_cases hK : K = 61
        · subst hK; have := (a3_61 v hv m hm).2 hs; exact ⟨this.1, this.2.2.1⟩
        · have e : sB2 K (nI v) (nI m) = sB2 43 (nI v) (nI m) := by unfold sB2; rw [if_neg hK]; rfl
          rw [e] at hs
          have := (a3_43 v hv m hm).2 hs
          exact ⟨this.1, this.2.2.1⟩
      obtain ⟨g1, g2⟩ := this _ hs
      exact ⟨_, g2, by show 10 * Q 3 + nI m - 48 = _; rw [ev]; exact g1⟩
    · exact hsep
  · have e : tk Q (nI m) = tkSep Q (nI m) := by
      unfold tk
      rw [if_neg h0, if_neg h1, if_neg h2, if_neg h3]
    rw [e]; exact hsep
theorem SM_end {Q : Nat → Int32} {S : PS} (h : SM Q S) : tkEnd Q = edB S.2.2.1 S.2.2.2 := by
  unfold tkEnd
  rcases h with ⟨h0, hd, hn⟩ | ⟨h0, hd, hn, ha⟩ | ⟨h0, hd, hn, ha, hk, hkd⟩ | ⟨h0, hd, hn, ha, hk, hkd, v, hv, ev⟩ | ⟨h0, ha, hk, hh⟩
  · rw [h0, hd, hn]; rfl
  · rw [h0, hd, hn]; rfl
  · rw [h0, hd, hn]; rfl
  · rw [h0, hd, hn, ev, ed_nI (by omega)]; rfl
  · rcases hh with ⟨hd, -⟩ | ⟨hd, hn, -, v, -, hv, ev⟩
    · rw [h0, hd]; rfl
    · rw [h0, hd, hn, ev, ed_nI hv]; rfl
