/-! a run: the commands as the class carries them out of the text are the reference's rows -/
def TB (b tx : Nat → Int32) (L : Nat) : Prop := L ≤ 60 ∧ ∀ i, i < L → b i = tx i ∧ ch (tx i)
theorem cd_n {b : Nat → Int32} {i : Nat} (h : i < 60) : cdF b (nI i) = b i := by
  unfold cdF
  rw [if_neg (nI_pos (by omega)), if_pos (show nI i < 60 from (nI_ltI (b := 60) (by omega) (by omega)).mpr h), nI_clamp (by omega)]
theorem ie_rt {b tx : Nat → Int32} {L : Nat} (hT : TB b tx L) : ∀ (n k : Nat) (Q : Nat → Int32) (S : PS), k + n = L → SM Q S → N3 Q →
    (ieL b n Q (nI k)).1 = nI (rtL tx n k S).1 ∧ N3 (ieL b n Q (nI k)).2 ∧ ((rtL tx n k S).1 = L → SM (ieL b n Q (nI k)).2 (rtL tx n k S).2)
  | 0, k, Q, S, hk, hS, hN => ⟨rfl, hN, fun _ => hS⟩
  | n + 1, k, Q, S, hk, hS, hN => by
    have hc := hT.2 k (by omega)
    have h60 := hT.1
    rw [ieL, rtL, cd_n (by omega), hc.1]
    obtain ⟨e1, e2⟩ := SM_tk hS hc.2
    rw [e1]
    by_cases hb : (tkM S (tx k)).1 = true
    · rw [if_pos hb, if_pos hb, nI_1]
      exact ie_rt hT n (k + 1) _ _ (by omega) (e2 hb) (N3_tk hN hc.2)
    · rw [if_neg hb, if_neg hb]; exact ⟨rfl, N3_tk hN hc.2, fun q => absurd q (by show ¬ k = L; omega)⟩
theorem SM_0 {Q : Nat → Int32} {pt : Nat → Int32} : SM (bgQ Q) (pt, 0, -1, 0) := Or.inl ⟨rfl, rfl, rfl⟩
theorem ie_F {X : Nat → Nat → Int32} {tx pt : Nat → Int32} {L : Nat} (hT : TB (X 9) tx L) (hN : N3 (qz (X 8))) : (ieF X L).1 = nI (rtL tx L 0 (pt, 0, -1, 0)).1 ∧ N3 (ieF X L).2 ∧ ((rtL tx L 0 (pt, 0, -1, 0)).1 = L → SM (ieF X L).2 (rtL tx L 0 (pt, 0, -1, 0)).2) :=
  ie_rt hT L 0 (bgQ (qz (X 8))) (pt, 0, -1, 0) (by omega) SM_0 hN
theorem nI_inj' {a b : Nat} (ha : a < 2 ^ 31) (hb : b < 2 ^ 31) (h : nI a = nI b) : a = b := by
  have e1 : (nI a).toInt = (a : Int) := by rw [← Int32.toInt_ofNat_of_lt ha]; rfl
  have e2 : (nI b).toInt = (b : Int) := by rw [← Int32.toInt_ofNat_of_lt hb]; rfl
  rw [h] at e1
  omega
theorem ru_T {X : Nat → Nat → Int32} {tx pt : Nat → Int32} {L : Nat} (hT : TB (X 9) tx L) (hN : N3 (qz (X 8))) (hlen : X 8 2 = nI L) : ruX X L = ruT (nI L) tx L pt := by
  obtain ⟨e1, -, e3⟩ := ie_F (pt := pt) hT hN
  have hb := (rt_bd (tx := tx) L 0 (pt, 0, -1, 0) (Nat.le_refl _)).1
  have h60 := hT.1
  unfold ruX ruT ipF
  rw [e1, hlen]
  by_cases hr : nI (rtL tx L 0 (pt, 0, -1, 0)).1 = nI L
  · have hL : (rtL tx L 0 (pt, 0, -1, 0)).1 = L := nI_inj' (by omega) (by omega) hr
    rw [if_pos hr, if_pos hr, SM_end (e3 hL)]
    cases edB (rtL tx L 0 (pt, 0, -1, 0)).2.2.2.1 (rtL tx L 0 (pt, 0, -1, 0)).2.2.2.2 <;> rfl
  · rw [if_neg hr, if_neg hr]; rfl
theorem tk_keep {S : PS} {c : Int32} {i : Nat} (hi : i < 3 * S.2.1) : (tkM S c).2.1 i = S.1 i ∧ S.2.1 ≤ (tkM S c).2.2.1 := by
  obtain ⟨pt, nr, nu, du⟩ := S
  dsimp only at hi
  have hx : (tkX pt nr nu du c).2.1 i = pt i ∧ nr ≤ (tkX pt nr nu du c).2.2.1 := by
    unfold tkX
    (repeat' split) <;> exact ⟨rfl, Nat.le_refl _⟩
  unfold tkM
  dsimp only
  split
  · exact ⟨upd_ne (by omega), Nat.le_refl _⟩
  · split
    · exact ⟨upd_ne (by omega), Nat.le_refl _⟩
    · split
      · split
        · exact ⟨upd_ne (by omega), by show nr ≤ nr + 1; omega⟩
        · exact hx
      · exact hx
theorem rt_keep {tx : Nat → Int32} : ∀ (n k : Nat) (S : PS) (i : Nat), i < 3 * S.2.1 → (rtL tx n k S).2.1 i = S.1 i ∧ S.2.1 ≤ (rtL tx n k S).2.2.1
  | 0, k, S, i, hi => ⟨rfl, Nat.le_refl _⟩
  | n + 1, k, S, i, hi => by
    obtain ⟨h1, h2⟩ := tk_keep (c := tx k) hi
    rw [rtL]
    by_cases hb : (tkM S (tx k)).1 = true
    · rw [if_pos hb]
      obtain ⟨g1, g2⟩ := rt_keep n (k + 1) (tkM S (tx k)).2 i (by omega)
      exact ⟨g1.trans h1, Nat.le_trans h2 g2⟩
    · rw [if_neg hb]; exact ⟨h1, h2⟩
theorem rt_nr {tx : Nat → Int32} {n k : Nat} {S : PS} : S.2.1 ≤ (rtL tx n k S).2.2.1 := by
  induction n generalizing k S with
  | zero => exact Nat.le_refl _
  | succ n ih =>
    have h2 : S.2.1 ≤ (tkM S (tx k)).2.2.1 := by
      obtain ⟨pt, nr, nu, du⟩ := S
      have hx : nr ≤ (tkX pt nr nu du (tx k)).2.2.1 := by
        unfold tkX
        (repeat' split) <;> exact Nat.le_refl _
      unfold tkM
      dsimp only
      (repeat' split) <;> first | exact Nat.le_refl _ | exact hx | exact Nat.le_succ _
    rw [rtL]
    by_cases hb : (tkM S (tx k)).1 = true
    · rw [if_pos hb]; exact Nat.le_trans h2 ih
    · rw [if_neg hb]; exact h2
theorem tk59 {Q : Nat → Int32} {S : PS} (hS : SM Q S) (h : (tkM S 59).1 = true) : edB S.2.2.1 S.2.2.2 = true ∧ (tkM S 59).2 = (upd S.1 (3 * S.2.1 + 2) S.2.2.1, S.2.1 + 1, -1, 0) := by
  have he := SM_end hS
  obtain ⟨pt, nr, nu, du⟩ := S
  rcases hS with ⟨h0, hd, hn⟩ | ⟨h0, hd, hn, ha⟩ | ⟨h0, hd, hn, ha, hk, hkd⟩ | ⟨h0, hd, hn, ha, hk, hkd, v, hv, ev⟩ | ⟨h0, ha, hk, hh⟩
  · dsimp only at hd hn
    subst hd; subst hn
    have e : (tkM (pt, nr, -1, 0) 59).1 = wiF 59 97 100 := rfl
    rw [e] at h
    exact absurd h (by decide)
  · dsimp only at hd hn
    subst hd; subst hn
    have e : (tkM (pt, nr, -1, 1) 59).1 = sgB 59 := rfl
    rw [e] at h
    exact absurd h (by decide)
  · dsimp only at hd hn
    subst hd; subst hn
    rw [tkM_x (by decide) (by decide) (Or.inr (by decide)), tkX_2] at h
    have e : dgK (pt (3 * nr + 1)) (-1) (59 - 48) = false := rfl
    rw [e, if_neg Bool.false_ne_true] at h
    exact absurd h Bool.false_ne_true
  · dsimp only at hd hn
    subst hd
    have e : edB nu 2 = true := by rw [hn, ev]; exact ed_nI (by omega)
    exact ⟨e, by rw [tkM_2 (by decide) (by decide) e]⟩
  · dsimp only at hh
    have e : edB nu du = true ∧ ¬ du = 0 ∧ ¬ du = 1 := by
      rcases hh with ⟨hd, -⟩ | ⟨hd, hn, -, v, -, hv, ev⟩
      · subst hd; exact ⟨rfl, by decide, by decide⟩
      · subst hd; exact ⟨by rw [hn, ev]; exact ed_nI hv, by decide, by decide⟩
    exact ⟨e.1, by rw [tkM_2 e.2.1 e.2.2 e.1]⟩
theorem tkn59 {S : PS} {c : Int32} (h : ¬ c = 59) : (tkM S c).2.2.1 = S.2.1 := by
  obtain ⟨pt, nr, nu, du⟩ := S
  have hx : (tkX pt nr nu du c).2.2.1 = nr := by
    unfold tkX
    (repeat' split) <;> rfl
  unfold tkM
  dsimp only
  rw [if_neg h]
  (repeat' split) <;> first | rfl | exact hx
theorem ccF_104 {z : Nat → Int32} {a k : Nat} {v : Int32} : ccF z a k 104 v = (true, hmZ z a) := by
  unfold ccF
  rw [if_neg (by decide), if_neg (by decide), if_neg (by decide), if_neg (by decide)]
theorem ccF_103 {z : Nat → Int32} {a k : Nat} {v : Int32} : ccF z a k 103 v = (if gsF z = true then (true, grZ z a) else (false, z)) := by
  unfold ccF
  rw [if_neg (show ¬ (103 : Int32) = 43 by decide), if_neg (show ¬ (103 : Int32) = 45 by decide), if_neg (show ¬ (103 : Int32) = 61 by decide), if_pos rfl]
theorem cc_ca {Q z : Nat → Int32} {S : PS} (hS : SM Q S) (he : edB S.2.2.1 S.2.2.2 = true) (hP : PI S) : okC (S.1 (3 * S.2.1)) (S.1 (3 * S.2.1 + 1)) S.2.2.1 ∧ S.1 (3 * S.2.1) = Q 1 ∧ (Inv z → caF z (S.1 (3 * S.2.1)).toNatClampNeg (S.1 (3 * S.2.1 + 1)) S.2.2.1 = ccQ z Q) := by
  have hok := PI_end hP he S.2.1 (by omega)
  rw [upd_ne (by omega), upd_ne (by omega), upd_s] at hok
  obtain ⟨pt, nr, nu, du⟩ := S
  dsimp only at he hok ⊢
  rcases hS with ⟨h0, hd, hn⟩ | ⟨h0, hd, hn, ha⟩ | ⟨h0, hd, hn, ha, hk, hkd⟩ | ⟨h0, hd, hn, ha, hk, hkd, v, hv, ev⟩ | ⟨h0, ha, hk, hh⟩
  · dsimp only at hd hn
    rw [hd, hn] at he; exact absurd he (by decide)
  · dsimp only at hd hn
    rw [hd, hn] at he; exact absurd he (by decide)
  · dsimp only at hd hn
    rw [hd, hn] at he; exact absurd he (by decide)
  · dsimp only at ha hk hn
    refine ⟨hok, ha, fun hI => ?_⟩
    rw [ca_cc hI (okC_a hok).2 hok, ha, hk, hn]
    rfl
  · dsimp only at ha hk hh
    refine ⟨hok, ha, fun hI => ?_⟩
    rw [ca_cc hI (okC_a hok).2 hok]
    rcases hh with ⟨hd, h2⟩ | ⟨hd, hn, -⟩
    · unfold ccQ
      rw [ha, hk]
      rcases h2 with h2 | h2
      · rw [h2, ccF_104, ccF_104]
      · rw [h2, ccF_103, ccF_103]
    · rw [ha, hk, hn]; rfl
theorem cb_cy {b tx : Nat → Int32} {L : Nat} (hT : TB b tx L) : ∀ (n j : Nat) (z Q : Nat → Int32) (S : PS), j + n = L → SM Q S → PI S → Inv z → (rtL tx n j S).1 = L → edB (rtL tx n j S).2.2.2.1 (rtL tx n j S).2.2.2.2 = true →
    (cbL b L (n + 1) j z Q (nI S.2.1)).1 = nI (cyL (upd (rtL tx n j S).2.1 (3 * (rtL tx n j S).2.2.1 + 2) (rtL tx n j S).2.2.2.1) ((rtL tx n j S).2.2.1 + 1 - S.2.1) S.2.1 z).1 ∧ (cbL b L (n + 1) j z Q (nI S.2.1)).2.1 = (cyL (upd (rtL tx n j S).2.1 (3 * (rtL tx n j S).2.2.1 + 2) (rtL tx n j S).2.2.2.1) ((rtL tx n j S).2.2.1 + 1 - S.2.1) S.2.1 z).2
  | 0, j, z, Q, S, hj, hS, hP, hI, hf, he => by
    have hf' : (rtL tx 0 j S) = (j, S) := rfl
    rw [hf'] at he ⊢
    dsimp only at he ⊢
    obtain ⟨hok, -, hca⟩ := cc_ca (z := z) hS he hP
    have ep : caP (upd S.1 (3 * S.2.1 + 2) S.2.2.1) S.2.1 z = ccQ z Q := by
      unfold caP
      rw [upd_ne (by omega), upd_ne (by omega), upd_s]
      exact hca hI
    rw [show S.2.1 + 1 - S.2.1 = 0 + 1 by omega, cyL, ep, cbL, if_pos (codeN_0 (by omega))]
    by_cases hc : (ccQ z Q).1 = true
    · rw [if_pos hc, if_pos hc]
      exact ⟨nI_1 _, rfl⟩
    · rw [if_neg hc, if_neg hc]; exact ⟨rfl, rfl⟩
  | n + 1, j, z, Q, S, hj, hS, hP, hI, hf, he => by
    have hc := hT.2 j (by omega)
    have h60 := hT.1
    have hb : (tkM S (tx j)).1 = true := Classical.byContradiction fun q => by
      rw [rtL, if_neg q] at hf
      have hf2 : j = L := hf
      omega
    have er : rtL tx (n + 1) j S = rtL tx n (j + 1) (tkM S (tx j)).2 := by rw [rtL, if_pos hb]
    have ec : codeN b L j = tx j := (codeN_1 rfl (by omega)).trans ((cd_n (by omega)).trans hc.1)
    rw [er] at hf he ⊢
    have hS2 := (SM_tk hS hc.2).2 hb
    have hP2 := PI_tk hb hP
    by_cases h59 : tx j = 59
    · have hb9 := hb
      rw [h59] at hb9
      obtain ⟨he9, e2⟩ := tk59 hS hb9
      obtain ⟨hok, -, hca⟩ := cc_ca (z := z) hS he9 hP
      have hca := hca hI
      have eS : (tkM S (tx j)).2 = (upd S.1 (3 * S.2.1 + 2) S.2.2.1, S.2.1 + 1, -1, 0) := by rw [h59]; exact e2
      have hkp := fun i (hi : i < 3 * (S.2.1 + 1)) => rt_keep (tx := tx) n (j + 1) (tkM S (tx j)).2 i (by rw [eS]; exact hi)
      have hnr : S.2.1 + 1 ≤ (rtL tx n (j + 1) (tkM S (tx j)).2).2.2.1 := by
        have := rt_nr (tx := tx) (n := n) (k := j + 1) (S := (tkM S (tx j)).2)
        rw [eS] at this ⊢
        exact this
      have ih := fun z2 (h2 : Inv z2) => cb_cy hT n (j + 1) z2 (tk Q (tx j)).2 (tkM S (tx j)).2 (by omega) hS2 hP2 h2 hf he
      have ep : caP (upd (rtL tx n (j + 1) (tkM S (tx j)).2).2.1 (3 * (rtL tx n (j + 1) (tkM S (tx j)).2).2.2.1 + 2) (rtL tx n (j + 1) (tkM S (tx j)).2).2.2.2.1) S.2.1 z = ccQ z Q := by
        unfold caP
        rw [upd_ne (by omega), upd_ne (by omega), upd_ne (by omega), (hkp (3 * S.2.1) (by omega)).1, (hkp (3 * S.2.1 + 1) (by omega)).1, (hkp (3 * S.2.1 + 2) (by omega)).1, eS]
        show caF z (upd S.1 (3 * S.2.1 + 2) S.2.2.1 (3 * S.2.1)).toNatClampNeg (upd S.1 (3 * S.2.1 + 2) S.2.2.1 (3 * S.2.1 + 1)) (upd S.1 (3 * S.2.1 + 2) S.2.2.1 (3 * S.2.1 + 2)) = _
        rw [upd_ne (by omega), upd_ne (by omega), upd_s]
        exact hca
      have e21 : (tkM S (tx j)).2.2.1 = S.2.1 + 1 := by rw [eS]
      rw [e21] at ih
      generalize (rtL tx n (j + 1) (tkM S (tx j)).2).2 = E at ep hnr ih ⊢
      rw [show E.2.1 + 1 - S.2.1 = (E.2.1 + 1 - (S.2.1 + 1)) + 1 by omega, cyL, ep, cbL, if_pos (ec.trans h59), ec]
      by_cases hcc : (ccQ z Q).1 = true
      · rw [if_pos hcc, if_pos hcc, nI_1]
        exact ih _ (by rw [← hca]; exact Inv_ca hI (okC_a hok).2)
      · rw [if_neg hcc, if_neg hcc]; exact ⟨rfl, rfl⟩
    · have e21 : (tkM S (tx j)).2.2.1 = S.2.1 := tkn59 h59
      have ih := cb_cy hT n (j + 1) z (tk Q (tx j)).2 (tkM S (tx j)).2 (by omega) hS2 hP2 hI hf he
      rw [e21] at ih
      rw [cbL, if_neg (fun q => h59 (ec.symm.trans q)), ec]
      exact ih
def Sb (tx : Nat → Int32) (S0 : PS) : Nat → PS
  | 0 => S0
  | j + 1 => (tkM (Sb tx S0 j) (tx j)).2
theorem rt_all {tx : Nat → Int32} {S0 : PS} {L : Nat} : ∀ (n k : Nat), k + n = L → (rtL tx n k (Sb tx S0 k)).1 = L → (∀ j, k ≤ j → j < L → (tkM (Sb tx S0 j) (tx j)).1 = true) ∧ (rtL tx n k (Sb tx S0 k)).2 = Sb tx S0 L
  | 0, k, hk, hf => ⟨fun j h1 h2 => by omega, by rw [← hk]; rfl⟩
  | n + 1, k, hk, hf => by
    have hb : (tkM (Sb tx S0 k) (tx k)).1 = true := Classical.byContradiction fun q => by
      rw [rtL, if_neg q] at hf
      have hf2 : k = L := hf
      omega
    have er : rtL tx (n + 1) k (Sb tx S0 k) = rtL tx n (k + 1) (Sb tx S0 (k + 1)) := by rw [rtL, if_pos hb]; rfl
    rw [er] at hf ⊢
    obtain ⟨h1, h2⟩ := rt_all n (k + 1) (by omega) hf
    refine ⟨fun j h3 h4 => ?_, h2⟩
    by_cases hj : j = k
    · subst hj; exact hb
    · exact h1 j (by omega) h4
theorem QV_all {b tx : Nat → Int32} {L : Nat} {Q0 pt : Nat → Int32} (hT : TB b tx L) (hN : N3 Q0) (hf : (rtL tx L 0 (pt, 0, -1, 0)).1 = L) (he : edB (rtL tx L 0 (pt, 0, -1, 0)).2.2.2.1 (rtL tx L 0 (pt, 0, -1, 0)).2.2.2.2 = true) : ∀ j, j ≤ L → codeN b L j = 59 → QV (Qs b L Q0 j) := by
  obtain ⟨hall, hend⟩ := rt_all (tx := tx) (S0 := (pt, 0, -1, 0)) L 0 (by omega) hf
  have h60 := hT.1
  have ec : ∀ j, j < L → codeN b L j = tx j := fun j hj => (codeN_1 rfl hj).trans ((cd_n (by omega)).trans (hT.2 j hj).1)
  have hsm : ∀ j, j ≤ L → SM (Qs b L Q0 j) (Sb tx (pt, 0, -1, 0) j) ∧ PI (Sb tx (pt, 0, -1, 0) j) ∧ N3 (Qs b L Q0 j) := by
    intro j
    induction j with
    | zero => exact fun _ => ⟨SM_0, PI_0, hN⟩
    | succ j ih =>
      intro hj
      obtain ⟨i1, i2, i3⟩ := ih (by omega)
      have hc := (hT.2 j (by omega)).2
      have hb := hall j (by omega) (by omega)
      refine ⟨?_, PI_tk hb i2, ?_⟩
      · rw [Qs, ec j (by omega)]; exact (SM_tk i1 hc).2 hb
      · rw [Qs, ec j (by omega)]; exact N3_tk i3 hc
  intro j hj h59
  obtain ⟨i1, i2, i3⟩ := hsm j hj
  have he9 : edB (Sb tx (pt, 0, -1, 0) j).2.2.1 (Sb tx (pt, 0, -1, 0) j).2.2.2 = true := by
    by_cases hjL : j < L
    · have hb := hall j (by omega) hjL
      rw [ec j hjL] at h59
      rw [h59] at hb
      exact (tk59 i1 hb).1
    · have : j = L := by omega
      subst this
      rw [← hend]; exact he
  obtain ⟨hok, hq, -⟩ := cc_ca (z := z0) i1 he9 i2
  obtain ⟨v, hv, ev⟩ := i3
  refine ⟨by rw [← hq]; exact okC_a hok, ?_⟩
  rw [clamp_j ev (by omega)]
  exact ⟨ev, by omega⟩
/-- the whole run -/
theorem run_eq {X : Nat → Nat → Int32} {tx pt : Nat → Int32} {L : Nat} (hT : TB (X 9) tx L) (hI : Inv (X 0)) (hf : (rtL tx L 0 (pt, 0, -1, 0)).1 = L) (he : edB (rtL tx L 0 (pt, 0, -1, 0)).2.2.2.1 (rtL tx L 0 (pt, 0, -1, 0)).2.2.2.2 = true) :
    (cbF X L).1 = nI (cyL (upd (rtL tx L 0 (pt, 0, -1, 0)).2.1 (3 * (rtL tx L 0 (pt, 0, -1, 0)).2.2.1 + 2) (rtL tx L 0 (pt, 0, -1, 0)).2.2.2.1) ((rtL tx L 0 (pt, 0, -1, 0)).2.2.1 + 1) 0 (X 0)).1 ∧ (cbF X L).2.1 = (cyL (upd (rtL tx L 0 (pt, 0, -1, 0)).2.1 (3 * (rtL tx L 0 (pt, 0, -1, 0)).2.2.1 + 2) (rtL tx L 0 (pt, 0, -1, 0)).2.2.2.1) ((rtL tx L 0 (pt, 0, -1, 0)).2.2.1 + 1) 0 (X 0)).2 :=
  cb_cy hT L 0 (X 0) (bgQ (qz (X 8))) (pt, 0, -1, 0) (by omega) SM_0 PI_0 hI hf he
