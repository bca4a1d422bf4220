/-! joins of the class's world, one a kind of call -/
section CJ
variable {kA ad : Nat → Nat} {X X' : Nat → Nat → Int32} {A0 : Nat → Prop} {D : va_G} {H H1 : Heap} {v : Int32}
theorem cw_Aw {q : Nat} (h : Aw (cw kA ad X') q) : Aw (cw kA ad X) q := by
  obtain ⟨k, e, h1⟩ := h
  obtain ⟨h84, h2⟩ := cw_inv h1
  exact ⟨k, _, by rw [cw_get h84 rfl, ← (show q = ad k from congrArg Prod.fst h2)]⟩
theorem cw_sub {wc : va_W} (h : ∀ q ∈ wc, ∃ k : Nat, k < 84 ∧ q.1 = ad k) : ∀ q, Aw wc q → Aw (cw kA ad X) q := by
  intro q hq
  obtain ⟨e, he⟩ := Aw_mem hq
  obtain ⟨k, hk, h1⟩ := h _ he
  exact ⟨k, _, by rw [cw_get hk rfl, ← h1]⟩
theorem jn_G3 {r a r' : Nat} (ha : a < 4) (hg : 4 * r + a < 29) (hr : r' < 7) {G' : Nat → Int32} (hP : va_P D vwCl (cw kA ad X) H) (hD : va_D A0 (cw kA ad X))
    (hk : ∀ q : Nat, q < H.size → ¬ Aw [(gA ad r a, gC (wA ad r a) (sl (X r) a)), (wA ad r a, wC kA (sl (X r) a)), (rA ad r', rC (X r'))] q → H1[q]? = H[q]?) (hP1 : va_P D vwCl [(gA ad r a, gC (wA ad r a) G'), (wA ad r a, wC kA G'), (rA ad r', rC (X r'))] H1) : va_P D vwCl (cw kA ad (upG X r a G')) H1 ∧ va_D A0 (cw kA ad (upG X r a G')) :=
  jn_G ha hg hP hD hk hP1 rfl rfl rfl rfl (fun q hq => by
    have hq2 : q = (rA ad r', rC (X r')) := List.mem_singleton.mp hq
    subst hq2
    exact ⟨List.mem_of_getElem? (i := 2) rfl, 3 * r' + 64, by omega, by omega, by omega, by rw [cX_rules]⟩)
theorem jn_G2 {r a : Nat} (ha : a < 4) (hg : 4 * r + a < 29) {G' : Nat → Int32} (hP : va_P D vwCl (cw kA ad X) H) (hD : va_D A0 (cw kA ad X))
    (hk : ∀ q : Nat, q < H.size → ¬ Aw [(gA ad r a, gC (wA ad r a) (sl (X r) a)), (wA ad r a, wC kA (sl (X r) a))] q → H1[q]? = H[q]?) (hP1 : va_P D vwCl [(gA ad r a, gC (wA ad r a) G'), (wA ad r a, wC kA G')] H1) : va_P D vwCl (cw kA ad (upG X r a G')) H1 ∧ va_D A0 (cw kA ad (upG X r a G')) :=
  jn_G ha hg hP hD hk hP1 rfl rfl rfl rfl (fun q hq => absurd hq List.not_mem_nil)
theorem jn_G4 {r a r' a' : Nat} (ha : a < 4) (hg : 4 * r + a < 29) (ha' : a' < 4) (hg' : 4 * r' + a' < 29) (hne : 4 * r + a ≠ 4 * r' + a') {G' : Nat → Int32} (hP : va_P D vwCl (cw kA ad X) H) (hD : va_D A0 (cw kA ad X))
    (hk : ∀ q : Nat, q < H.size → ¬ Aw [(gA ad r a, gC (wA ad r a) (sl (X r) a)), (wA ad r a, wC kA (sl (X r) a)), (gA ad r' a', gC (wA ad r' a') (sl (X r') a')), (wA ad r' a', wC kA (sl (X r') a'))] q → H1[q]? = H[q]?)
    (hP1 : va_P D vwCl [(gA ad r a, gC (wA ad r a) G'), (wA ad r a, wC kA G'), (gA ad r' a', gC (wA ad r' a') (sl (X r') a')), (wA ad r' a', wC kA (sl (X r') a'))] H1) : va_P D vwCl (cw kA ad (upG X r a G')) H1 ∧ va_D A0 (cw kA ad (upG X r a G')) :=
  jn_G ha hg hP hD hk hP1 rfl rfl rfl rfl (fun q hq => by
    rcases List.mem_cons.mp hq with hq2 | hq2
    · subst hq2
      exact ⟨List.mem_of_getElem? (i := 2) rfl, 2 * (4 * r' + a') + 5, by omega, by omega, by omega, by rw [cX_gear ha' hg']⟩
    · have hq3 := List.mem_singleton.mp hq2
      subst hq3
      exact ⟨List.mem_of_getElem? (i := 3) rfl, 2 * (4 * r' + a') + 6, by omega, by omega, by omega, by rw [cX_wears ha' hg']⟩)
theorem jn_Q {Q' : Nat → Int32} (hP : va_P D vwCl (cw kA ad X) H) (hD : va_D A0 (cw kA ad X)) (hk : ∀ q : Nat, q < H.size → ¬ Aw [(ad 3, dC (qz (X 8)))] q → H1[q]? = H[q]?) (hP1 : va_P D vwCl [(ad 3, dC Q')] H1) : va_P D vwCl (cw kA ad (upQ X Q')) H1 ∧ va_D A0 (cw kA ad (upQ X Q')) := by
  have hout : ∀ k, k < 84 → k ≠ 3 → cX kA ad (upQ X Q') k = cX kA ad X k := fun k hk1 hk2 => cX_eq (fun q i hd => upQ_ne (by unfold dep at hd; omega))
  refine ⟨cw_join hP hk (fun k h84 hA => ?_) (fun k h84 hA => hout k h84 (fun h => hA (by subst h; exact ⟨0, _, rfl⟩))), cw_D hD⟩
  obtain ⟨e, he⟩ := Aw_mem hA
  have h3 : ad k = ad 3 := congrArg Prod.fst (List.mem_singleton.mp he)
  have hk3 := cw_inj hD h84 (by omega) h3
  subst hk3
  have hx := hP1 0 _ rfl
  show va_at D vwCl (ad 3, dC (qz (upQ X Q' 8))) H1
  have e : dC (qz (upQ X Q' 8)) = dC Q' := by
    unfold upQ
    rw [up2_s]
    rfl
  rw [e]; exact hx
theorem jn_R {r : Nat} (hr : r < 7) {R' : Nat → Int32} (hR : ∀ i, 6 ≤ i → R' i = X r i) (hP : va_P D vwCl (cw kA ad X) H) (hD : va_D A0 (cw kA ad X)) (hk : ∀ q : Nat, q < H.size → ¬ Aw [(rA ad r, rC (X r))] q → H1[q]? = H[q]?) (hP1 : va_P D vwCl [(rA ad r, rC R')] H1) : va_P D vwCl (cw kA ad (up2 X r R')) H1 ∧ va_D A0 (cw kA ad (up2 X r R')) := by
  have hX : ∀ q i, q ≠ r ∨ 6 ≤ i → up2 X r R' q i = X q i := fun q i h => by
    by_cases hq : q = r
    · subst hq
      rw [up2_s]
      exact hR i (h.elim (fun h => absurd rfl h) id)
    · rw [up2_n hq]
  have hout : ∀ k, k < 84 → k ≠ 3 * r + 64 → cX kA ad (up2 X r R') k = cX kA ad X k := fun k hk1 hk2 => cX_eq (fun q i hd => hX q i (by unfold dep at hd; omega))
  refine ⟨cw_join hP hk (fun k h84 hA => ?_) (fun k h84 hA => hout k h84 (fun h => hA (by subst h; exact ⟨0, _, rfl⟩))), cw_D hD⟩
  obtain ⟨e, he⟩ := Aw_mem hA
  have h3 : ad k = rA ad r := congrArg Prod.fst (List.mem_singleton.mp he)
  have hk3 := cw_inj hD h84 (by omega) h3
  subst hk3
  rw [cX_rules, up2_s]
  exact hP1 0 _ rfl
/-- the rules of a state taken from another one's -/
def cpR (X : Nat → Nat → Int32) (r r' : Nat) : Nat → Nat → Int32 := up2 X r (fun i => if i < 6 then X r' i else X r i)
theorem jn_RR {r r' : Nat} (hr : r < 7) (hr' : r' < 7) (hne : r ≠ r') (hP : va_P D vwCl (cw kA ad X) H) (hD : va_D A0 (cw kA ad X)) (hk : ∀ q : Nat, q < H.size → ¬ Aw [(rA ad r, rC (X r)), (rA ad r', rC (X r'))] q → H1[q]? = H[q]?) (hP1 : va_P D vwCl [(rA ad r, rC (X r')), (rA ad r', rC (X r'))] H1) : va_P D vwCl (cw kA ad (cpR X r r')) H1 ∧ va_D A0 (cw kA ad (cpR X r r')) := by
  have hX : ∀ q i, q ≠ r ∨ 6 ≤ i → cpR X r r' q i = X q i := fun q i h => by
    unfold cpR
    by_cases hq : q = r
    · subst hq
      rw [up2_s]
      exact if_neg (by omega)
    · rw [up2_n hq]
  have hout : ∀ k, k < 84 → k ≠ 3 * r + 64 → cX kA ad (cpR X r r') k = cX kA ad X k := fun k hk1 hk2 => cX_eq (fun q i hd => hX q i (by unfold dep at hd; omega))
  refine ⟨cw_join hP hk (fun k h84 hA => ?_) (fun k h84 hA => hout k h84 (fun h => hA (by subst h; exact ⟨0, _, rfl⟩))), cw_D hD⟩
  by_cases hk0 : k = 3 * r + 64
  · subst hk0
    rw [cX_rules]
    have e : rC (cpR X r r' r) = rC (X r') := by
      unfold cpR
      rw [up2_s]
      rfl
    rw [e]
    exact hP1 0 _ rfl
  obtain ⟨e, he⟩ := Aw_mem hA
  rcases List.mem_cons.mp he with h1 | h1
  · exact absurd (cw_inj hD h84 (by omega) (congrArg Prod.fst h1 : ad k = rA ad r)) hk0
  · have h3 : ad k = rA ad r' := congrArg Prod.fst (List.mem_singleton.mp h1)
    have hk3 := cw_inj hD h84 (by omega) h3
    subst hk3
    rw [hout _ h84 hk0, cX_rules]
    exact hP1 1 _ rfl
end CJ
/-! the state's and the history's own words -/
def foldL (g : Nat → Int32 → Int32) : Nat → Nat → Int32 → Int32
  | 0, _, s => s
  | n + 1, j, s => foldL g n (j + 1) (g j s)
def sumX (z : Nat → Int32) (w : Int32) : Int32 := foldL (fun a s => s + propG (sl z a) w) 4 0 0
def wearX (z : Nat → Int32) : Int32 := foldL (fun a s => foldL (fun t s => s + gwr (sl z a) (nI t)) 24 0 s) 4 0 0
def wornX (z : Nat → Int32) (w : Int32) : Int32 := foldL (fun a s => foldL (fun t s => if gwr (sl z a) (nI t) < w then s else s + 1) 24 0 s) 4 0 0
def belX (z : Nat → Int32) : Int32 := foldL (fun a s => if sl z a 0 = sl z a 1 then s + 1 else s) 4 0 0
def payX (X : Nat → Nat → Int32) (r : Nat) (k : Int32) : Nat → Nat → Int32 := up3 (up3 X r 6 (X r 6 - k)) r 7 (up3 X r 6 (X r 6 - k) r 7 + k)
def nx6 (w : Nat) : Nat := if w + 1 < 6 then w + 1 else 0
def pv6 (w : Nat) : Nat := if 0 < w then w - 1 else 5
def kpU (k : Int32) : Int32 := if 6 < k + 1 then 6 else k + 1
def kpD (k : Int32) : Int32 := if k - 1 < 0 then 0 else k - 1
/-- the state 0 saved: w is where the newest row lies -/
def svX (X : Nat → Nat → Int32) (w : Nat) : Nat → Nat → Int32 := up2 (up3 (up3 X 8 0 (nI (nx6 w))) 8 1 (kpU (X 8 1))) (nx6 w + 1) (X 0)
def rsX (X : Nat → Nat → Int32) (w : Nat) : Nat → Nat → Int32 := up3 (up3 (up2 X 0 (X (w + 1))) 8 0 (nI (pv6 w))) 8 1 (kpD (X 8 1))
theorem clamp_j {x : Int32} {j : Nat} (e : x = nI j) (h : j < 2 ^ 31) : x.toNatClampNeg = j := by subst e; exact nI_clamp h
theorem neg_of {x : Int32} {j : Nat} (e : x = nI j) (h : j < 2 ^ 31) : ¬ x < 0 := by subst e; exact nI_pos h
theorem in_nI {x : Int32} {j N : Nat} (e : x = nI j) (h : j < N) (hN : N < 2 ^ 31) : vp_in x N := by subst e; exact vp_in_nI h hN

