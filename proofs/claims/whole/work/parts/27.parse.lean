/-! the reference's reading of texts: its state is what was read (rows of three), how many commands, the number so far, what is due -/
abbrev PS := (Nat → Int32) × Nat × Int32 × Int32
def eqB (x y : Int32) : Bool := decide (x = y)
def sgB (c : Int32) : Bool := if c = 43 then true else if c = 45 then true else if c = 61 then true else if c = 104 then true else if c = 103 then true else false
def sgD (c : Int32) : Int32 := if c = 104 then 3 else if c = 103 then 3 else 2
def edB (nu du : Int32) : Bool := if du = 3 then true else if du = 2 then (if nu = -1 then false else true) else false
def dgV (nu d : Int32) : Int32 := if nu = -1 then d else 10 * nu + d
def dgB (pt : Nat → Int32) (nr : Nat) (nu d : Int32) : Bool := if wiF d 0 9 = true then (if nu = 0 then false else if eqB (pt (3 * nr + 1)) 61 = true then (if wiF (dgV nu d) 0 23 = true then true else false) else (if wiF (dgV nu d) 1 24 = true then true else false)) else false
def tkX (pt : Nat → Int32) (nr : Nat) (nu du c : Int32) : Bool × PS := if du = 2 then (if dgB pt nr nu (c - 48) = true then (true, pt, nr, dgV nu (c - 48), du) else (false, pt, nr, nu, du)) else (false, pt, nr, nu, du)
def tkM (S : PS) (c : Int32) : Bool × PS :=
  if S.2.2.2 = 0 then (wiF c 97 100, upd S.1 (3 * S.2.1) (c - 97), S.2.1, S.2.2.1, 1)
  else if S.2.2.2 = 1 then (sgB c, upd S.1 (3 * S.2.1 + 1) c, S.2.1, S.2.2.1, sgD c)
  else if c = 59 then (if edB S.2.2.1 S.2.2.2 = true then (true, upd S.1 (3 * S.2.1 + 2) S.2.2.1, S.2.1 + 1, -1, 0) else tkX S.1 S.2.1 S.2.2.1 S.2.2.2 c)
  else tkX S.1 S.2.1 S.2.2.1 S.2.2.2 c
def rtL (tx : Nat → Int32) : Nat → Nat → PS → Nat × PS
  | 0, k, S => (k, S)
  | n + 1, k, S => if (tkM S (tx k)).1 = true then rtL tx n (k + 1) (tkM S (tx k)).2 else (k, (tkM S (tx k)).2)
def prD (du : Int32) : Nat := if du = 0 then 0 else if du = 1 then 1 else 2
theorem ix3 {s : Int32} {w : Nat} (hs : s = nI w) : 3 * s = nI (3 * w) := by
  subst hs
  have e8 : (3 : Int32) = nI 3 := rfl
  rw [e8, pk_mul]
theorem ix31 {s : Int32} {w : Nat} (hs : s = nI w) : 3 * s + 1 = nI (3 * w + 1) := by rw [ix3 hs, nI_1]
theorem ix32 {s : Int32} {w : Nat} (hs : s = nI w) : 3 * s + 2 = nI (3 * w + 2) := by
  have e8 : (2 : Int32) = nI 2 := rfl
  rw [ix3 hs, e8, nI_add]
theorem eqB_if {x y : Int32} : (if x = y then (1 : Int32) else 0) = bI (eqB x y) := by
  unfold eqB
  by_cases h : x = y
  · rw [if_pos h, decide_eq_true h]; rfl
  · rw [if_neg h, decide_eq_false h]; rfl
theorem tkX_t {pt : Nat → Int32} {nr : Nat} {nu du c : Int32} (h : (tkX pt nr nu du c).1 = true) : du = 2 ∧ dgB pt nr nu (c - 48) = true ∧ tkX pt nr nu du c = (true, pt, nr, dgV nu (c - 48), 2) := by
  unfold tkX at h ⊢
  by_cases h1 : du = 2
  · rw [if_pos h1] at h ⊢
    by_cases h2 : dgB pt nr nu (c - 48) = true
    · rw [if_pos h2, h1]; exact ⟨rfl, h2, rfl⟩
    · rw [if_neg h2] at h; exact absurd h Bool.false_ne_true
  · rw [if_neg h1] at h; exact absurd h Bool.false_ne_true
theorem prD_2 {c : Int32} : prD (sgD c) = 2 := by
  unfold sgD
  split
  · rfl
  · split <;> rfl
/-- the four ways that a character is taken -/
theorem tkM_t {S : PS} {c : Int32} (h : (tkM S c).1 = true) :
    (S.2.2.2 = 0 ∧ wiF c 97 100 = true ∧ (tkM S c).2 = (upd S.1 (3 * S.2.1) (c - 97), S.2.1, S.2.2.1, 1)) ∨
    (S.2.2.2 = 1 ∧ sgB c = true ∧ (tkM S c).2 = (upd S.1 (3 * S.2.1 + 1) c, S.2.1, S.2.2.1, sgD c)) ∨
    (c = 59 ∧ edB S.2.2.1 S.2.2.2 = true ∧ (tkM S c).2 = (upd S.1 (3 * S.2.1 + 2) S.2.2.1, S.2.1 + 1, -1, 0)) ∨
    (S.2.2.2 = 2 ∧ dgB S.1 S.2.1 S.2.2.1 (c - 48) = true ∧ (tkM S c).2 = (S.1, S.2.1, dgV S.2.2.1 (c - 48), 2)) := by
  have hx : (tkX S.1 S.2.1 S.2.2.1 S.2.2.2 c).1 = true → S.2.2.2 = 2 ∧ dgB S.1 S.2.1 S.2.2.1 (c - 48) = true ∧ (tkX S.1 S.2.1 S.2.2.1 S.2.2.2 c).2 = (S.1, S.2.1, dgV S.2.2.1 (c - 48), 2) := fun q => by
    obtain ⟨h1, h2, h3⟩ := tkX_t q
    exact ⟨h1, h2, by rw [h3]⟩
  unfold tkM at h ⊢
  by_cases h0 : S.2.2.2 = 0
  · rw [if_pos h0] at h ⊢; exact Or.inl ⟨h0, h, rfl⟩
  · rw [if_neg h0] at h ⊢
    by_cases h1 : S.2.2.2 = 1
    · rw [if_pos h1] at h ⊢; exact Or.inr (Or.inl ⟨h1, h, rfl⟩)
    · rw [if_neg h1] at h ⊢
      by_cases h2 : c = 59
      · rw [if_pos h2] at h ⊢
        by_cases h3 : edB S.2.2.1 S.2.2.2 = true
        · rw [if_pos h3] at h ⊢; exact Or.inr (Or.inr (Or.inl ⟨h2, h3, rfl⟩))
        · rw [if_neg h3] at h ⊢; exact Or.inr (Or.inr (Or.inr (hx h)))
      · rw [if_neg h2] at h ⊢; exact Or.inr (Or.inr (Or.inr (hx h)))
theorem ed_du {nu du : Int32} (h : edB nu du = true) : (du = 3 ∧ prD du = 2) ∨ (du = 2 ∧ prD du = 2 ∧ ¬ nu = -1) := by
  unfold edB at h
  by_cases h3 : du = 3
  · exact Or.inl ⟨h3, by rw [h3]; rfl⟩
  · rw [if_neg h3] at h
    by_cases h2 : du = 2
    · rw [if_pos h2] at h
      by_cases h1 : nu = -1
      · rw [if_pos h1] at h; exact absurd h (by decide)
      · exact Or.inr ⟨h2, by rw [h2]; rfl, h1⟩
    · rw [if_neg h2] at h; exact absurd h (by decide)
theorem tkM_inv {S : PS} {c : Int32} {j : Nat} (h : (tkM S c).1 = true) (hi : 3 * S.2.1 + prD S.2.2.2 ≤ j) : 3 * (tkM S c).2.2.1 + prD (tkM S c).2.2.2.2 ≤ j + 1 := by
  rcases tkM_t h with ⟨h1, h2, h3⟩ | ⟨h1, h2, h3⟩ | ⟨h1, h2, h3⟩ | ⟨h1, h2, h3⟩ <;> rw [h3]
  · show 3 * S.2.1 + prD 1 ≤ j + 1
    have : prD 1 = 1 := rfl
    omega
  · show 3 * S.2.1 + prD (sgD c) ≤ j + 1
    rw [h1] at hi
    have : prD 1 = 1 := rfl
    rw [prD_2]
    omega
  · show 3 * (S.2.1 + 1) + prD 0 ≤ j + 1
    have h0 : prD 0 = 0 := rfl
    rcases ed_du h2 with ⟨-, h4⟩ | ⟨-, h4, -⟩ <;> omega
  · show 3 * S.2.1 + prD 2 ≤ j + 1
    rw [h1] at hi
    omega
/-- a command that was read whole -/
def okN (sg v : Int32) : Prop := (sg = 61 ∧ ∃ t : Nat, t < 24 ∧ v = nI t) ∨ ((sg = 43 ∨ sg = 45) ∧ ∃ k : Nat, 1 ≤ k ∧ k < 25 ∧ v = nI k)
def okC (ax sg v : Int32) : Prop := (∃ a : Nat, a < 4 ∧ ax = nI a) ∧ ((sg = 104 ∨ sg = 103) ∨ okN sg v)
def PI (S : PS) : Prop :=
  (∀ j, j < S.2.1 → okC (S.1 (3 * j)) (S.1 (3 * j + 1)) (S.1 (3 * j + 2))) ∧
  ((S.2.2.2 = 0 ∧ S.2.2.1 = -1) ∨ (S.2.2.2 = 1 ∧ S.2.2.1 = -1 ∧ ∃ a : Nat, a < 4 ∧ S.1 (3 * S.2.1) = nI a) ∨
   (S.2.2.2 = 3 ∧ S.2.2.1 = -1 ∧ (∃ a : Nat, a < 4 ∧ S.1 (3 * S.2.1) = nI a) ∧ (S.1 (3 * S.2.1 + 1) = 104 ∨ S.1 (3 * S.2.1 + 1) = 103)) ∨
   (S.2.2.2 = 2 ∧ (∃ a : Nat, a < 4 ∧ S.1 (3 * S.2.1) = nI a) ∧ (S.1 (3 * S.2.1 + 1) = 43 ∨ S.1 (3 * S.2.1 + 1) = 45 ∨ S.1 (3 * S.2.1 + 1) = 61) ∧ (S.2.2.1 = -1 ∨ okN (S.1 (3 * S.2.1 + 1)) S.2.2.1)))
theorem PI_0 {pt : Nat → Int32} : PI (pt, 0, -1, 0) := ⟨fun j hj => absurd hj (Nat.not_lt_zero j), Or.inl ⟨rfl, rfl⟩⟩
theorem ok_up {f : Nat → Int32} {nr i j : Nat} {v : Int32} (hj : j < nr) (hi : 3 * nr ≤ i) (h : okC (f (3 * j)) (f (3 * j + 1)) (f (3 * j + 2))) : okC (upd f i v (3 * j)) (upd f i v (3 * j + 1)) (upd f i v (3 * j + 2)) := by
  unfold upd
  rw [if_neg (by omega), if_neg (by omega), if_neg (by omega)]
  exact h
theorem wi_97 {c : Int32} (h : wiF c 97 100 = true) : ∃ a : Nat, a < 4 ∧ c - 97 = nI a := by
  unfold wiF at h
  by_cases h0 : c < 97
  · rw [if_pos h0] at h; exact absurd h (by decide)
  · by_cases h1 : 100 < c
    · rw [if_neg h0, if_pos h1] at h; exact absurd h (by decide)
    · rw [Int32.lt_iff_toInt_lt] at h0 h1
      have e0 : (97 : Int32).toInt = 97 := rfl
      have e1 : (100 : Int32).toInt = 100 := rfl
      obtain ⟨k, hk⟩ : ∃ k : Nat, c.toInt = 97 + k := ⟨(c.toInt - 97).toNat, by omega⟩
      have hk4 : k < 4 := by omega
      have hall : ∀ k : Nat, k < 4 → (nI (97 + k)).toInt = 97 + k ∧ nI (97 + k) - 97 = nI k := by decide +kernel
      have e : c = nI (97 + k) := Int32.toInt_inj.mp (by rw [(hall k hk4).1]; exact hk)
      exact ⟨k, hk4, by rw [e]; exact (hall k hk4).2⟩
theorem wi_g {p M : Int32} {lo : Nat} {N : Nat} {L : Int32} (h : wiF p L M = true) (hL : L = nI lo) (hM : M = nI N) (hN : N < 2 ^ 31 := by omega) (hl : lo < 2 ^ 31 := by omega) : ∃ a, lo ≤ a ∧ a < N + 1 ∧ p = nI a := by
  subst hM; subst hL
  unfold wiF at h
  by_cases h0 : p < nI lo
  · rw [if_pos h0] at h; exact absurd h (by decide)
  · by_cases h1 : nI N < p
    · rw [if_neg h0, if_pos h1] at h; exact absurd h (by decide)
    · have ei : (nI N).toInt = N := by rw [← Int32.toInt_ofNat_of_lt hN]; rfl
      have el : (nI lo).toInt = lo := by rw [← Int32.toInt_ofNat_of_lt hl]; rfl
      rw [Int32.lt_iff_toInt_lt] at h0 h1
      refine ⟨p.toInt.toNat, by omega, by omega, ?_⟩
      apply Int32.toInt_inj.mp
      have : (nI p.toInt.toNat).toInt = p.toInt.toNat := by rw [← Int32.toInt_ofNat_of_lt (by omega)]; rfl
      omega
theorem dg_t {pt : Nat → Int32} {nr : Nat} {nu d : Int32} (h : dgB pt nr nu d = true) (hs : pt (3 * nr + 1) = 43 ∨ pt (3 * nr + 1) = 45 ∨ pt (3 * nr + 1) = 61) : okN (pt (3 * nr + 1)) (dgV nu d) := by
  unfold dgB at h
  by_cases h1 : wiF d 0 9 = true
  · rw [if_pos h1] at h
    by_cases h2 : nu = 0
    · rw [if_pos h2] at h; exact absurd h (by decide)
    · rw [if_neg h2] at h
      by_cases h3 : pt (3 * nr + 1) = 61
      · rw [if_pos (show eqB _ _ = true from decide_eq_true h3)] at h
        by_cases h4 : wiF (dgV nu d) 0 23 = true
        · obtain ⟨a, -, ha, ea⟩ := wi_g (lo := 0) (N := 23) h4 rfl rfl
          exact Or.inl ⟨h3, a, by omega, ea⟩
        · rw [if_neg h4] at h; exact absurd h (by decide)
      · rw [if_neg (show ¬ eqB _ _ = true by unfold eqB; rw [decide_eq_false h3]; decide)] at h
        by_cases h4 : wiF (dgV nu d) 1 24 = true
        · obtain ⟨a, hb, ha, ea⟩ := wi_g (lo := 1) (N := 24) h4 rfl rfl
          refine Or.inr ⟨?_, a, hb, by omega, ea⟩
          rcases hs with q | q | q
          · exact Or.inl q
          · exact Or.inr q
          · exact absurd q h3
        · rw [if_neg h4] at h; exact absurd h (by decide)
  · rw [if_neg h1] at h; exact absurd h (by decide)
theorem sgB_t {c : Int32} (h : sgB c = true) : ((c = 104 ∨ c = 103) ∧ sgD c = 3) ∨ ((c = 43 ∨ c = 45 ∨ c = 61) ∧ sgD c = 2) := by
  unfold sgB at h
  by_cases h1 : c = 43
  · subst h1; exact Or.inr ⟨Or.inl rfl, rfl⟩
  · by_cases h2 : c = 45
    · subst h2; exact Or.inr ⟨Or.inr (Or.inl rfl), rfl⟩
    · by_cases h3 : c = 61
      · subst h3; exact Or.inr ⟨Or.inr (Or.inr rfl), rfl⟩
      · by_cases h4 : c = 104
        · subst h4; exact Or.inl ⟨Or.inl rfl, rfl⟩
        · by_cases h5 : c = 103
          · subst h5; exact Or.inl ⟨Or.inr rfl, rfl⟩
          · rw [if_neg h1, if_neg h2, if_neg h3, if_neg h4, if_neg h5] at h; exact absurd h (by decide)
theorem PI_end {S : PS} (h : PI S) (he : edB S.2.2.1 S.2.2.2 = true) : ∀ j, j < S.2.1 + 1 → okC (upd S.1 (3 * S.2.1 + 2) S.2.2.1 (3 * j)) (upd S.1 (3 * S.2.1 + 2) S.2.2.1 (3 * j + 1)) (upd S.1 (3 * S.2.1 + 2) S.2.2.1 (3 * j + 2)) := fun j hj => by
  by_cases hjn : j < S.2.1
  · exact ok_up hjn (by omega) (h.1 j hjn)
  · have e : j = S.2.1 := by omega
    subst e
    unfold upd
    rw [if_neg (by omega), if_neg (by omega), if_pos rfl]
    rcases ed_du he with ⟨h4, -⟩ | ⟨h4, -, h5⟩
    · rcases h.2 with ⟨q, -⟩ | ⟨q, -⟩ | ⟨-, -, q1, q2⟩ | ⟨q, -⟩
      · rw [h4] at q; exact absurd q (by decide)
      · rw [h4] at q; exact absurd q (by decide)
      · exact ⟨q1, Or.inl q2⟩
      · rw [h4] at q; exact absurd q (by decide)
    · rcases h.2 with ⟨q, -⟩ | ⟨q, -⟩ | ⟨q, -⟩ | ⟨-, q1, q2, q3⟩
      · rw [h4] at q; exact absurd q (by decide)
      · rw [h4] at q; exact absurd q (by decide)
      · rw [h4] at q; exact absurd q (by decide)
      · rcases q3 with q | q
        · exact absurd q h5
        · exact ⟨q1, Or.inr q⟩
theorem upd_s {f : Nat → Int32} {i : Nat} {v : Int32} : upd f i v i = v := if_pos rfl
theorem upd_ne {f : Nat → Int32} {i j : Nat} {v : Int32} (h : j ≠ i) : upd f i v j = f j := if_neg h
theorem PI_tk {S : PS} {c : Int32} (h : (tkM S c).1 = true) (hi : PI S) : PI (tkM S c).2 := by
  rcases tkM_t h with ⟨h1, h2, h3⟩ | ⟨h1, h2, h3⟩ | ⟨h1, h2, h3⟩ | ⟨h1, h2, h3⟩ <;> rw [h3]
  · have hnu : S.2.2.1 = -1 := by
      rcases hi.2 with ⟨-, q⟩ | ⟨q, -⟩ | ⟨q, -⟩ | ⟨q, -⟩
      · exact q
      · rw [h1] at q; exact absurd q (by decide)
      · rw [h1] at q; exact absurd q (by decide)
      · rw [h1] at q; exact absurd q (by decide)
    refine ⟨fun j hj => ok_up hj (Nat.le_refl _) (hi.1 j hj), Or.inr (Or.inl ⟨rfl, hnu, ?_⟩)⟩
    obtain ⟨a, ha, ea⟩ := wi_97 h2
    exact ⟨a, ha, by rw [← ea]; exact upd_s⟩
  · have hp : S.2.2.1 = -1 ∧ ∃ a : Nat, a < 4 ∧ S.1 (3 * S.2.1) = nI a := by
      rcases hi.2 with ⟨q, -⟩ | ⟨-, q⟩ | ⟨q, -⟩ | ⟨q, -⟩
      · rw [h1] at q; exact absurd q (by decide)
      · exact q
      · rw [h1] at q; exact absurd q (by decide)
      · rw [h1] at q; exact absurd q (by decide)
    obtain ⟨hnu, a, ha, ea⟩ := hp
    have e0 : upd S.1 (3 * S.2.1 + 1) c (3 * S.2.1) = nI a := by rw [upd_ne (by omega)]; exact ea
    have e1 : upd S.1 (3 * S.2.1 + 1) c (3 * S.2.1 + 1) = c := upd_s
    refine ⟨fun j hj => ok_up hj (Nat.le_succ _) (hi.1 j hj), ?_⟩
    rcases sgB_t h2 with ⟨h4, h5⟩ | ⟨h4, h5⟩
    · refine Or.inr (Or.inr (Or.inl ⟨h5, hnu, ⟨a, ha, e0⟩, ?_⟩))
      show upd S.1 (3 * S.2.1 + 1) c (3 * S.2.1 + 1) = 104 ∨ upd S.1 (3 * S.2.1 + 1) c (3 * S.2.1 + 1) = 103
      rw [e1]; exact h4
    · refine Or.inr (Or.inr (Or.inr ⟨h5, ⟨a, ha, e0⟩, ?_, Or.inl hnu⟩))
      show upd S.1 (3 * S.2.1 + 1) c (3 * S.2.1 + 1) = 43 ∨ upd S.1 (3 * S.2.1 + 1) c (3 * S.2.1 + 1) = 45 ∨ upd S.1 (3 * S.2.1 + 1) c (3 * S.2.1 + 1) = 61
      rw [e1]; exact h4
  · exact ⟨PI_end hi h2, Or.inl ⟨rfl, rfl⟩⟩
  · rcases hi.2 with ⟨q, -⟩ | ⟨q, -⟩ | ⟨q, -⟩ | ⟨-, q1, q2, -⟩
    · rw [h1] at q; exact absurd q (by decide)
    · rw [h1] at q; exact absurd q (by decide)
    · rw [h1] at q; exact absurd q (by decide)
    · exact ⟨hi.1, Or.inr (Or.inr (Or.inr ⟨rfl, q1, q2, Or.inr (dg_t h2 q2)⟩))⟩
theorem rt_bd {tx : Nat → Int32} : ∀ (n k : Nat) (S : PS), 3 * S.2.1 + prD S.2.2.2 ≤ k → (rtL tx n k S).1 ≤ k + n ∧ 3 * (rtL tx n k S).2.2.1 ≤ k + n + 1
  | 0, k, S, h => ⟨Nat.le_refl _, by show 3 * S.2.1 ≤ k + 0 + 1; omega⟩
  | n + 1, k, S, h => by
    rw [rtL]
    by_cases hc : (tkM S (tx k)).1 = true
    · rw [if_pos hc]
      have := rt_bd (tx := tx) n (k + 1) (tkM S (tx k)).2 (tkM_inv hc h)
      omega
    · rw [if_neg hc]
      refine ⟨by show k ≤ _; omega, ?_⟩
      have hnr : (tkM S (tx k)).2.2.1 = S.2.1 := by
        unfold tkM at hc ⊢
        unfold tkX at hc ⊢
        repeat' split
        all_goals first | rfl | (exfalso; revert hc; simp_all)
      show 3 * (tkM S (tx k)).2.2.1 ≤ _
      omega
theorem rt_PI {tx : Nat → Int32} : ∀ (n k : Nat) (S : PS), PI S → (rtL tx n k S).1 = k + n → PI (rtL tx n k S).2
  | 0, k, S, h, _ => h
  | n + 1, k, S, h, he => by
    rw [rtL] at he ⊢
    by_cases hc : (tkM S (tx k)).1 = true
    · rw [if_pos hc] at he ⊢
      exact rt_PI n (k + 1) _ (PI_tk hc h) (by omega)
    · rw [if_neg hc] at he
      have : k = k + (n + 1) := he
      omega
