/-! what holds of a row (a state's 148 numbers), and the reference's rows in the arm's words -/
def bd (x : Int32) (N : Nat) : Prop := ∃ n : Nat, n ≤ N ∧ x = nI n
def AInv (G : Nat → Int32) : Prop := (∃ n : Nat, n < 24 ∧ G 0 = nI n) ∧ (∃ n : Nat, n < 24 ∧ G 1 = nI n) ∧ bd (G 2) 5 ∧ (G 3 = 0 ∨ G 3 = 1 ∨ G 3 = -1) ∧ bd (G 4) 12 ∧ bd (G 5) 100 ∧ ∀ t, t < 24 → bd (G (t + 11)) 99
def RInv (z : Nat → Int32) : Prop := bd (z 0) 20 ∧ (∃ n : Nat, 1 ≤ n ∧ n ≤ 50 ∧ z 1 = nI n) ∧ (∃ n : Nat, 1 ≤ n ∧ n ≤ 99 ∧ z 2 = nI n) ∧ bd (z 3) 20 ∧ bd (z 4) 100 ∧ bd (z 5) 200 ∧ bd (z 6) 100000
def Inv (z : Nat → Int32) : Prop := RInv z ∧ ∀ a, a < 4 → AInv (sl z a)
/-- the number w of the axis a becomes v -/
def puZ (z : Nat → Int32) (a w : Nat) (v : Int32) : Nat → Int32 := upd z (w + (8 + 35 * a)) v
theorem ixp {p1 : Int32} {a w : Nat} (h : p1 = nI w) : 8 + 35 * nI a + p1 = nI (w + (8 + 35 * a)) := by
  subst h
  have e8 : (8 : Int32) = nI 8 := rfl
  have e35 : (35 : Int32) = nI 35 := rfl
  rw [e8, e35, pk_mul, nI_add, nI_add, Nat.add_comm]
theorem ofm {z : Nat → Int32} {p1 : Int32} {a w : Nat} (h : p1 = nI w) (hw : w < 35) (ha : a < 4) : z (8 + 35 * nI a + p1).toNatClampNeg = sl z a w := by
  rw [clamp_j (ixp h) (by omega), sl_at hw]
theorem pum {z : Nat → Int32} {p1 v : Int32} {a w : Nat} (h : p1 = nI w) (hw : w < 35) (ha : a < 4) : upd z (8 + 35 * nI a + p1).toNatClampNeg v = puZ z a w v := by
  rw [clamp_j (ixp h) (by omega)]; rfl
theorem tm_f {p0 : Int32} {q : Nat} (h : p0 = nI q) (hq : q < 24) : p0 + 24 - 1 - (p0 + 24 - 1) / 24 * 24 = tW p0 (-1) := by
  subst h
  revert q
  decide +kernel
theorem nm_t {p0 : Int32} {q : Nat} (h : p0 = nI q) (hq : q < 24) : p0 + 1 - (p0 + 1) / 24 * 24 = nW p0 1 := by
  subst h
  revert q
  decide +kernel
theorem nm_f {p0 : Int32} {q : Nat} (h : p0 = nI q) (hq : q < 24) : p0 + 23 - (p0 + 23) / 24 * 24 = nW p0 (-1) := by
  subst h
  revert q
  decide +kernel
theorem tW_in {p0 : Int32} {q : Nat} (h : p0 = nI q) (hq : q < 24) (up : Bool) : ∃ k, k < 24 ∧ tW p0 (wI up) = nI k := by
  subst h
  have : ∀ q : Nat, q < 24 → (List.range 24).any (fun k => decide (tW (nI q) (wI up) = nI k)) = true := by cases up <;> decide +kernel
  obtain ⟨k, hk, h2⟩ := List.any_eq_true.mp (this q hq)
  exact ⟨k, List.mem_range.mp hk, of_decide_eq_true h2⟩
theorem nW_in {p0 : Int32} {q : Nat} (h : p0 = nI q) (hq : q < 24) (up : Bool) : ∃ k, k < 24 ∧ nW p0 (wI up) = nI k := by
  subst h
  have : ∀ q : Nat, q < 24 → (List.range 24).any (fun k => decide (nW (nI q) (wI up) = nI k)) = true := by cases up <;> decide +kernel
  obtain ⟨k, hk, h2⟩ := List.any_eq_true.mp (this q hq)
  exact ⟨k, List.mem_range.mp hk, of_decide_eq_true h2⟩
theorem gwr_in {G : Nat → Int32} {t : Int32} {k : Nat} (h : t = nI k) (hk : k < 24) : gwr G t = G (k + 11) := by
  subst h
  unfold gwr wrF
  rw [if_neg (nI_pos (by omega)), if_pos (show nI k < 24 from (nI_ltI (b := 24) (by omega) (by omega)).mpr hk), nI_clamp (by omega)]
theorem ofw {z : Nat → Int32} {t : Int32} {a k : Nat} (h : t = nI k) (hk : k < 24) (ha : a < 4) : z (8 + 35 * nI a + (11 + t)).toNatClampNeg = gwr (sl z a) t := by
  have e2 : 11 + t = nI (k + 11) := by subst h; have e : (11 : Int32) = nI 11 := rfl; rw [e, nI_add, Nat.add_comm]
  exact (ofm e2 (by omega) ha).trans (gwr_in h hk).symm
theorem puw {z : Nat → Int32} {t v : Int32} {a k : Nat} (h : t = nI k) (hk : k < 24) (ha : a < 4) : upd z (8 + 35 * nI a + (11 + t)).toNatClampNeg v = puZ z a (k + 11) v := by
  rw [pum (p1 := 11 + t) (w := k + 11) (by subst h; have e : (11 : Int32) = nI 11 := rfl; rw [e, nI_add, Nat.add_comm]) (by omega) ha]
theorem ixw {t : Int32} {a k : Nat} (h : t = nI k) : 8 + 35 * nI a + (11 + t) = nI (k + 11 + (8 + 35 * a)) := ixp (by subst h; have e : (11 : Int32) = nI 11 := rfl; rw [e, nI_add, Nat.add_comm])
theorem pos_nI {x : Int32} {n : Nat} (h : x = nI n) (h1 : 1 ≤ n) (h2 : n < 2 ^ 31) : 0 < x := by subst h; exact (nI_ltI (a := 0) (by omega) h2).mpr h1
theorem ne0_nI {x : Int32} {n : Nat} (h : x = nI n) (h1 : 1 ≤ n) (h2 : n < 2 ^ 31) : ¬ x = 0 := by subst h; exact nI_ne0 h1 h2
theorem Inv.pt {z : Nat → Int32} (h : Inv z) : 0 < z 1 := by obtain ⟨n, h1, h2, h3⟩ := h.1.2.1; exact pos_nI h3 h1 (by omega)
theorem Inv.pn {z : Nat → Int32} (h : Inv z) : ¬ z 1 = 0 := by obtain ⟨n, h1, h2, h3⟩ := h.1.2.1; exact ne0_nI h3 h1 (by omega)
/-- the places of an axis, and the tooth next to it -/
theorem Inv.p0 {z : Nat → Int32} (h : Inv z) {a : Nat} (ha : a < 4) : sl z a 0 = nI (sl z a 0).toNatClampNeg ∧ (sl z a 0).toNatClampNeg < 24 := by
  obtain ⟨n, h1, h2⟩ := (h.2 a ha).1
  rw [clamp_j h2 (by omega)]; exact ⟨h2, h1⟩
theorem Inv.p1 {z : Nat → Int32} (h : Inv z) {a : Nat} (ha : a < 4) : sl z a 1 = nI (sl z a 1).toNatClampNeg ∧ (sl z a 1).toNatClampNeg < 24 := by
  obtain ⟨n, h1, h2⟩ := (h.2 a ha).2.1
  rw [clamp_j h2 (by omega)]; exact ⟨h2, h1⟩
theorem Inv.tw {z : Nat → Int32} (h : Inv z) {a : Nat} (ha : a < 4) (up : Bool) : tW (sl z a 0) (wI up) = nI (tW (sl z a 0) (wI up)).toNatClampNeg ∧ (tW (sl z a 0) (wI up)).toNatClampNeg < 24 := by
  obtain ⟨n, h1, h2⟩ := (h.2 a ha).1
  obtain ⟨k, h3, h4⟩ := tW_in h2 h1 up
  rw [clamp_j h4 (by omega)]; exact ⟨h4, h3⟩
theorem wI_f : wI false = -1 := rfl
theorem wI_t : wI true = 1 := rfl
theorem turn_w {G : Nat → Int32} {up : Bool} : turnG G (wI up) = decide (G 3 = if up = true then -1 else 1) := by cases up <;> rfl
/-- what is left of the arm's words where the toll's divisor is above 0 -/
theorem tl_pos {ld we gl pt : Int32} (h : 0 < pt) : tlF ld we gl pt = if 0 < gl then (1 + ld + we / pt + 1) / 2 else 1 + ld + we / pt := by unfold tlF; rw [if_pos h]

