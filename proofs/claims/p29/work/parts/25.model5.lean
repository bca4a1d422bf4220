
def ivF (s v : Int32) : Bool := if s = 1 then wiF v 1 50 else if s = 2 then wiF v 1 99 else if s = 4 then wiF v 0 100 else if s = 5 then wiF v 0 200 else wiF v 0 20
/-- the answers of the calls: 0 where the call is carried out, else the number of what is thrown -/
def eaT (z : Nat → Int32) (p : Int32) : Int32 := if wiF p 1 10000 = true then (if 100000 < z 6 + p then 2 else 0) else 1
def loT (p q : Int32) : Int32 := if wiF p 0 3 = true then (if wiF q 0 5 = true then 0 else 2) else 1
def seT (s v : Int32) : Int32 := if wiF s 0 5 = true then (if ivF s v = true then 0 else 2) else 1
def spU (n : Int32) : Bool := decide (0 < n)
def spT (z : Nat → Int32) (p n : Int32) : Int32 := if wiF p 0 3 = true then (if n = 0 then 2 else if wiF n (-24) 24 = true then (if canF z p.toNatClampNeg (wI (spU n)) = true then 0 else 3) else 2) else 1
def goT (z : Nat → Int32) (p q : Int32) : Int32 := if wiF p 0 3 = true then (if wiF q 0 23 = true then (if cgF z p.toNatClampNeg q = true then 0 else 3) else 2) else 1
def axT (p : Int32) : Int32 := if wiF p 0 3 = true then 0 else 1
def geT (z : Nat → Int32) (p : Int32) : Int32 := if wiF p 0 3 = true then (if gsF z = true then 0 else 2) else 1
def meT (z : Nat → Int32) (p t : Int32) : Int32 := if wiF p 0 3 = true then (if wiF t 0 23 = true then (if z 6 < gwr (sl z p.toNatClampNeg) t * z 3 then 2 else 0) else 1) else 1
def apT (len p : Int32) : Int32 := if wiF p 33 126 = true then (if len = 60 then 2 else 0) else 1
theorem wi_ex {p : Int32} {N : Nat} {M : Int32} (h : wiF p 0 M = true) (hM : M = nI N) (hN : N < 2 ^ 31 := by omega) : ∃ a, a < N + 1 ∧ p = nI a ∧ p.toNatClampNeg = a := by
  subst hM
  unfold wiF at h
  by_cases h0 : p < 0
  · rw [if_pos h0] at h; exact absurd h (by decide)
  · by_cases h1 : nI N < p
    · rw [if_neg h0, if_pos h1] at h; exact absurd h (by decide)
    · have ei : (nI N).toInt = N := by rw [← Int32.toInt_ofNat_of_lt hN]; rfl
      rw [Int32.lt_iff_toInt_lt] at h0 h1
      have e0 : (0 : Int32).toInt = 0 := rfl
      refine ⟨p.toInt.toNat, by omega, ?_, ?_⟩
      · apply Int32.toInt_inj.mp
        have : (nI p.toInt.toNat).toInt = p.toInt.toNat := by rw [← Int32.toInt_ofNat_of_lt (by omega)]; rfl
        omega
      · rfl
theorem nAp {n : Int32} (h : 0 < n) : n = nI n.toInt.natAbs := by
  rw [Int32.lt_iff_toInt_lt] at h
  have e0 : (0 : Int32).toInt = 0 := rfl
  apply Int32.toInt_inj.mp
  have hu : n.toInt < 2 ^ 31 := Int32.toInt_lt n
  have : (nI n.toInt.natAbs).toInt = n.toInt.natAbs := by rw [← Int32.toInt_ofNat_of_lt (by omega)]; rfl
  omega
theorem wi24 {n : Int32} (h : wiF n (-24) 24 = true) : n.toInt.natAbs < 25 := by
  unfold wiF at h
  by_cases h0 : n < -24
  · rw [if_pos h0] at h; exact absurd h (by decide)
  · by_cases h1 : 24 < n
    · rw [if_neg h0, if_pos h1] at h; exact absurd h (by decide)
    · rw [Int32.lt_iff_toInt_lt] at h0 h1
      have e0 : (-24 : Int32).toInt = -24 := rfl
      have e1 : (24 : Int32).toInt = 24 := rfl
      omega
theorem nAn {n : Int32} (h : n < 0) (hb : n.toInt.natAbs < 25) : -n = nI n.toInt.natAbs := by
  rw [Int32.lt_iff_toInt_lt] at h
  have e0 : (0 : Int32).toInt = 0 := rfl
  have hall : ∀ k : Nat, k < 25 → (-nI k).toInt = -(k : Int) := by decide +kernel
  have e : n = -nI n.toInt.natAbs := by
    apply Int32.toInt_inj.mp
    rw [hall _ hb]
    omega
  conv => lhs; rw [e]
  exact Int32.neg_neg
theorem lt_of {n : Int32} (h0 : ¬ n = 0) (h1 : ¬ 0 < n) : n < 0 := by
  have h2 : ¬ n.toInt = 0 := fun q => h0 (Int32.toInt_inj.mp q)
  rw [Int32.lt_iff_toInt_lt] at h1 ⊢
  have e0 : (0 : Int32).toInt = 0 := rfl
  omega
theorem nlt_of {n : Int32} (h1 : 0 < n) : ¬ n < 0 := by
  rw [Int32.lt_iff_toInt_lt] at h1 ⊢
  have e0 : (0 : Int32).toInt = 0 := rfl
  omega
theorem le_of_nlt {n : Int32} (h1 : ¬ n < 0) : 0 ≤ n := by
  rw [Int32.lt_iff_toInt_lt] at h1
  rw [Int32.le_iff_toInt_le]
  have e0 : (0 : Int32).toInt = 0 := rfl
  omega
theorem spU_t {n : Int32} (h : 0 < n) : spU n = true := decide_eq_true h
theorem spU_f {n : Int32} (h : ¬ 0 < n) : spU n = false := decide_eq_false h

theorem n0_of {t v : Int32} (h : t = v) (hv : ¬ v = 0) : ¬ t = 0 := h ▸ hv
theorem z_add {x : Int32} : 0 + x = x := Int32.zero_add x
theorem grZ_6 {z : Nat → Int32} {a : Nat} : grZ z a 6 = z 6 - z 5 := by
  unfold grZ upd
  rw [if_neg (by omega)]
  rfl
theorem six0 {s : Int32} {w : Nat} (e : s = nI w) (hw : w ≤ 60) (h : ¬ s = 60) : ¬ w = 60 := fun q => h (by subst q; exact e)
def unL (z h : Nat → Int32) (w j : Nat) : Nat → Int32 := fun i => if i < j then h (148 * w + i) else z i
theorem unL_0 {z h : Nat → Int32} {w : Nat} : z = unL z h w 0 := funext fun i => (if_neg (by omega)).symm
theorem unL_s {z z' h : Nat → Int32} {w j : Nat} (e : z' = unL z h w j) : upd z' j (h (148 * w + j)) = unL z h w (j + 1) := funext fun i => by
  subst e
  unfold upd unL
  by_cases hi : i = j
  · subst hi; rw [if_pos rfl, if_pos (by omega)]
  · rw [if_neg hi]
    by_cases h2 : i < j
    · rw [if_pos h2, if_pos (by omega)]
    · rw [if_neg h2, if_neg (by omega)]
theorem pos_of {s : Int32} {w : Nat} (e : s = nI w) (hw : w ≤ 6) (h : 0 < s) : 0 < w := by
  subst e
  exact (nI_ltI (a := 0) (by omega) (by omega)).mp h
