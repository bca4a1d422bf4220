def eqB (x y : Int32) : Bool := decide (x = y)
def dgV (nu d : Int32) : Int32 := if nu = -1 then d else 10 * nu + d
theorem wi_g {p M : Int32} {lo : Nat} {N : Nat} {L : Int32} (h : wiF p L M = true) (hL : L = nI lo) (hM : M = nI N) (hN : N < 2 ^ 31 := by omega) (hl : lo < 2 ^ 31 := by omega) : ∃ a, lo ≤ a ∧ a < N + 1 ∧ p = nI a := by
  subst hM; subst hL
  unfold wiF at h
  by_cases h0 : p < nI lo
  · rw [if_pos h0] at h; exact absurd h (by decide)
  · by_cases h1 : nI N < p
    · rw [if_neg h0, if_pos h1] at h; exact absurd h (by decide)
    · have ei : (nI N).toInt = N := by rw [← Int32.toInt_ofNat_of_lt hN]; rfl
      have el : (nI lo).toInt = lo := by rw [← Int32.toInt_ofNat_of_lt hl]; rfl
      rw [Int32.lt_iff_toInt_lt] at h0 h1
      refine ⟨p.toInt.toNat, by omega, by omega, ?_⟩
      apply Int32.toInt_inj.mp
      have : (nI p.toInt.toNat).toInt = p.toInt.toNat := by rw [← Int32.toInt_ofNat_of_lt (by omega)]; rfl
      omega
theorem upd_s {f : Nat → Int32} {i : Nat} {v : Int32} : upd f i v i = v := if_pos rfl
theorem upd_ne {f : Nat → Int32} {i j : Nat} {v : Int32} (h : j ≠ i) : upd f i v j = f j := if_neg h
