def kd (q : Int32) : Prop := q = 43 ∨ q = 45 ∨ q = 61
def dgK (K nu d : Int32) : Bool := if wiF d 0 9 = true then (if nu = 0 then false else if eqB K 61 = true then (if wiF (dgV nu d) 0 23 = true then true else false) else (if wiF (dgV nu d) 1 24 = true then true else false)) else false
def sB1 (K c : Int32) : Bool := if K = 61 then (if c < 48 then false else if 57 < c then false else true) else (if c < 49 then false else if 57 < c then false else true)
theorem a2_61 : ∀ m, m < 127 → sB1 61 (nI m) = dgK 61 (-1) (nI m - 48) ∧ (sB1 61 (nI m) = true → nI m - 48 = nI (m - 48) ∧ m - 48 < 10) := by decide +kernel
theorem a2_43 : ∀ m, m < 127 → sB1 43 (nI m) = dgK 43 (-1) (nI m - 48) ∧ (sB1 43 (nI m) = true → nI m - 48 = nI (m - 48) ∧ m - 48 < 10) := by decide +kernel
theorem a2_45 : ∀ m, m < 127 → sB1 45 (nI m) = dgK 45 (-1) (nI m - 48) ∧ (sB1 45 (nI m) = true → nI m - 48 = nI (m - 48) ∧ m - 48 < 10) := by decide +kernel
theorem a2 {K : Int32} (hK : kd K) {m : Nat} (hm : m < 127) : sB1 K (nI m) = dgK K (-1) (nI m - 48) ∧ (sB1 K (nI m) = true → nI m - 48 = nI (m - 48) ∧ m - 48 < 10) := by
  rcases hK with rfl | rfl | rfl
  · exact a2_43 m hm
  · exact a2_45 m hm
  · exact a2_61 m hm
