section BR6
variable {z : Nat → Int32} {a : Nat}
theorem ca_st {up : Bool} (h : Inv z) (ha : a < 4) {n : Nat} (hn : 1 ≤ n) (hb : n < 1000) : (if canF z a (wI up) = true then (true, (msL a (wI up) n z 0).2) else (false, z)) = ((if 0 < (msL a (wI up) n z 0).1 then true else false), (msL a (wI up) n z 0).2) := by
  rw [ms_pos h ha hn hb]
  cases hc : canF z a (wI up) with
  | true => rw [if_pos rfl]
  | false =>
    rw [if_neg (by decide)]
    cases n with
    | zero => exact absurd hn (by omega)
    | succ n => rw [msL_s h ha, if_pos (canF_f hc)]
/-- a command read and carried out by the reference is the arm's -/
theorem ca_cc (h : Inv z) (ha : a < 4) {ax sg v : Int32} (hok : okC ax sg v) : caF z a sg v = ccF z a v.toNatClampNeg sg v := by
  unfold caF ccF
  by_cases h104 : sg = 104
  · subst h104
    rw [if_pos rfl, if_neg (by decide), if_neg (by decide), if_neg (by decide), if_neg (by decide), ho_hm h ha]
  · rw [if_neg h104]
    by_cases h103 : sg = 103
    · subst h103
      rw [if_pos rfl, if_neg (show ¬ (103 : Int32) = 43 by decide), if_neg (show ¬ (103 : Int32) = 45 by decide), if_neg (show ¬ (103 : Int32) = 61 by decide), if_pos rfl]
    · rw [if_neg h103]
      by_cases h61 : sg = 61
      · subst h61
        rw [if_pos rfl, if_neg (show ¬ (61 : Int32) = 43 by decide), if_neg (show ¬ (61 : Int32) = 45 by decide), if_pos rfl]
      · rw [if_neg h61]
        obtain ⟨-, hb, hn⟩ := okC_k hok h104 h103 h61
        by_cases h43 : sg = 43
        · rw [if_pos h43, if_pos h43]
          exact ca_st h ha hn hb
        · have h45 : sg = 45 := by
            rcases hok.2 with (q | q) | ⟨q, -⟩ | ⟨q | q, -⟩
            · exact absurd q h104
            · exact absurd q h103
            · exact absurd q h61
            · exact absurd q h43
            · exact q
          rw [if_neg h43, if_neg h43, if_pos h45]
          exact ca_st h ha hn hb
end BR6
