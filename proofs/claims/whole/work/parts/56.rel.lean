/-! the class's numbers against the reference's, between two calls -/
def hR (h : Nat → Int32) (k : Nat) : Nat → Int32 := fun i => if i < 148 then h (148 * k + i) else 0
def REL (X : Nat → Nat → Int32) (z h tx : Nat → Int32) (w n0 r N : Nat) : Prop :=
  X 0 = z ∧ Inv z ∧ CB N z ∧ w ≤ 6 ∧ r < 6 ∧ X 8 0 = nI r ∧ X 8 1 = nI w ∧ X 8 2 = nI n0 ∧ N3 (qz (X 8)) ∧ TB (X 9) tx n0 ∧
  ∀ j, j < w → Inv (hR h (w - 1 - j)) ∧ CB N (hR h (w - 1 - j)) ∧ ∀ i, i < 148 → X ((r + 6 - j) % 6 + 1) i = h (148 * (w - 1 - j) + i)
section RL
variable {X : Nat → Nat → Int32} {z z' h tx T Q : Nat → Int32} {w n0 r N M : Nat} {kA ad : Nat → Nat}
theorem sl_c148 (hz : ∀ i, i < 148 → z' i = z i) {a : Nat} (ha : a < 4) : sl z' a = sl z a := sl_eq fun i _ h2 => hz i (by omega)
theorem Inv_c148 (hz : ∀ i, i < 148 → z' i = z i) (hI : Inv z) : Inv z' :=
  ⟨RInv_congr (fun i hi => hz i (by omega)) hI.1, fun a ha => by rw [sl_c148 hz ha]; exact hI.2 a ha⟩
theorem CB_c148 (hz : ∀ i, i < 148 → z' i = z i) (hC : CB N z) : CB N z' := fun a ha => by rw [sl_c148 hz ha]; exact hC a ha
theorem cw_norm (hz : ∀ i, i < 148 → z' i = X 0 i) : cw kA ad (up2 X 0 z') = cw kA ad X := cw_congr fun k hk q i hd => by
  by_cases hq : q = 0
  · subst hq
    rw [up2_s]
    exact hz i (by unfold dep at hd; omega)
  · rw [up2_n hq]
theorem rel_mono (hR0 : REL X z h tx w n0 r N) (hM : N ≤ M) : REL X z h tx w n0 r M := by
  obtain ⟨h1, h2, h3, h4, h5, h6, h7, h8, h9, h10, h11⟩ := hR0
  exact ⟨h1, h2, CB_mono h3 hM, h4, h5, h6, h7, h8, h9, h10, fun j hj => ⟨(h11 j hj).1, CB_mono (h11 j hj).2.1 hM, (h11 j hj).2.2⟩⟩
theorem rel_7 (hR0 : REL X z h tx w n0 r N) : REL (up2 X 7 T) z h tx w n0 r N := by
  obtain ⟨h1, h2, h3, h4, h5, h6, h7, h8, h9, h10, h11⟩ := hR0
  exact ⟨h1, h2, h3, h4, h5, h6, h7, h8, h9, h10, fun j hj => ⟨(h11 j hj).1, (h11 j hj).2.1, by rw [up2_n (by omega)]; exact (h11 j hj).2.2⟩⟩
theorem rel_Q (hR0 : REL X z h tx w n0 r N) (hN : N3 Q) : REL (upQ X Q) z h tx w n0 r N := by
  obtain ⟨h1, h2, h3, h4, h5, h6, h7, h8, h9, h10, h11⟩ := hR0
  exact ⟨(funext fun i => upQ_ne (Or.inl (by omega))).trans h1, h2, h3, h4, h5, (upQ_ne (Or.inr (Or.inl (by omega)))).trans h6, (upQ_ne (Or.inr (Or.inl (by omega)))).trans h7, (upQ_ne (Or.inr (Or.inl (by omega)))).trans h8, hN, by rw [upQ_9]; exact h10,
    fun j hj => ⟨(h11 j hj).1, (h11 j hj).2.1, fun i hi => by rw [upQ_ne (Or.inl (by omega))]; exact (h11 j hj).2.2 i hi⟩⟩
theorem rel_len0 (hR0 : REL X z h tx w n0 r N) : REL (up3 X 8 2 0) z h tx w 0 r N := by
  obtain ⟨h1, h2, h3, h4, h5, h6, h7, h8, h9, h10, h11⟩ := hR0
  obtain ⟨v, hv, ev⟩ := h9
  exact ⟨(funext fun i => up3_ne (Or.inl (by omega))).trans h1, h2, h3, h4, h5, (up3_ne (Or.inr (by omega))).trans h6, (up3_ne (Or.inr (by omega))).trans h7, up3_s, ⟨v, hv, (show up3 X 8 2 0 8 6 = X 8 6 from up3_ne (Or.inr (by omega))).trans ev⟩, ⟨by omega, fun i hi => absurd hi (Nat.not_lt_zero i)⟩,
    fun j hj => ⟨(h11 j hj).1, (h11 j hj).2.1, fun i hi => by rw [up3_ne (Or.inl (by omega))]; exact (h11 j hj).2.2 i hi⟩⟩
theorem rel_app {p : Int32} (hR0 : REL X z h tx w n0 r N) (hn : n0 < 60) (hp : ch p) : REL (up3 (up3 X 9 (X 8 2).toNatClampNeg p) 8 2 (X 8 2 + 1)) z h (upd tx n0 p) w (n0 + 1) r N := by
  obtain ⟨h1, h2, h3, h4, h5, h6, h7, h8, h9, h10, h11⟩ := hR0
  obtain ⟨v, hv, ev⟩ := h9
  rw [h8, nI_clamp (by omega)]
  have e9 : up3 (up3 X 9 n0 p) 8 2 (nI n0 + 1) 9 = upd (X 9) n0 p := by
    funext i
    rw [up3_ne (Or.inl (by omega))]
    unfold up3
    rw [up2_s]
  refine ⟨(funext fun i => (up3_ne (Or.inl (by omega))).trans (up3_ne (Or.inl (by omega)))).trans h1, h2, h3, h4, h5, ((up3_ne (Or.inr (by omega))).trans (up3_ne (Or.inl (by omega)))).trans h6, ((up3_ne (Or.inr (by omega))).trans (up3_ne (Or.inl (by omega)))).trans h7, up3_s.trans (nI_1 _), ⟨v, hv, (show up3 (up3 X 9 n0 p) 8 2 (nI n0 + 1) 8 6 = X 8 6 from (up3_ne (Or.inr (by omega))).trans (up3_ne (Or.inl (by omega)))).trans ev⟩, ⟨by omega, fun i hi => ?_⟩,
    fun j hj => ⟨(h11 j hj).1, (h11 j hj).2.1, fun i hi => by rw [up3_ne (Or.inl (by omega)), up3_ne (Or.inl (by omega))]; exact (h11 j hj).2.2 i hi⟩⟩
  rw [e9]
  by_cases hin : i = n0
  · subst hin
    rw [upd_s, upd_s]
    exact ⟨rfl, hp⟩
  · rw [upd_ne hin, upd_ne hin]
    exact h10.2 i (by omega)
theorem kp_sv (hw : w ≤ 6) : kpU (nI w) = nI (svN w) := by
  have : ∀ w, w < 7 → kpU (nI w) = nI (svN w) := by decide +kernel
  exact this w (by omega)
theorem kp_d (hw : w ≤ 6) : kpD (nI w) = nI (w - 1) := by
  have : ∀ w, w < 7 → kpD (nI w) = nI (w - 1) := by decide +kernel
  exact this w (by omega)
theorem svN_le (hw : w ≤ 6) : svN w ≤ 6 := by unfold svN; split <;> omega
theorem rel_save (hR0 : REL X z h tx w n0 r N) (hI : Inv z') (hC : CB (N + M) z') : REL (up2 (svX X r) 0 z') z' (svH h z w) tx (svN w) n0 (nx6 r) (N + M) := by
  obtain ⟨h1, h2, h3, h4, h5, h6, h7, h8, h9, h10, h11⟩ := hR0
  have h6n : nx6 r < 6 := nx6_lt r
  have hr' : nx6 r = (r + 1) % 6 := by unfold nx6; split <;> omega
  obtain ⟨v, hv, ev⟩ := h9
  refine ⟨up2_s, hI, hC, svN_le h4, h6n, ?_, ?_, ?_, ⟨v, hv, ?_⟩, ?_, fun j hj => ?_⟩
  · rw [up2_n (by omega)]; unfold svX; rw [up2_n (by omega), up3_ne (Or.inr (by omega)), up3_s]
  · rw [up2_n (by omega)]; unfold svX; rw [up2_n (by omega), up3_s, h7]; exact kp_sv h4
  · rw [up2_n (by omega), svX_8 h5 (by omega) (by omega)]; exact h8
  · show up2 (svX X r) 0 z' 8 6 = _
    rw [up2_n (by omega), svX_8 h5 (by omega) (by omega)]; exact ev
  · rw [up2_n (by omega), svX_9 h5]; exact h10
  · rw [up2_n (by omega)]
    by_cases hj0 : j = 0
    · subst hj0
      have hrow : ∀ i, i < 148 → svH h z w (148 * (svN w - 1 - 0) + i) = z i := fun i hi => by
        unfold svH svN hL2
        by_cases hw6 : w = 6
        · rw [if_pos hw6, if_pos hw6]
          rw [if_pos (by omega)]
          exact congrArg z (by omega)
        · rw [if_neg hw6, if_neg hw6]
          rw [if_pos (by omega)]
          exact congrArg z (by omega)
      have hz : ∀ i, i < 148 → hR (svH h z w) (svN w - 1 - 0) i = z i := fun i hi => by
        unfold hR
        rw [if_pos hi]
        exact hrow i hi
      refine ⟨Inv_c148 hz h2, CB_c148 hz (CB_mono h3 (by omega)), fun i hi => ?_⟩
      rw [hrow i hi]
      unfold svX
      rw [show (nx6 r + 6 - 0) % 6 + 1 = nx6 r + 1 by omega, up2_s, h1]
    · have hj' : j - 1 < w := by unfold svN at hj; split at hj <;> omega
      obtain ⟨g1, g2, g3⟩ := h11 (j - 1) hj'
      have hj6 : j < 6 := Nat.lt_of_lt_of_le hj (svN_le h4)
      have hrow : ∀ i, i < 148 → svH h z w (148 * (svN w - 1 - j) + i) = h (148 * (w - 1 - (j - 1)) + i) := fun i hi => by
        unfold svH svN hL2 hL1
        by_cases hw6 : w = 6
        · rw [if_pos hw6, if_pos hw6]
          rw [if_neg (by omega), if_pos (by omega)]
          exact congrArg h (by omega)
        · rw [if_neg hw6, if_neg hw6]
          unfold svN at hj
          rw [if_neg hw6] at hj
          rw [if_neg (by omega)]
          exact congrArg h (by omega)
      have hz : ∀ i, i < 148 → hR (svH h z w) (svN w - 1 - j) i = hR h (w - 1 - (j - 1)) i := fun i hi => by
        unfold hR
        rw [if_pos hi, if_pos hi]
        exact hrow i hi
      refine ⟨Inv_c148 hz g1, CB_c148 hz (CB_mono g2 (by omega)), fun i hi => ?_⟩
      rw [hrow i hi, ← g3 i hi]
      unfold svX
      rw [up2_n (by omega), show (nx6 r + 6 - j) % 6 + 1 = (r + 6 - (j - 1)) % 6 + 1 by omega, up3_ne (Or.inl (by omega)), up3_ne (Or.inl (by omega))]
theorem un_at {i : Nat} (hi : i < 148) : unL z h (w - 1) 148 i = h (148 * (w - 1) + i) := by unfold unL; exact if_pos hi
theorem rel_undo (hR0 : REL X z h tx w n0 r N) (hw : 0 < w) : (∀ i, i < 148 → unL z h (w - 1) 148 i = rsX X r 0 i) ∧ REL (up2 (rsX X r) 0 (unL z h (w - 1) 148)) (unL z h (w - 1) 148) h tx (w - 1) n0 (pv6 r) N := by
  obtain ⟨h1, h2, h3, h4, h5, h6, h7, h8, h9, h10, h11⟩ := hR0
  have hr' : pv6 r = (r + 5) % 6 := by unfold pv6; split <;> omega
  obtain ⟨v, hv, ev⟩ := h9
  obtain ⟨g1, g2, g3⟩ := h11 0 hw
  have hz : ∀ i, i < 148 → unL z h (w - 1) 148 i = hR h (w - 1 - 0) i := fun i hi => by
    rw [un_at hi]; unfold hR; rw [if_pos hi]; rfl
  have hn8 : ∀ i, i ≠ 0 → i ≠ 1 → rsX X r 8 i = X 8 i := fun i h0 h9 => by
    unfold rsX
    rw [up3_ne (Or.inr h9), up3_ne (Or.inr h0), up2_n (by omega)]
  refine ⟨fun i hi => ?_, up2_s, Inv_c148 hz g1, CB_c148 hz g2, by omega, by omega, ?_, ?_, ?_, ⟨v, hv, ?_⟩, ?_, fun j hj => ?_⟩
  · unfold rsX
    rw [un_at hi, up3_ne (Or.inl (by omega)), up3_ne (Or.inl (by omega)), up2_s]
    have := g3 i hi
    rw [show (r + 6 - 0) % 6 + 1 = r + 1 by omega] at this
    exact this.symm
  · rw [up2_n (by omega)]; unfold rsX; rw [up3_ne (Or.inr (by omega)), up3_s]
  · rw [up2_n (by omega)]; unfold rsX; rw [up3_s, h7]; exact kp_d h4
  · rw [up2_n (by omega), hn8 2 (by omega) (by omega)]; exact h8
  · show up2 (rsX X r) 0 (unL z h (w - 1) 148) 8 6 = nI v
    rw [up2_n (by omega), hn8 6 (by omega) (by omega)]; exact ev
  · rw [up2_n (by omega)]
    have : rsX X r 9 = X 9 := by
      funext i
      unfold rsX
      rw [up3_ne (Or.inl (by omega)), up3_ne (Or.inl (by omega)), up2_n (by omega)]
    rw [this]; exact h10
  · obtain ⟨k1, k2, k3⟩ := h11 (j + 1) (by omega)
    rw [show w - 1 - 1 - j = w - 1 - (j + 1) by omega]
    refine ⟨k1, k2, fun i hi => ?_⟩
    rw [up2_n (by omega), ← k3 i hi]
    unfold rsX
    rw [up3_ne (Or.inl (by omega)), up3_ne (Or.inl (by omega)), up2_n (by omega), show (pv6 r + 6 - j) % 6 + 1 = (r + 6 - (j + 1)) % 6 + 1 by omega]
end RL
