/-! digit, readings, reading -/
section AN
variable {S : MS} {I : Nat → Nat → Int32} {J : Nat → Nat → Int64} {np nw ep ew : Nat} {ps ws : Nat → Nat}
theorem wi_dgg {a w : Nat} (h : wiC S I np a w) {g : Nat} (hg : g < 3) : ∀ x, x < 5 → dgR (Dig I w g x) := by
  obtain ⟨q, c, -, hwd, -, h4, -⟩ := h
  intro x hx
  have := hwd.2.2.2.2 (5 * g + x) (by omega)
  rw [h4 _ (by omega)] at this
  unfold Dig
  rw [Nat.add_assoc]
  exact this
theorem readings_ok (h : Cor S I np nw ep ew ps ws) (x1 x2 : Int32) : ∃ r, fX9_readings S 1 x1 x2 = some r ∧ fX10_readings (mkR I J) 1 x1 x2 = some r := by
  obtain ⟨hC, hP, hW, hD⟩ := h.1
  have hnw := hW.1
  unfold fX9_readings bX9_readings_0 fX10_readings bX10_readings_0 bX10_readings_34
  simp only [cIs1 hC, rIs, C_isWire hC hW, R_noWire hnw hW.2.1, Option.bind_some]
  by_cases h1 : 0 ≤ x1.toInt ∧ x1.toInt < nw
  · obtain ⟨w, hw, rfl⟩ := i_nI h1.1 h1.2
    simp only [bz_t h1, bz_f (fun q => q h1 : ¬ ¬ (0 ≤ (nI w).toInt ∧ (nI w).toInt < nw)), e10, if_false, if_true]
    by_cases h2 : 0 ≤ x2.toInt ∧ x2.toInt < 3
    · obtain ⟨g, hg, rfl⟩ := i_nI (n := 3) h2.1 h2.2
      obtain ⟨p, c, hp, d1, d2, d3, d4, d5, d6, d7⟩ := hW.get hw
      simp only [C_below_t (m := 3) (n := 3) rfl h2, R_in_t (x := nI g) (a := 0) (b := 2) (a' := 0) (b' := 2) rfl rfl (by omega), e10, if_false, cP1_0 hC, cP2_1 hC, at_is hW.2.2.1.1.1, L_get hW.2.2.1 hw, at_is d2, at_gP d2 d6, d7 g hg, R_count (J := J) (show w < 30 by omega) hg (wi_dgg (hW.2.2.2 w hw).1 hg), Option.bind_some]
      exact ⟨_, rfl, rfl⟩
    · simp only [C_below_f (m := 3) (n := 3) rfl h2, R_in_f (x := x2) (a := 0) (b := 2) (a' := 0) (b' := 2) rfl rfl (by omega), if_true, Option.bind_some]
      exact ⟨_, rfl, rfl⟩
  · simp only [bz_f h1, bz_t h1, e10, if_false, if_true]
    exact ⟨_, rfl, rfl⟩
theorem reading_ok (h : Cor S I np nw ep ew ps ws) (x1 x2 x3 : Int32) : ∃ r, fX9_reading S 1 x1 x2 x3 = some r ∧ fX10_reading (mkR I J) 1 x1 x2 x3 = some r := by
  obtain ⟨hC, hP, hW, hD⟩ := h.1
  have hnw := hW.1
  unfold fX9_reading bX9_reading_0 bX9_reading_12 fX10_reading bX10_reading_0 bX10_reading_38 bX10_reading_12
  simp only [cIs1 hC, rIs, C_isWire hC hW, R_noWire hnw hW.2.1, Option.bind_some]
  by_cases h1 : 0 ≤ x1.toInt ∧ x1.toInt < nw
  · obtain ⟨w, hw, rfl⟩ := i_nI h1.1 h1.2
    simp only [bz_t h1, bz_f (fun q => q h1 : ¬ ¬ (0 ≤ (nI w).toInt ∧ (nI w).toInt < nw)), e10, if_false, if_true]
    by_cases h3 : 0 ≤ x3
    · rw [if_pos h3, if_pos h3]
      obtain ⟨i, hi, rfl⟩ := i_nI (x := x3) (n := 2 ^ 31) (by rw [i_le, n0] at h3; exact h3) (by have := i_hi x3; omega)
      by_cases h2 : 0 ≤ x2.toInt ∧ x2.toInt < 3
      · obtain ⟨g, hg, rfl⟩ := i_nI (n := 3) h2.1 h2.2
        obtain ⟨p, c, hp, d1, d2, d3, d4, d5, d6, d7⟩ := hW.get hw
        have hrb := RD_len (Dig I w g) g
        simp only [C_below_t (m := 3) (n := 3) rfl h2, R_in_t (x := nI g) (a := 0) (b := 2) (a' := 0) (b' := 2) rfl rfl (by omega), e10, if_false, cP1_0 hC, cP2_1 hC, at_is hW.2.2.1.1.1, L_get hW.2.2.1 hw, at_is d2, at_gP d2 d6, d7 g hg, R_at (J := J) (show w < 30 by omega) hg hi (wi_dgg (hW.2.2.2 w hw).1 hg), Option.bind_some]
        by_cases h4 : i < (RD (Dig I w g) g).length
        · rw [if_pos (nI_lt h4 (by omega))]
          have hr := List.getElem?_eq_getElem h4
          obtain ⟨q, c', -, hwd, -, w4, -⟩ := (hW.2.2.2 w hw).1
          have hE : RD (Eg S q g) g = RD (Dig I w g) g := RD_c (fun x hx => by
            show m_I S q (5 * g + x) = I 11 (15 * w + 5 * g + x)
            rw [w4 _ (by omega), Nat.add_assoc]) g
          rw [C_at hwd hg hi (by rw [hE]; exact hr), hr]
          exact ⟨_, rfl, rfl⟩
        · rw [if_neg (nI_nlt (by omega) hi), List.getElem?_eq_none (by omega)]
          exact ⟨_, rfl, rfl⟩
      · simp only [C_below_f (m := 3) (n := 3) rfl h2, R_in_f (x := x2) (a := 0) (b := 2) (a' := 0) (b' := 2) rfl rfl (by omega), if_true, Option.bind_some]
        exact ⟨_, rfl, rfl⟩
    · rw [if_neg h3, if_neg h3]
      exact ⟨_, rfl, rfl⟩
  · simp only [bz_f h1, bz_t h1, e10, if_false, if_true]
    exact ⟨_, rfl, rfl⟩
theorem digit_ok (h : Cor S I np nw ep ew ps ws) (x1 x2 x3 : Int32) : ∃ r, fX9_digit S 1 x1 x2 x3 = some r ∧ fX10_digit (mkR I J) 1 x1 x2 x3 = some r := by
  obtain ⟨hC, hP, hW, hD⟩ := h.1
  have hnw := hW.1
  unfold fX9_digit bX9_digit_0 bX9_digit_66 bX9_digit_26 fX10_digit bX10_digit_0 bX10_digit_66 bX10_digit_34
  simp only [cIs1 hC, rIs, C_isWire hC hW, R_noWire hnw hW.2.1, Option.bind_some]
  by_cases h1 : 0 ≤ x1.toInt ∧ x1.toInt < nw
  · obtain ⟨w, hw, rfl⟩ := i_nI h1.1 h1.2
    simp only [bz_t h1, bz_f (fun q => q h1 : ¬ ¬ (0 ≤ (nI w).toInt ∧ (nI w).toInt < nw)), e10, if_false, if_true]
    by_cases h2 : 0 ≤ x2.toInt ∧ x2.toInt < 3
    · obtain ⟨g, hg, rfl⟩ := i_nI (n := 3) h2.1 h2.2
      simp only [C_below_t (m := 3) (n := 3) rfl h2, R_in_t (x := nI g) (a := 0) (b := 2) (a' := 0) (b' := 2) rfl rfl (by omega), e10, if_false, Option.bind_some]
      by_cases h3 : 0 ≤ x3.toInt ∧ x3.toInt < 5
      · obtain ⟨d, hd, rfl⟩ := i_nI (n := 5) h3.1 h3.2
        obtain ⟨q, c', -, hwd, -, w4, -⟩ := (hW.2.2.2 w hw).1
        have c8 : (5 : Int32) * nI g + nI d = nI (5 * g + d) := by rw [show (5 : Int32) = nI 5 from rfl, nI_mul, nI_add]
        have c9 : (15 : Int32) * nI w + (5 : Int32) * nI g + nI d = nI (15 * w + (5 * g + d)) := by rw [show (15 : Int32) = nI 15 from rfl, show (5 : Int32) = nI 5 from rfl, nI_mul, nI_mul, nI_add, nI_add, Nat.add_assoc]
        simp only [C_below_t (m := 5) (n := 5) rfl h3, R_in_t (x := nI d) (a := 0) (b := 4) (a' := 0) (b' := 4) rfl rfl (by omega), e10, if_false, cP1_0 hC, cP2_1 hC, at_is hW.2.2.1.1.1, L_get hW.2.2.1 hw, at_is hwd.1, at_gP hwd.1 hwd.2.1, c8, c9, hwd.ld (show 5 * g + d < 15 by omega), w4 _ (show 5 * g + d < 15 by omega), rP12, rL11 rfl (show 15 * w + (5 * g + d) < 450 by omega), Option.bind_some]
        split
        · exact ⟨_, rfl, rfl⟩
        · exact ⟨_, rfl, rfl⟩
      · simp only [C_below_f (m := 5) (n := 5) rfl h3, R_in_f (x := x3) (a := 0) (b := 4) (a' := 0) (b' := 4) rfl rfl (by omega), if_true, Option.bind_some]
        exact ⟨_, rfl, rfl⟩
    · simp only [C_below_f (m := 3) (n := 3) rfl h2, R_in_f (x := x2) (a := 0) (b := 2) (a' := 0) (b' := 2) rfl rfl (by omega), if_true, Option.bind_some]
      exact ⟨_, rfl, rfl⟩
  · simp only [bz_f h1, bz_t h1, e10, if_false, if_true]
    exact ⟨_, rfl, rfl⟩
end AN
