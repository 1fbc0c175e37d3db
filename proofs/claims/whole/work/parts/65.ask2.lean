/-! told, guess, mended, level -/
section AL
variable {S S' : MS} {I I' : Nat → Nat → Int32} {J : Nat → Nat → Int64} {np nw ep ew : Nat} {ps ws : Nat → Nat}
theorem Wir.get (h : Wir S I np nw ew ws) {w : Nat} (hw : w < nw) : ∃ p c, p < np ∧ I 8 w = nI p ∧ m_at S (ws w) 9 ∧ m_I S (ws w) 0 = nI p ∧ m_I S (ws w) 1 = I 9 w ∧ m_I S (ws w) 2 = I 10 w ∧ m_P S (ws w) 5 = some c ∧ ∀ g, g < 3 → o_ld S c 12 (nI g) = some (nI (RD (Dig I w g) g).length) := by
  obtain ⟨q, c, -, hwd, ⟨c1, c2, c3⟩, -, c5, p, hp, d1, d2, -, d4, d5⟩ := (h.2.2.2 w hw).1
  exact ⟨p, c, hp, d1, hwd.1, d2, d4, d5, c1, fun g hg => by rw [at_ld (n := 3) c2 c3 (by omega) rfl hg, c5 g hg]⟩
theorem told_ok (h : Cor S I np nw ep ew ps ws) (x1 x2 : Int32) : OkA S I J np nw ep ew ps ws (fX9_told S 1 x1 x2) (fX10_told (mkR I J) 1 x1 x2) := by
  have hnw := h.1.2.2.1.1
  have h8 := h.1.2.2.1.2.1
  unfold fX9_told bX9_told_0 bX9_told_92 fX10_told bX10_told_0 bX10_told_85
  rw [cIs1 h.1.1, rIs, Option.bind_some, Option.bind_some, C_isWire h.1.1 h.1.2.2.1, R_noWire hnw h8, Option.bind_some, Option.bind_some]
  by_cases h1 : 0 ≤ x1.toInt ∧ x1.toInt < nw
  · obtain ⟨w, hw, rfl⟩ := i_nI h1.1 h1.2
    rw [bz_t h1, bz_f (fun q => q h1), if_neg (by decide), if_pos rfl]
    obtain ⟨I', r1, r2, r3, r4⟩ := R_laid (J := J) h
    have h' := h.R r2 r3 r4
    obtain ⟨hC, hP, hW, hD⟩ := h'.1
    have hnp := hP.1
    obtain ⟨p, c, hp, d1, d2, d3, d4, d5, -, -⟩ := hW.get hw
    have fin : ∀ x : Int32, OkA S I J np nw ep ew ps ws (some x) (some (x, mkR I' J)) := fun x => ⟨x, I', rfl, rfl, h', r2⟩
    have hw30 : w < 30 := by omega
    have hp12 : p < 12 := by omega
    simp only [cP1_0 hC, cP2_1 hC, cP2_5 hC, at_is hW.2.2.1.1.1, L_get hW.2.2.1 hw, at_is d2, at_gI d2, d3, d4, d5, cL6 hC rfl hp12, (hD.2.2 p hp).2.1, r1, rP9, rP10, rP11, rP20, rL8 rfl hw30, rL9 rfl hw30, rL10 rfl hw30, d1, rL14 rfl hp12, (r4.2.1 p hp).1, Option.bind_some]
    by_cases e0 : x2 = 0
    · rw [if_pos e0, if_pos e0]; exact fin _
    · rw [if_neg e0, if_neg e0]
      by_cases e1 : x2 = 1
      · rw [if_pos e1, if_pos e1]; exact fin _
      · rw [if_neg e1, if_neg e1]
        by_cases e2 : x2 = 2
        · rw [if_pos e2, if_pos e2]; exact fin _
        · rw [if_neg e2, if_neg e2]
          by_cases e3 : x2 = 3
          · rw [if_pos e3, if_pos e3]
            by_cases e4 : bn (shn I' nw p) = nI w
            · rw [if_pos e4, if_pos e4]; exact fin _
            · rw [if_neg e4, if_neg e4]; exact fin _
          · rw [if_neg e3, if_neg e3]; exact fin _
  · rw [bz_f h1, bz_t h1, if_pos rfl, if_neg (by decide)]
    exact ⟨_, I, rfl, rfl, h, FrR.rf⟩
theorem plc_neg {p : Nat} (h : poR I p) (x : Int32) : (plc I p x < 0) = (plc I p x = -9) := by
  rcases plc_b h x with h | ⟨k, hk, h⟩
  · rw [h]; exact propext ⟨fun _ => rfl, fun _ => by decide⟩
  · rw [h]; exact propext ⟨fun q => absurd q (nI_neg (by omega)), fun q => absurd q (m9 (by omega))⟩
theorem ask3_ok (h : Cor S I np nw ep ew ps ws) (x1 : Int32) : OkA S I J np nw ep ew ps ws (fX9_guess S 1 x1) (fX10_guess (mkR I J) 1 x1) ∧ OkA S I J np nw ep ew ps ws (fX9_mended S 1 x1) (fX10_mended (mkR I J) 1 x1) ∧ OkA S I J np nw ep ew ps ws (fX9_level S 1 x1) (fX10_level (mkR I J) 1 x1) := by
  have hnw := h.1.2.2.1.1
  have h8 := h.1.2.2.1.2.1
  unfold fX9_guess bX9_guess_0 fX10_guess bX10_guess_0 bX10_guess_20 fX9_mended bX9_mended_0 bX9_mended_51 fX10_mended bX10_mended_0 bX10_mended_20 fX9_level bX9_level_0 bX9_level_51 fX10_level bX10_level_0 bX10_level_30 fX10_noAsking bX10_noAsking_0 bX10_noAsking_46 bX10_noAsking_41 bX10_noAsking_47
  simp only [cIs1 h.1.1, rIs, Option.bind_some, C_isWire h.1.1 h.1.2.2.1, R_noWire hnw h8]
  by_cases h1 : 0 ≤ x1.toInt ∧ x1.toInt < nw
  · obtain ⟨w, hw, rfl⟩ := i_nI h1.1 h1.2
    have z1 := bz_t h1
    have z0 := bz_f (fun q => q h1 : ¬ ¬ (0 ≤ (nI w).toInt ∧ (nI w).toInt < nw))
    simp only [z1, z0, e10, if_false, if_true]
    obtain ⟨I', r1, r2, r3, r4⟩ := R_laid (J := J) h
    have h' := h.R r2 r3 r4
    obtain ⟨hC, hP, hW, hD⟩ := h'.1
    obtain ⟨⟨-, q1⟩, ⟨-, q8⟩, -, qw, qd, -⟩ := h'.1.raw
    have hnp := hP.1
    obtain ⟨p, c, hp, d1, d2, d3, d4, d5, d6, d7⟩ := hW.get hw
    have fin : ∀ x : Int32, OkA S I J np nw ep ew ps ws (some x) (some (x, mkR I' J)) := fun x => ⟨x, I', rfl, rfl, h', r2⟩
    have hw30 : w < 30 := by omega
    have hp12 : p < 12 := by omega
    have hg := C_guessFor hC hP hD d2 d3 hp
    have hm := C_mended hC hP hW hD hw d1 hp
    have hrg := R_guessOf (J := J) q1 hnp hnw r4.2.1 qw hw d1 hp
    have hrm := R_mendedOf (J := J) q1 hnp hnw r4.2.1 qw (qd w hw) hw d1 hp
    have hpl := plc_neg (hP.2.2.2 p hp).2 (I' 1 15)
    have hc1 : o_ld S c 12 1 = some (nI (rmy I' w)) := d7 1 (by omega)
    have hrb := RD_len (Dig I' w 1) 1
    have e0 : (nI (rmy I' w) = 0) = (rmy I' w = 0) := propext (nI_eq (b := 0) (by unfold rmy; omega) (by omega))
    have m3 : ¬ (0 : Int32) ≤ -3 := by decide
    have z00 : (0 : Int32) ≤ 0 := by decide
    simp only [cP1_0 hC, cP2_1 hC, cP2_4 hC, at_is hW.2.2.1.1.1, L_get hW.2.2.1 hw, at_is d2, at_gI d2, at_gP d2 d6, d3, cL5 hC rfl hp12, (hD.2.2 p hp).1, cIs2 hC, hg, hm.1, hm.2, hc1, r1, rP9, rP21, rP13, rL8 rfl hw30, rL12 rfl hw30, d1, rL15 rfl hp12, (r4.2.1 p hp).2, (qw w hw).1, hpl, e0, Option.bind_some, b2_s]
    by_cases c1 : plc I' p (I' 1 15) = -9
    · simp only [c1, if_true, b2_s, if_neg m3]
      exact ⟨fin _, fin _, fin _⟩
    · by_cases c2 : rmy I' w = 0
      · simp only [c1, c2, if_false, if_true, b2_s, if_neg m3, if_pos z00, rIs, hrg, Option.bind_some]
        exact ⟨fin _, fin _, fin _⟩
      · simp only [c1, c2, if_false, if_true, b2_s, if_pos z00, rIs, hrg, hrm, rP9, rL8 rfl hw30, d1, R_levelBy hp12, Option.bind_some]
        exact ⟨fin _, fin _, fin _⟩
  · have z1 := bz_f h1
    have z0 := bz_t h1
    simp only [z1, z0, e10, if_false, if_true, b2_s, if_neg (show ¬ (0 : Int32) ≤ -1 by decide)]
    exact ⟨⟨_, I, rfl, rfl, h, FrR.rf⟩, ⟨_, I, rfl, rfl, h, FrR.rf⟩, ⟨_, I, rfl, rfl, h, FrR.rf⟩⟩
end AL
