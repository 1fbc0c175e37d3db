/-! about: the wires of a post, counted -/
section AB
variable {S : MS} {I : Nat → Nat → Int32} {J : Nat → Nat → Int64} {np nw ep ew : Nat} {ps ws : Nat → Nat}
def cwo (I : Nat → Nat → Int32) (p : Nat) : Nat → Nat
  | 0 => 0
  | w + 1 => cwo I p w + (if I 8 w = nI p then 1 else 0)
theorem C_countWires (hC : CS S) (hW : Wir S I np nw ew ws) {p : Nat} : fX1_countWiresOf S 2 (nI p) = some (nI (cwo I p nw)) := by
  have hnw := hW.1
  unfold fX1_countWiresOf bX1_countWiresOf_0
  rw [fin_l]
  refine lim_it2 (st := fun j => (2, nI p, nI (cwo I p j), nI j)) nw (fun j hj => ?_) ?_
  · show bX1_countWiresOf_4 S 2 (nI p) (nI (cwo I p j)) (nI j) = _
    obtain ⟨p', c, -, d1, d2, d3, -⟩ := hW.get hj
    unfold bX1_countWiresOf_4 bX1_countWiresOf_36
    simp only [cP2_1 hC, at_is hW.2.2.1.1.1, L_size hW.2.2.1, if_neg (nI_ge hj (show nw < 2 ^ 31 by omega)), L_get hW.2.2.1 hj, at_is d2, at_gI d2, d3, ← d1, Option.bind_some, nI_1]
    have hc : cwo I p (j + 1) = cwo I p j + (if I 8 j = nI p then 1 else 0) := rfl
    rw [hc]
    by_cases h : I 8 j = nI p
    · rw [if_pos h, if_pos h]
    · simp only [h, if_false, Nat.add_zero]
  · show bX1_countWiresOf_4 S 2 (nI p) (nI (cwo I p nw)) (nI nw) = _
    unfold bX1_countWiresOf_4 bX1_countWiresOf_36
    simp only [cP2_1 hC, at_is hW.2.2.1.1.1, L_size hW.2.2.1, if_pos (nI_le (Nat.le_refl nw) (show nw < 2 ^ 31 by omega)), Option.bind_some]
theorem R_countWires (hn : nw ≤ 30) (h8 : I 1 8 = nI nw) {p : Nat} : lim sX10_about (1, nI p, 0, 0, mkR I J) = some (nI (cwo I p nw), mkR I J) := by
  refine lim_it2 (step := sX10_about) (st := fun j => (1, nI p, nI (cwo I p j), nI j, mkR I J)) nw (fun j hj => ?_) ?_
  · show bX10_about_91 (mkR I J) 1 (nI p) (nI (cwo I p j)) (nI j) = _
    unfold bX10_about_91 bX10_about_117
    simp only [rI, h8, if_neg (nI_ge hj (show nw < 2 ^ 31 by omega)), rP9, rL8 rfl (show j < 30 by omega), Option.bind_some, nI_1]
    have hc : cwo I p (j + 1) = cwo I p j + (if I 8 j = nI p then 1 else 0) := rfl
    rw [hc]
    by_cases h : I 8 j = nI p
    · rw [if_pos h, if_pos h]
    · rw [if_neg h, if_neg h, show (0 : Int32) = nI 0 from rfl, nI_add]
  · show bX10_about_91 (mkR I J) 1 (nI p) (nI (cwo I p nw)) (nI nw) = _
    unfold bX10_about_91 bX10_about_117
    simp only [rI, h8, if_pos (nI_le (Nat.le_refl nw) (show nw < 2 ^ 31 by omega)), Option.bind_some]
theorem about_ok (h : Cor S I np nw ep ew ps ws) (x1 x2 : Int32) : OkC S I J np nw ep ew ps ws (fX9_about S 1 x1 x2) (fX10_about (mkR I J) 1 x1 x2) := by
  have hn := h.1.2.1.1
  have hnw := h.1.2.2.1.1
  unfold fX9_about bX9_about_0 bX9_about_126 fX10_about bX10_about_0 bX10_about_150
  simp only [cIs1 h.1.1, rIs, C_isPost h.1.1 h.1.2.1, R_noPost hn h.1.2.1.2.1, Option.bind_some]
  by_cases h1 : 0 ≤ x1.toInt ∧ x1.toInt < np
  · obtain ⟨p, hp, rfl⟩ := i_nI h1.1 h1.2
    have z1 := bz_t h1
    have z0 := bz_f (fun q => q h1 : ¬ ¬ (0 ≤ (nI p).toInt ∧ (nI p).toInt < np))
    obtain ⟨I', r1, r2, r3, r4⟩ := R_laid (J := J) h
    have h' := h.R r2 r3 r4
    obtain ⟨hC, hP, hW, hD⟩ := h'.1
    have hp12 : p < 12 := by omega
    have hc := (hP.2.2.1.2.2 p hp).2
    obtain ⟨⟨-, b1, b2', b3, b4, -, -⟩, -⟩ := hP.2.2.2 p hp
    obtain ⟨S', s1, s2, s3, s4, s5, s6⟩ := C_settled h'
    have hcor : Cor S' I' np nw ep ew ps ws := Cor.CR s2 s3 s4 s5 FrR.rf r3 r4
    have fin : ∀ x : Int32, OkC S I J np nw ep ew ps ws (some (x, S)) (some (x, mkR I' J)) := fun x => ⟨x, S, I', rfl, rfl, h', FrC.rf, r2⟩
    have fin2 : ∀ x : Int32, OkC S I J np nw ep ew ps ws (some (x, S')) (some (x, mkR I' J)) := fun x => ⟨x, S', I', rfl, rfl, hcor, s6, r2⟩
    simp only [z1, z0, e10, if_false, if_true, cP1_0 hC, cP2_0 hC, cP2_5 hC, at_is hP.2.2.1.1.1, L_get hP.2.2.1 hp, at_is hc, at_gI hc, b1, b2', b3, b4, cIs2 hC, C_countWires hC hW, cL6 hC rfl hp12, (hD.2.2 p hp).2.1, s1, b2_s, cI8 s2.1, s3.2.2.1, C_isIn hp12, r1, rP2, rP3, rP4, rP5, rP20, rL2 rfl hp12, rL3 rfl hp12, rL4 rfl hp12, rL5 rfl hp12, rL14 rfl hp12, (r4.2.1 p hp).1, rI, r4.2.2.2.1, R_hasBit hp12, Option.bind_some]
    by_cases e0 : x2 = 0
    · rw [if_pos e0, if_pos e0, fin_r]; exact fin _
    · rw [if_neg e0, if_neg e0]
      by_cases e1 : x2 = 1
      · rw [if_pos e1, if_pos e1, fin_r]; exact fin _
      · rw [if_neg e1, if_neg e1]
        by_cases e2 : x2 = 2
        · rw [if_pos e2, if_pos e2, fin_r]; exact fin _
        · rw [if_neg e2, if_neg e2]
          by_cases e3 : x2 = 3
          · rw [if_pos e3, if_pos e3, fin_r]; exact fin _
          · rw [if_neg e3, if_neg e3]
            by_cases e4 : x2 = 4
            · rw [if_pos e4, if_pos e4, fin_l, R_countWires hnw hW.2.1]; exact fin _
            · rw [if_neg e4, if_neg e4]
              by_cases e5 : x2 = 5
              · rw [if_pos e5, if_pos e5, fin_r]; exact fin _
              · rw [if_neg e5, if_neg e5]
                by_cases e6 : x2 = 6
                · rw [if_pos e6, if_pos e6]
                  by_cases e7 : (dd I' np nw).testBit p = true
                  · simp only [e7, if_true, e10, if_false, fin_r]; exact fin2 _
                  · have e7' : (dd I' np nw).testBit p = false := by simpa using e7
                    simp only [e7', Bool.false_eq_true, if_false, if_true, fin_r]; exact fin2 _
                · rw [if_neg e6, if_neg e6, fin_r]; exact fin _
  · simp only [bz_f h1, bz_t h1, e10, if_false, if_true, fin_r]
    exact ⟨_, S, I, rfl, rfl, h, FrC.rf, FrR.rf⟩
end AB
