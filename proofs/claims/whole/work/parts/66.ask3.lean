/-! quarrel -/
section AM
variable {S S' : MS} {I I' : Nat → Nat → Int32} {J : Nat → Nat → Int64} {np nw ep ew : Nat} {ps ws : Nat → Nat}
theorem Lai.fdo (h : Lai I np nw) (hn : np ≤ 12) (hnw : nw ≤ 30) (h1 : I 1 1 = nI np) : Fdo I np (inV I nw) (lvn I np nw) (fun p => plc I p (I 1 15)) (I 1 17) := by
  refine ⟨⟨hn, h1, rfl⟩, fun p hp => ⟨⟨fun hv => ?_, fun hv => ?_⟩, (h.2.1 p hp).2, h.2.2.1 p hp⟩⟩
  · unfold inV at hv
    rw [(h.2.1 p hp).1]
    cases hs : shn I nw p with
    | none => rw [hs] at hv; cases hv
    | some w => exact ⟨w, by have := (shn_lt hs).1; omega, rfl⟩
  · unfold inV at hv
    rw [(h.2.1 p hp).1]
    cases hs : shn I nw p with
    | none => rfl
    | some w => rw [hs] at hv; cases hv
theorem quarrel_ok (h : Cor S I np nw ep ew ps ws) (x1 x2 : Int32) : OkC S I J np nw ep ew ps ws (fX9_quarrel S 1 x1 x2) (fX10_quarrel (mkR I J) 1 x1 x2) := by
  have hn := h.1.2.1.1
  have h1' := h.1.2.1.2.1
  have hnw := h.1.2.2.1.1
  unfold fX9_quarrel bX9_quarrel_0 bX9_quarrel_75 bX9_quarrel_51 bX9_quarrel_16 fX10_quarrel bX10_quarrel_0 bX10_quarrel_62 bX10_quarrel_45 bX10_quarrel_16
  simp only [cIs1 h.1.1, rIs, Option.bind_some, C_isPost h.1.1 h.1.2.1, R_noPost hn h1']
  have no : OkC S I J np nw ep ew ps ws (some ((-1 : Int32), S)) (some (-1, mkR I J)) := ⟨-1, S, I, rfl, rfl, h, FrC.rf, FrR.rf⟩
  by_cases h1 : 0 ≤ x1.toInt ∧ x1.toInt < np
  · by_cases h2 : 0 ≤ x2.toInt ∧ x2.toInt < np
    · have z1 := bz_t h1
      have z0 := bz_f (fun q => q h1 : ¬ ¬ (0 ≤ x1.toInt ∧ x1.toInt < np))
      have y1 := bz_t h2
      have y0 := bz_f (fun q => q h2 : ¬ ¬ (0 ≤ x2.toInt ∧ x2.toInt < np))
      simp only [z1, z0, y1, y0, e10, if_false, if_true]
      obtain ⟨p, hp, rfl⟩ := i_nI h1.1 h1.2
      obtain ⟨q, hq, rfl⟩ := i_nI h2.1 h2.2
      obtain ⟨I', r1, r2, r3, r4⟩ := R_laid (J := J) h
      have h' := h.R r2 r3 r4
      obtain ⟨hC, hP, hW, hD⟩ := h'.1
      have hF := r4.fdo hn hnw hP.2.1
      have hp12 : p < 12 := by omega
      have hq12 : q < 12 := by omega
      have st : OkC S I J np nw ep ew ps ws (some ((-3 : Int32), S)) (some (-3, mkR I' J)) := ⟨-3, S, I', rfl, rfl, h', FrC.rf, r2⟩
      have epq : (nI p = nI q) = (p = q) := propext (nI_eq (by omega) (by omega))
      have bp : (mk (inV I' nw) np).testBit p = inV I' nw p := by rw [mk_bit]; simp [hp]
      have bq : (mk (inV I' nw) np).testBit q = inV I' nw q := by rw [mk_bit]; simp [hq]
      have vq' : (0 ≤ I' 14 q) = (inV I' nw q = true) := by
        have := hF.v hq
        apply propext
        rw [i_le, n0]
        have h3 : (I' 14 q).toInt < 0 ↔ inV I' nw q = false := by rw [← this, i_lt, n0]
        cases hv : inV I' nw q with
        | true => rw [hv] at h3; simp at h3; simp; exact h3
        | false => rw [hv] at h3; simp at h3; simp; exact h3
      simp only [r1, epq, cP1_0 hC, cI2 hC, hD.2.1.1, C_isIn hp12, C_isIn hq12, bp, bq, rP20, rL14 rfl hp12, rL14 rfl hq12, hF.v hp, vq', rIs, R_doQuarrel hF hp hq, Option.bind_some]
      by_cases c1 : p = q
      · rw [if_pos c1, if_pos c1]; exact st
      · rw [if_neg c1, if_neg c1]
        by_cases c2 : inV I' nw p = true
        · by_cases c3 : inV I' nw q = true
          · obtain ⟨S', s1, s2, s3, s4, s5, s6⟩ := C_settled h'
            have bit : (mk (agb (inV I' nw) (lvn I' np nw) (fun p => plc I' p (I' 1 15)) (I' 1 17) np p) np).testBit q = agb (inV I' nw) (lvn I' np nw) (fun p => plc I' p (I' 1 15)) (I' 1 17) np p q := by rw [mk_bit]; simp [hq]
            have hcor : Cor S' I' np nw ep ew ps ws := Cor.CR s2 s3 s4 s5 FrR.rf r3 r4
            have fin : ∀ x : Int32, OkC S I J np nw ep ew ps ws (some (x, S')) (some (x, mkR I' J)) := fun x => ⟨x, S', I', rfl, rfl, hcor, s6, r2⟩
            simp only [c2, c3, if_true, e10, if_false, Bool.true_eq_false, s1, b2_s, cP8_2 s2.1, cL10 s2.1 rfl hp12, s3.2.1 p hp, C_isIn hq12, bit, Option.bind_some]
            by_cases c4 : ab (lvn I' np nw p - lvn I' np nw q) ≤ I' 1 17 * stp (plc I' p (I' 1 15)) (plc I' q (I' 1 15))
            · have hx : agb (inV I' nw) (lvn I' np nw) (fun p => plc I' p (I' 1 15)) (I' 1 17) np p q = false := agb_n (fun x => x.2.2.2.2.2 c4)
              simp only [hx, c4, Bool.false_eq_true, if_false, if_true]
              exact fin 0
            · have hx : agb (inV I' nw) (lvn I' np nw) (fun p => plc I' p (I' 1 15)) (I' 1 17) np p q = true := agb_y ⟨hp, hq, c1, c2, c3, c4⟩
              simp only [hx, c4, if_false, if_true, e10]
              exact fin 1
          · have c3' : inV I' nw q = false := by simpa using c3
            simp only [c2, c3', if_true, e10, if_false, Bool.true_eq_false, Bool.false_eq_true]
            exact st
        · have c2' : inV I' nw p = false := by simpa using c2
          simp only [c2', if_true, Bool.false_eq_true, if_false]
          exact st
    · have z1 := bz_t h1
      have z0 := bz_f (fun q => q h1 : ¬ ¬ (0 ≤ x1.toInt ∧ x1.toInt < np))
      have y1 := bz_f h2
      have y0 := bz_t h2
      simp only [z1, z0, y1, y0, e10, if_false, if_true]
      exact no
  · have z1 := bz_f h1
    have z0 := bz_t h1
    simp only [z1, z0, e10, if_false, if_true]
    exact no
end AM
