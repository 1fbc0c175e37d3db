/-! tell, hail, as -/
section TE
variable {S : MS} {I : Nat → Nat → Int32} {J : Nat → Nat → Int64} {np nw ep ew : Nat} {ps ws : Nat → Nat}
/-- both leave the same trace -/
def OkT (S : MS) (I : Nat → Nat → Int32) (J : Nat → Nat → Int64) (c r : Option (Int32 × MS)) : Prop := ∃ (x : Int32) (S' : MS) (I' : Nat → Nat → Int32), c = some (x, S') ∧ r = some (x, mkR I' J) ∧ i_ev S' I' ∧ FrC S S' [] [11, 12] [] ∧ FrR I I' [] [0, 57]
theorem cT_at {a k : Nat} {v : Int32} (h : m_at S a k) : m_at (cT S v) a k := h
theorem cT_I {a : Nat} {v : Int32} (h : a ≠ 1) : m_I (cT S v) a = m_I S a := mI_ne h
theorem rT_I {a : Nat} {v : Int32} (h : a ≠ 1) : rT I v a = I a := up_n h
theorem rT_1 {v : Int32} : rT I v 1 1 = I 1 1 := by
  unfold rT
  rw [up_s, upd_n (by decide)]
theorem fT {v : Int32} : FrC S (cT S v) [] [11, 12] [] := cT_f.mono (by simp) (by simp) (by simp)
theorem gT {v : Int32} : FrR I (rT I v) [] [0, 57] := rT_f.mono (by simp) (by simp)
theorem tell_ok (hC : CS S) (hP : Pos S I np ep ps) (he : i_ev S I) (x1 : Int32) : OkT S I J (fX9_tell S 1 x1) (fX10_tell (mkR I J) 1 x1) := by
  have hn := hP.1
  unfold fX9_tell bX9_tell_0 fX10_tell bX10_tell_0 bX10_tell_27 bX10_tell_36 bX10_tell_51 bX10_tell_71 bX10_tell_87
  simp only [cIs1 hC, rIs, C_isPost hC hP, R_noPost hn hP.2.1, Option.bind_some]
  by_cases h1 : 0 ≤ x1.toInt ∧ x1.toInt < np
  · obtain ⟨p, hp, rfl⟩ := i_nI h1.1 h1.2
    obtain ⟨⟨b0, b1, b2, b3, b4, b5, b6⟩, hr⟩ := hP.2.2.2 p hp
    have hc := (hP.2.2.1.2.2 p hp).2
    have hp12 : p < 12 := by omega
    have ne : ps p ≠ 1 := by omega
    unfold fX9_tellAsShip bX9_tellAsShip_0 fX9_tellAsBuoy bX9_tellAsBuoy_0 fX9_tellAsPost bX9_tellAsPost_0
    unfold fX9_tellAsShip bX9_tellAsShip_0 fX9_tellAsPost bX9_tellAsPost_0
    simp only [bz_t h1, bz_f (fun q => q h1 : ¬ ¬ (0 ≤ (nI p).toInt ∧ (nI p).toInt < np)), e10, if_false, if_true, cP1_0 hC, cP2_0 hC, at_is hP.2.2.1.1.1, L_get hP.2.2.1 hp, at_is hc, at_gI hc, b1, rP2, rL2 rfl hp12, Option.bind_some]
    rcases k3 hr.1 with hk | hk | hk
    · simp only [hk, e01, e02, if_false, if_true, R_traced, cIs1 hC, C_leave hC, at_gI (cT_at hc), cT_I ne, b4, rP5, rL5 rfl hp12, rT_I (show 5 ≠ 1 by decide), show ((0 : Int32) ≤ 0) = True by decide, rIs, Option.bind_some, b2_s, Int32.add_zero]
      exact ⟨_, _, _, rfl, rfl, ev_T he 1, fT, gT⟩
    · simp only [hk, e12, e10, if_false, if_true, R_traced, cIs1 hC, C_leave hC, cIs1 (cT_C (v := 2) hC), C_leave (cT_C (v := 2) hC), at_gI (cT_at (v := 1) (cT_at (v := 2) hc)), cT_I ne, b4, b5, rP5, rP6, rL5 rfl hp12, rL6 rfl hp12, rT_I (show 5 ≠ 1 by decide), rT_I (show 6 ≠ 1 by decide), show ((1 : Int32) ≤ 0) = False by decide, rIs, Option.bind_some, b2_s, Int32.add_zero]
      exact ⟨_, _, _, rfl, rfl, ev_T (ev_T he 2) 1, fT.tr fT, gT.tr gT⟩
    · simp only [hk, e21, e20, if_false, if_true, R_traced, cIs1 hC, C_leave hC, cIs1 (cT_C (v := 3) hC), C_leave (cT_C (v := 3) hC), cIs1 (cT_C (v := 2) (cT_C (v := 3) hC)), C_leave (cT_C (v := 2) (cT_C (v := 3) hC)), cIs1 (cT_C (v := 1) (cT_C (v := 2) (cT_C (v := 3) hC))), C_leave (cT_C (v := 1) (cT_C (v := 2) (cT_C (v := 3) hC))), at_gI (cT_at (v := 1) (cT_at (v := 2) (cT_at (v := 3) hc))), at_gI (cT_at (v := 1) (cT_at (v := 1) (cT_at (v := 2) (cT_at (v := 3) hc)))), cT_I ne, b4, b5, rP5, rP6, rL5 rfl hp12, rL6 rfl hp12, rT_I (show 5 ≠ 1 by decide), rT_I (show 6 ≠ 1 by decide), show ((2 : Int32) ≤ 0) = False by decide, rIs, Option.bind_some, b2_s]
      exact ⟨_, _, _, rfl, rfl, ev_T (ev_T (ev_T (ev_T he 3) 2) 1) 1, ((fT.tr fT).tr fT).tr fT, ((gT.tr gT).tr gT).tr gT⟩
  · simp only [bz_f h1, bz_t h1, e10, if_false, if_true]
    exact ⟨_, S, I, rfl, rfl, he, FrC.rf, FrR.rf⟩
theorem hail_ok (hC : CS S) (hP : Pos S I np ep ps) (he : i_ev S I) (x1 : Int32) : OkT S I J (fX9_hail S 1 x1) (fX10_hail (mkR I J) 1 x1) := by
  have hn := hP.1
  unfold fX9_hail bX9_hail_0 fX10_hail bX10_hail_0 bX10_hail_26 bX10_hail_45
  simp only [cIs1 hC, rIs, C_isPost hC hP, R_noPost hn hP.2.1, Option.bind_some]
  by_cases h1 : 0 ≤ x1.toInt ∧ x1.toInt < np
  · obtain ⟨p, hp, rfl⟩ := i_nI h1.1 h1.2
    obtain ⟨⟨b0, b1, b2, b3, b4, b5, b6⟩, hr⟩ := hP.2.2.2 p hp
    have hc := (hP.2.2.1.2.2 p hp).2
    have hp12 : p < 12 := by omega
    simp only [bz_t h1, bz_f (fun q => q h1 : ¬ ¬ (0 ≤ (nI p).toInt ∧ (nI p).toInt < np)), e10, if_false, if_true, cP1_0 hC, cP2_0 hC, at_is hP.2.2.1.1.1, L_get hP.2.2.1 hp, at_is hc, at_gI hc, b1, rP2, rL2 rfl hp12, R_traced, rT_I (show 2 ≠ 1 by decide), C_leave hC, Option.bind_some]
    by_cases hk : I 2 p = 2
    · simp only [hk, if_true, rIs, R_traced, rP2, rL2 rfl hp12, rT_I (show 2 ≠ 1 by decide), Option.bind_some]
      exact ⟨_, _, _, rfl, rfl, ev_T he 5, fT, gT⟩
    · simp only [hk, if_false, rIs, R_traced, rP2, rL2 rfl hp12, rT_I (show 2 ≠ 1 by decide), Option.bind_some]
      exact ⟨_, _, _, rfl, rfl, ev_T he 4, fT, gT⟩
  · simp only [bz_f h1, bz_t h1, e10, if_false, if_true]
    exact ⟨_, S, I, rfl, rfl, he, FrC.rf, FrR.rf⟩
theorem as_ok (hC : CS S) (hP : Pos S I np ep ps) (he : i_ev S I) (x1 x2 : Int32) : OkT S I J (fX9_as S 1 x1 x2) (fX10_as (mkR I J) 1 x1 x2) := by
  have hn := hP.1
  have hC' := cF_C (v := 0) hC
  have P' : Pos (cF S 0) I np ep ps := hP.fr (I' := I) cF_f ⟨by simp, by simp⟩ (by simp) (by simp) (.inr (by simp)) rfl (fun _ _ _ => rfl)
  have okF : ∀ (x v : Int32), OkT S I J (some (x, cF S v)) (some (x, mkR (rF I v) J)) := fun x v => ⟨x, _, _, rfl, rfl, ev_F he v, cF_f.mono (by simp) (by simp) (by simp), rF_f.mono (by simp) (by simp)⟩
  unfold fX9_as bX9_as_0 fX10_as bX10_as_0 bX10_as_56
  simp only [C_f0 hC, cIs1 hC', rIs, C_isPost hC' P', R_noPost hn hP.2.1, Option.bind_some]
  by_cases h1 : 0 ≤ x1.toInt ∧ x1.toInt < np
  · obtain ⟨p, hp, rfl⟩ := i_nI h1.1 h1.2
    obtain ⟨⟨b0, b1, -⟩, hr⟩ := P'.2.2.2 p hp
    have hc := (P'.2.2.1.2.2 p hp).2
    have hp12 : p < 12 := by omega
    simp only [bz_t h1, bz_f (fun q => q h1 : ¬ ¬ (0 ≤ (nI p).toInt ∧ (nI p).toInt < np)), e10, if_false, if_true]
    by_cases h2 : 0 ≤ x2.toInt ∧ x2.toInt < 3
    · simp only [C_below_t (m := 3) (n := 3) rfl h2, R_in_t (x := x2) (a := 0) (b := 2) (a' := 0) (b' := 2) rfl rfl (by omega), e10, if_false, cP1_0 hC', cP2_0 hC', at_is P'.2.2.1.1.1, L_get P'.2.2.1 hp, at_is hc, at_gI hc, b1, rP2, rL2 rfl hp12, R_refused, R_failed, C_comeTo hC', cF_cF, Option.bind_some, b2_s]
      by_cases h3 : x2 ≤ I 2 p
      · have h4 : ¬ I 2 p < x2 := by rw [i_le] at h3; rw [i_lt]; omega
        simp only [h3, h4, if_true, if_false]
        exact okF _ _
      · have h4 : I 2 p < x2 := by rw [i_le] at h3; rw [i_lt]; omega
        simp only [h3, h4, if_true, if_false]
        exact okF _ _
    · simp only [C_below_f (m := 3) (n := 3) rfl h2, R_in_f (x := x2) (a := 0) (b := 2) (a' := 0) (b' := 2) rfl rfl (by omega), if_true, R_refused, b2_s, Option.bind_some]
      exact okF _ _
  · simp only [bz_f h1, bz_t h1, e10, if_false, if_true, R_refused, b2_s]
    exact okF _ _
end TE
