/-! forecast, both answers alike -/
section FC6
variable {S S' : MS} {I I' : Nat → Nat → Int32} {J : Nat → Nat → Int64} {nf ef : Nat} {ff : Nat → Nat}
theorem forecast_ok (hC : CS S) (hk : KSh S I) (hf : i_fo S I nf ef ff) (x1 x2 x3 x4 : Int32) : OkG S I J ef (fX9_forecast S 1 x1 x2 x3 x4) (fX10_forecast (mkR I J) 1 x1 x2 x3 x4) := by
  have hC' := cF_C (v := 0) hC
  have F := okG_F (J := J) hC hk hf
  unfold fX9_forecast bX9_forecast_0 fX10_forecast bX10_forecast_0
  rw [C_f0 hC]
  simp only [Option.bind_some]
  by_cases h5 : ∃ k, k < 4 ∧ x1 = nI k
  · obtain ⟨k, hk4, rfl⟩ := h5
    rw [C_isSheet_i hk4, Option.bind_some, if_neg (by decide), R_noSheet_i hk4, Option.bind_some, if_pos rfl]
    by_cases h6 : 0 ≤ x2.toInt ∧ x2.toInt < 3
    · rw [C_below_t (n := 3) rfl h6, Option.bind_some, if_neg (by decide), R_in_t (a' := 0) (b' := 2) rfl rfl (by omega), Option.bind_some, if_neg (by decide), cP1_10 hC', Option.bind_some, cP42 hC' k hk4, Option.bind_some, cIssh hC' k hk4, Option.bind_some, rP53, Option.bind_some, rL40 rfl hk4, Option.bind_some]
      have b1 : m_I (cF S 0) (43 + 2 * k) = m_I S (43 + 2 * k) := cF_1 (by omega)
      have x4l := i_lo x4
      have x4h := i_hi x4
      rcases hk.2 k hk4 with ⟨a1, a2⟩ | ⟨ln, sz, a1, a2, a3, a4, a5, a6, a7⟩
      · rw [C_takingL_e hC' hk4 (by rw [b1]; exact a1), a2, if_pos (show (-1 : Int32) < 0 by decide), Option.bind_some, if_neg (by decide), cIs1 hC', Option.bind_some, C_comeTo hC', b2_s, cF_cF]
        unfold bX10_forecast_57
        rw [rP53, Option.bind_some, rL40 rfl hk4, a2, Option.bind_some, if_neg m1n, rIs, Option.bind_some, R_failed, b2_s, fin_r]
        exact F _ _
      · have e57 : bX10_forecast_57 (mkR I J) 1 (nI k) x3 x4 = (if 0 ≤ x4 then (if 0 ≤ x3.toInt ∧ x3.toInt + x4.toInt ≤ sz then b2 (fX10_read (mkR I J) 1 (60 * nI k + x3) x4) fun v114 S114 => (if v114 < 0 then
          (o_gI S114 1 11 44).bind fun v135 =>
          if v135 = (8 : Int32) then
            (o_is S114 1 11).bind fun _ =>
            b2 (fX10_refused S114 1 (-4 : Int32)) fun v146 S146 =>
            some (.inr (v146, S146))
          else
            (o_gP S114 1 11 45).bind fun v151 =>
            (o_gI S114 1 11 44).bind fun v155 =>
            (o_gI S114 1 11 49).bind fun v159 =>
            (o_st S114 v151 12 v155 v159).bind fun S162 =>
            some (.inl (1, (0 : Int32), S162))
        else
          (o_is S114 1 11).bind fun _ =>
          b2 (fX10_refused S114 1 ((-100 : Int32) - v114)) fun v130 S130 =>
          some (.inr (v130, S130))) else some (.inr (-10 - 3, mkR (rF I 3) J))) else some (.inr (-10 - 4, mkR (rF I 4) J))) := by
          unfold bX10_forecast_57
          rw [rP53, Option.bind_some, rL40 rfl hk4, a6, Option.bind_some, if_pos (nI_pos' (show sz < 2 ^ 31 by omega))]
          by_cases h8 : 0 ≤ x4
          · rw [if_pos h8, if_pos h8, Option.bind_some, rL40 rfl hk4, a6, Option.bind_some, R_beyond, nI_toInt (show sz < 2 ^ 31 by omega), Option.bind_some]
            have h8' : 0 ≤ x4.toInt := by rw [i_le, n0] at h8; exact h8
            by_cases h9 : 0 ≤ x3.toInt ∧ x3.toInt + x4.toInt ≤ sz
            · rw [if_pos h9, bz_f (fun q => q ⟨h9.1, h8', h9.2⟩), if_pos rfl, rIs, Option.bind_some]
            · rw [if_neg h9, bz_t (show ¬ (0 ≤ x3.toInt ∧ 0 ≤ x4.toInt ∧ x3.toInt + x4.toInt ≤ sz) from fun q => h9 ⟨q.1, q.2.2⟩), if_neg (by decide), rIs, Option.bind_some, R_failed, b2_s]
          · rw [if_neg h8, if_neg h8, rIs, Option.bind_some, R_failed, b2_s]
        rw [C_takingL (c := x4.toInt) hC' hk4 a2 a1 (by rw [b1]; exact a3) (by rw [b1]; exact a5) (i_l x4) (by omega) (by omega), a6, if_neg (nI_pos (show sz < 2 ^ 31 by omega)), rP54, Option.bind_some, Option.bind_some, rL41 rfl hk4, a4, Option.bind_some]
        unfold tkf
        by_cases h7 : nI ln = x2
        · rw [if_pos h7, if_pos h7, e57]
          by_cases h8 : 0 ≤ x4.toInt
          · rw [if_neg (show ¬ x4.toInt < 0 by omega), if_pos (show (0 : Int32) ≤ x4 by rw [i_le, n0]; exact h8)]
            by_cases h9 : 0 ≤ x3.toInt ∧ x3.toInt + x4.toInt ≤ sz
            · rw [if_pos h9, if_pos rfl, if_pos h9]
              obtain ⟨i, hi, rfl⟩ := i_nI (x := x3) (n := 61) h9.1 (by omega)
              obtain ⟨n, hn, rfl⟩ := i_nI (x := x4) (n := 61) h8 (by omega)
              rw [nI_toInt (by omega), nI_toInt (by omega)] at h9
              obtain ⟨S57, v1, v2, v3, v4⟩ := fore_in (J := J) (k := k) (x := i) (n := n) hC hk hf hk4 (by omega) (fun j hj => by rw [a7 _ (by omega), Nat.add_assoc])
              rw [n60, v1, Option.bind_some, cP1_10 v2, Option.bind_some, cP42 v2 k hk4, Option.bind_some, cPsh v2 k hk4, Option.bind_some, at_is v3, Option.bind_some]
              exact v4
            · rw [if_neg h9, if_neg (show ¬ (3 : Int32) = 0 by decide), if_neg h9, cIs1 hC', Option.bind_some, C_comeTo hC', b2_s, cF_cF, fin_r]
              exact F _ _
          · rw [if_pos (show x4.toInt < 0 by omega), if_neg (show ¬ (4 : Int32) = 0 by decide), if_neg (show ¬ (0 : Int32) ≤ x4 by rw [i_le, n0]; exact h8), cIs1 hC', Option.bind_some, C_comeTo hC', b2_s, cF_cF, fin_r]
            exact F _ _
        · rw [if_neg h7, if_neg h7, if_neg (show ¬ (2 : Int32) = 0 by decide), cIs1 hC', Option.bind_some, C_comeTo hC', b2_s, cF_cF, rIs, Option.bind_some, R_failed, b2_s, fin_r]
          exact F _ _
    · rw [C_below_f (n := 3) rfl h6, Option.bind_some, if_pos rfl, R_in_f (a' := 0) (b' := 2) rfl rfl (by omega), Option.bind_some, if_pos rfl, rIs, Option.bind_some, R_refused, b2_s, fin_r]
      exact F _ _
  · rw [C_isSheet_o h5, Option.bind_some, if_pos rfl, R_noSheet_o h5, Option.bind_some, if_neg (by decide), rIs, Option.bind_some, R_refused, b2_s, fin_r]
    exact F _ _
end FC6
