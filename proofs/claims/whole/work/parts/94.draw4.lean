/-! draw, from its first check on -/
section DZ
variable {S S' : MS} {I I' : Nat → Nat → Int32} {J : Nat → Nat → Int64} {np nw ep ew la lb na nb ea eb : Nat} {ps ws fs0 fs1 : Nat → Nat}
theorem l_3 (x : Int32) : ((3 : Int64) * x.toInt64).toInt = 3 * x.toInt := by
  have h1 := i_lo x
  have h2 := i_hi x
  have e3 : (3 : Int64).toInt = 3 := rfl
  rw [Int64.toInt_mul, e3, i_l, l_bm] <;> omega
theorem draw_ok (h : Cor S I np nw ep ew ps ws) (hk : KSh S I) (hf : i_fr S I la lb na nb ea eb fs0 fs1) (j1 : dj ep ea ∧ dj ep eb ∧ dj ew ea ∧ dj ew eb ∧ dj ea eb ∧ dj eb ea) (x1 x2 x3 x4 x5 x6 x7 x8 : Int32) : OkF S I J np nw ep ew la lb ea eb ps ws (fX9_draw S 1 x1 x2 x3 x4 x5 x6 x7 x8) (fX10_draw (mkR I J) 1 x1 x2 x3 x4 x5 x6 x7 x8) := by
  have hC := h.1.1
  have hC' := cF_C (v := 0) hC
  have F := okF_F (J := J) h hk hf
  have e12 : (12 : Int32).toInt = 12 := rfl
  unfold fX9_draw bX9_draw_0 bX9_draw_60 bX9_draw_40 fX10_draw bX10_draw_0 bX10_draw_112 bX10_draw_77
  rw [C_f0 hC, Option.bind_some]
  simp only [cIs1 hC', rIs, Option.bind_some, R_refused, R_failed, b2_s, C_comeTo hC', cF_cF]
  by_cases h5 : ∃ k, k < 4 ∧ x5 = nI k
  · obtain ⟨k, hk4, rfl⟩ := h5
    simp only [C_isSheet_i hk4, R_noSheet_i hk4, Option.bind_some, e10, if_false, if_true]
    by_cases h6 : 0 ≤ x6.toInt ∧ x6.toInt < 3
    · rw [C_below_t (n := 3) rfl h6, R_in_t (a' := 0) (b' := 2) rfl rfl (by omega)]
      simp only [Option.bind_some, e10, if_false]
      by_cases h1 : 0 ≤ x1.toInt ∧ x1.toInt < 2
      · rw [C_below_t (n := 2) rfl h1, R_in_t (a' := 0) (b' := 1) rfl rfl (by omega)]
        simp only [Option.bind_some, e10, if_false]
        by_cases h2 : 0 ≤ x2.toInt ∧ x2.toInt < 3
        · rw [C_below_t (n := 3) rfl h2, R_in_t (a' := 0) (b' := 2) rfl rfl (by omega)]
          simp only [Option.bind_some, e10, if_false]
          have l1 : (x3.toInt64 + 1 : Int64).toInt = x3.toInt + 1 := by
            have e1 : (1 : Int64).toInt = 1 := rfl
            have := i_lo x3
            have := i_hi x3
            rw [l_add, i_l, e1] <;> rw [i_l, e1] <;> omega
          by_cases h34 : 0 ≤ x3.toInt ∧ x3.toInt < x4.toInt ∧ x4.toInt < 12
          · have e11 : (11 : Int64).toInt = 11 := rfl
            rw [if_neg (show ¬ x3 < 0 by rw [i_lt, n0]; omega), if_neg (show ¬ x4 ≤ x3 by rw [i_le]; omega), if_pos (show x4 < 12 by rw [i_lt, e12]; omega), R_in_t (a' := 0) (b' := 11) rfl rfl (by omega), Option.bind_some, if_neg (by decide), R_in, i_l, l1, e11, bz_t (by omega), Option.bind_some, if_neg (by decide)]
            obtain ⟨d, hd, rfl⟩ := i_nI (n := 2) h1.1 h1.2
            obtain ⟨kd, hkd, rfl⟩ := i_nI (n := 3) h2.1 h2.2
            obtain ⟨a, ha, rfl⟩ := i_nI (x := x3) (n := 12) h34.1 (by omega)
            obtain ⟨b, hb, rfl⟩ := i_nI (x := x4) (n := 12) (by omega) (by omega)
            rw [nI_toInt (by omega), nI_toInt (by omega)] at h34
            simp only [cP1_10 hC', cP42 hC' k hk4, cIssh hC' k hk4, cPsh hC' k hk4, cP1_5 hC', cIs16 hC', rP53, rP54, rL40 rfl hk4, rL41 rfl hk4, Option.bind_some]
            have b1 : m_I (cF S 0) (43 + 2 * k) = m_I S (43 + 2 * k) := cF_1 (by omega)
            have x8l := i_lo x8
            have x8h := i_hi x8
            have ge0 : ((0 : Int).le x8.toInt) = (0 ≤ x8.toInt) := rfl
            rcases hk.2 k hk4 with ⟨a1, a2⟩ | ⟨ln, sz, a1, a2, a3, a4, a5, a6, a7⟩
            · rw [C_takingL_e hC' hk4 (by rw [b1]; exact a1), a2, if_pos (show (-1 : Int32) < 0 by decide), if_neg m1n]
              simp only [Option.bind_some, e10, if_false]
              exact F _ _
            · rw [C_takingL (c := 3 * x8.toInt) hC' hk4 a2 a1 (by rw [b1]; exact a3) (by rw [b1]; exact a5) (l_3 x8) (by omega) (by omega), a4, a6, if_neg (nI_pos (show sz < 2 ^ 31 by omega)), if_pos (nI_pos' (show sz < 2 ^ 31 by omega))]
              unfold tkf
              simp only [Option.bind_some]
              by_cases h7 : nI ln = x6
              · rw [if_pos h7, if_pos h7]
                by_cases h8 : 0 ≤ x8.toInt
                · rw [if_neg (show ¬ 3 * x8.toInt < 0 by omega), if_pos (show (0 : Int32) ≤ x8 by rw [i_le, n0]; exact h8), R_beyondL (c := 3 * x8.toInt) x7 (nI sz) (l_3 x8) (by omega) (by omega), nI_toInt (show sz < 2 ^ 31 by omega)]
                  simp only [Option.bind_some, bz_0, Decidable.not_not]
                  by_cases h9 : 0 ≤ x7.toInt ∧ x7.toInt + 3 * x8.toInt ≤ sz
                  · rw [if_pos h9, if_pos (show (0 : Int32) = 0 from rfl), if_pos ⟨h9.1, by omega, h9.2⟩]
                    obtain ⟨i, hi, rfl⟩ := i_nI (x := x7) (n := 61) h9.1 (by omega)
                    obtain ⟨n, hn, rfl⟩ := i_nI (x := x8) (n := 61) h8 (by omega)
                    rw [nI_toInt (by omega), nI_toInt (by omega)] at h9
                    rw [n60]
                    exact draw_in h hk hf j1 hk4 (show i + 3 * n ≤ 60 by omega) hd (by omega) (by omega) (fun j hj => by rw [a7 _ (by omega), Nat.add_assoc])
                  · rw [if_neg h9, if_neg (show ¬ (3 : Int32) = 0 by decide), if_neg (fun q => h9 ⟨q.1, q.2.2⟩)]
                    exact F _ _
                · rw [if_pos (show 3 * x8.toInt < 0 by omega), if_neg (show ¬ (4 : Int32) = 0 by decide), if_neg (show ¬ (0 : Int32) ≤ x8 by rw [i_le, n0]; exact h8)]
                  exact F _ _
              · rw [if_neg h7, if_neg h7, if_neg (show ¬ (2 : Int32) = 0 by decide)]
                exact F _ _
          · have hL : ∀ A B : Option (Int32 × MS), (if x3 < 0 then A else if x4 ≤ x3 then A else if x4 < 12 then B else A) = A := fun A B => by
              by_cases q1 : x3 < 0
              · rw [if_pos q1]
              · rw [if_neg q1]
                by_cases q2 : x4 ≤ x3
                · rw [if_pos q2]
                · rw [if_neg q2, if_neg (fun q3 => by
                    rw [i_lt, n0] at q1
                    rw [i_le] at q2
                    rw [i_lt, e12] at q3
                    omega)]
            rw [hL]
            have e11 : (11 : Int64).toInt = 11 := rfl
            by_cases h3 : 0 ≤ x3.toInt ∧ x3.toInt ≤ 11
            · rw [R_in_t (a' := 0) (b' := 11) rfl rfl h3, Option.bind_some, if_neg (by decide), R_in, i_l, l1, e11, bz_f (by omega), Option.bind_some, if_pos rfl]
              exact F _ _
            · rw [R_in_f (a' := 0) (b' := 11) rfl rfl h3, Option.bind_some, if_pos rfl]
              exact F _ _
        · rw [C_below_f (n := 3) rfl h2, R_in_f (a' := 0) (b' := 2) rfl rfl (by omega)]
          simp only [Option.bind_some, if_true]
          exact F _ _
      · rw [C_below_f (n := 2) rfl h1, R_in_f (a' := 0) (b' := 1) rfl rfl (by omega)]
        simp only [Option.bind_some, if_true]
        exact F _ _
    · rw [C_below_f (n := 3) rfl h6, R_in_f (a' := 0) (b' := 2) rfl rfl (by omega)]
      simp only [Option.bind_some, if_true]
      exact F _ _
  · simp only [C_isSheet_o h5, R_noSheet_o h5, Option.bind_some, e10, if_false, if_true]
    exact F _ _
end DZ
