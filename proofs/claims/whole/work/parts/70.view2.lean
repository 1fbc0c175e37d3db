/-! view -/
section VX
variable {S S' : MS} {I I' : Nat → Nat → Int32} {J : Nat → Nat → Int64} {np nw ep ew : Nat} {ps ws : Nat → Nat}
theorem view_ok (h : Cor S I np nw ep ew ps ws) (x1 x2 : Int32) : ∃ (x : Int32) (S' : MS) (I' : Nat → Nat → Int32), fX9_view S 1 x1 x2 = some (x, S') ∧ fX10_view (mkR I J) 1 x1 x2 = some (x, mkR I' J) ∧ Cor S' I' np nw ep ew ps ws ∧ FrC S S' [2, 5, 6, 7] [2] [] ∧ FrR I I' [14, 15, 16, 17, 18] [15, 16, 18, 19, 23] := by
  have hB := h.1
  have hC := hB.1
  have hn := hB.2.1.1
  have h80 := h.2.1.2
  have no : ∃ (x : Int32) (S' : MS) (I' : Nat → Nat → Int32), (some ((-2 : Int32), S) : Option (Int32 × MS)) = some (x, S') ∧ (some ((-2 : Int32), mkR I J) : Option (Int32 × MS)) = some (x, mkR I' J) ∧ Cor S' I' np nw ep ew ps ws ∧ FrC S S' [2, 5, 6, 7] [2] [] ∧ FrR I I' [14, 15, 16, 17, 18] [15, 16, 18, 19, 23] := ⟨_, S, I, rfl, rfl, h, FrC.rf, FrR.rf⟩
  unfold fX9_view bX9_view_0 bX9_view_20 fX10_view bX10_view_0 bX10_view_24
  have e99 : (99 : Int32).toInt = 99 := rfl
  simp only [C_isWithin, e99, n0, R_inI x1 (a := 0) (b := 99) (a' := 0) (b' := 99) rfl rfl, R_inI x2 (a := 0) (b := 99) (a' := 0) (b' := 99) rfl rfl, Option.bind_some]
  by_cases h1 : 0 ≤ x1.toInt ∧ x1.toInt ≤ 99
  · by_cases h2 : 0 ≤ x2.toInt ∧ x2.toInt ≤ 99
    · have z1 := bz_t h1
      have z2 := bz_t h2
      have hC1 : CS (m_sI S 2 (upd (m_I S 2) 2 x1)) := hC
      have hs : ∀ (K : Nat → Nat → Int32) (k : Nat) (v : Int32), o_sI (mkR K J) 1 11 k v = some (mkR (va_up K 1 (upd (K 1) k v)) J) := fun K k v => rSI k v
      simp only [z1, z2, e10, if_false, cP1_0 hC, cSI2 hC, cP1_0 hC1, cSI2 hC1, mI_same, sI_sI, hs, up_s, up_up, Option.bind_some]
      generalize hS1 : m_sI S 2 (upd (upd (m_I S 2) 2 x1) 3 x2) = S1
      generalize hI1 : va_up I 1 (upd (upd (upd (I 1) 15 x1) 16 x2) 18 0) = I1
      have f1 : FrC S S1 [2, 5, 6, 7] [2] [] := by rw [← hS1]; exact FrC.sI (by decide) (by simp)
      have g1 : FrR I I1 [14, 15, 16, 17, 18] [15, 16, 18, 19, 23] := by
        rw [← hI1]
        refine ⟨fun b hb _ => up_n hb, fun k hk => ?_⟩
        simp only [List.mem_cons, List.not_mem_nil, or_false, not_or] at hk
        rw [up_s, upd_n hk.2.2.1, upd_n hk.2.1, upd_n hk.1]
      have C1 : CS S1 := by rw [← hS1]; exact hC
      have fx : Fx S S1 [2, 5, 6, 7] [] := ⟨by simp, by simp⟩
      have P1 : Pos S1 I1 np ep ps := hB.2.1.fr f1 fx (by simp) (by simp) (.inr (by simp)) (g1.2 1 (by simp)) (fun r a b => g1.1 r (by omega) (by simp; omega))
      have W1 : Wir S1 I1 np nw ew ws := hB.2.2.1.fr f1 fx (by simp) (by simp) (.inr (by simp)) (g1.2 8 (by simp)) (fun p _ => by rw [g1.1 5 (by decide) (by simp)]) (Nat.le_refl _) (fun r a b => g1.1 r (by omega) (by simp; omega))
      have e22 : m_I S1 2 2 = I1 1 15 := by rw [← hS1, ← hI1, mI_same, upd_n (by decide), upd_s, up_s, upd_n (by decide), upd_n (by decide), upd_s]
      have e23 : m_I S1 2 3 = I1 1 16 := by rw [← hS1, ← hI1, mI_same, upd_s, up_s, upd_n (by decide), upd_s]
      obtain ⟨S2, s1, B2, s2, f2⟩ := C_again C1 P1 W1 e22 e23
      have h18 : I1 1 18 = 0 := by rw [← hI1, up_s, upd_s]
      obtain ⟨I2, r1, g2, r3, r4⟩ := R_lay (J := J) B2.raw h18
      have B3 := B2.rawR g2
      have h17 : I2 1 17 = I 1 17 := by rw [g2.2 17 (by simp), ← hI1, up_s, upd_n (by decide), upd_n (by decide), upd_n (by decide)]
      have h8 : m_I S2 8 0 = I2 1 17 := by rw [f2.row C1 (a := 8) (by omega) (by omega) (by simp), f1.row hC (a := 8) (by omega) (by omega) (by simp), h17]; exact h80
      have hmk : mk (inV I2 nw) np < 4096 := Nat.lt_of_lt_of_le (mk_lt _ np) (by
        have : 2 ^ np ≤ 2 ^ 12 := Nat.pow_le_pow_right (by decide) hn
        exact this)
      simp only [cIs1 C1, s1, cP1_0 B2.1, cI2 B2.1, B3.2.2.2.2.1.1, C_bits _ hmk, pop_mk hn, rIs, r1, rI, r4.1, Option.bind_some]
      exact ⟨_, S2, I2, rfl, rfl, ⟨B3, ⟨.inl s2, h8⟩, .inr ⟨r3, r4⟩⟩, f1.tr f2, g1.tr (g2.mono (by simp) (by simp))⟩
    · simp only [bz_t h1, bz_f h2, e10, if_false, if_true]
      exact no
  · simp only [bz_f h1, if_true]
    exact no
end VX
