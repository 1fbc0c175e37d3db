/-! beside, drift -/
/-- how many, sum of sizes, sum of differences, up to a place -/
def cst (V K : Nat → Int32) (u v : Int32) : Nat → Int32 × Int32 × Int32
  | 0 => (0, 0, 0)
  | j + 1 => if car V u v (nI (j % 12)) (nI (j / 12)) = -9 ∨ K j = -9 then cst V K u v j
    else ((cst V K u v j).1 + 1, (cst V K u v j).2.1 + ab (car V u v (nI (j % 12)) (nI (j / 12)) - K j), (cst V K u v j).2.2 + (car V u v (nI (j % 12)) (nI (j / 12)) - K j))
theorem ab_b {x : Int32} {m : Int} (hm : m < 2147483648) (h : -m ≤ x.toInt ∧ x.toInt ≤ m) : 0 ≤ (ab x).toInt ∧ (ab x).toInt ≤ m := by
  unfold ab
  by_cases h0 : x < 0
  · rw [if_pos h0]
    rw [i_lt, n0] at h0
    rw [i_neg (by omega)]
    omega
  · rw [if_neg h0]
    rw [i_lt, n0] at h0
    omega
theorem n1i : (1 : Int32).toInt = 1 := rfl
theorem cst_b {V K : Nat → Int32} (hV : ∀ k, k < 144 → vB (V k)) (hK : ∀ k, k < 144 → vB (K k)) (u v : Int32) : ∀ j, j ≤ 144 → (0 ≤ (cst V K u v j).1.toInt ∧ (cst V K u v j).1.toInt ≤ j) ∧ (0 ≤ (cst V K u v j).2.1.toInt ∧ (cst V K u v j).2.1.toInt ≤ 2000 * j) ∧ -(2000 * j) ≤ (cst V K u v j).2.2.toInt ∧ (cst V K u v j).2.2.toInt ≤ 2000 * j := by
  intro j
  induction j with
  | zero =>
    intro _
    show (0 ≤ (0 : Int32).toInt ∧ (0 : Int32).toInt ≤ ((0 : Nat) : Int)) ∧ (0 ≤ (0 : Int32).toInt ∧ (0 : Int32).toInt ≤ 2000 * ((0 : Nat) : Int)) ∧ -(2000 * ((0 : Nat) : Int)) ≤ (0 : Int32).toInt ∧ (0 : Int32).toInt ≤ 2000 * ((0 : Nat) : Int)
    decide
  | succ j ih =>
    intro hj
    obtain ⟨⟨a1, a2⟩, ⟨b1, b2⟩, c1, c2⟩ := ih (by omega)
    unfold cst
    by_cases h : car V u v (nI (j % 12)) (nI (j / 12)) = -9 ∨ K j = -9
    · rw [if_pos h]
      exact ⟨⟨a1, by omega⟩, ⟨b1, by omega⟩, by omega, by omega⟩
    · rw [if_neg h]
      have h1 := (car_b hV u v (nI (j % 12)) (nI (j / 12))).resolve_left (fun q => h (.inl q))
      have h2 := (hK j (by omega)).resolve_left (fun q => h (.inr q))
      generalize car V u v (nI (j % 12)) (nI (j / 12)) = c at h1
      have hd : (c - K j).toInt = c.toInt - (K j).toInt := i_sub (by omega) (by omega)
      have ha := ab_b (x := c - K j) (m := 2000) (by omega) (by omega)
      refine ⟨?_, ?_, ?_⟩
      · show 0 ≤ ((cst V K u v j).1 + 1).toInt ∧ ((cst V K u v j).1 + 1).toInt ≤ _
        rw [i_add (by rw [n1i]; omega) (by rw [n1i]; omega), n1i]
        omega
      · show 0 ≤ ((cst V K u v j).2.1 + ab (c - K j)).toInt ∧ ((cst V K u v j).2.1 + ab (c - K j)).toInt ≤ _
        rw [i_add (by omega) (by omega)]
        omega
      · show _ ≤ ((cst V K u v j).2.2 + (c - K j)).toInt ∧ ((cst V K u v j).2.2 + (c - K j)).toInt ≤ _
        rw [i_add (by omega) (by omega), hd]
        omega
theorem l_64 {x y : Int32} (h1 : -2147483648 ≤ x.toInt + y.toInt) (h2 : x.toInt + y.toInt < 2147483648) : x.toInt64 + y.toInt64 = (x + y).toInt64 := by
  rw [l_eq, i_l, i_add h1 h2, l_add, i_l, i_l] <;> rw [i_l, i_l] <;> omega
def cB (S : MS) (t : Int32 × Int32 × Int32) : MS := m_sI S 8 (upd (upd (upd (m_I S 8) 5 t.1) 6 t.2.1) 7 t.2.2)
def rB (I : Nat → Nat → Int32) (t : Int32 × Int32 × Int32) : Nat → Nat → Int32 := va_up I 1 (upd (I 1) 41 t.1)
def jB (J : Nat → Nat → Int64) (t : Int32 × Int32 × Int32) : Nat → Nat → Int64 := va_up J 1 (va_up (va_up (J 1) 42 t.2.1.toInt64) 43 t.2.2.toInt64)
section BE
variable {S : MS} {I : Nat → Nat → Int32} {J : Nat → Nat → Int64} {np nw ep ew : Nat} {ps ws : Nat → Nat} {V K : Nat → Int32}
theorem cB_cB (t t' : Int32 × Int32 × Int32) : cB (cB S t) t' = cB S t' := by
  unfold cB
  rw [mI_same, sI_sI]
  congr 1
  funext k
  unfold upd
  split
  · rfl
  · split
    · rfl
    · split
      · rfl
      · rfl
theorem rB_rB (t t' : Int32 × Int32 × Int32) : rB (rB I t) t' = rB I t' := by
  unfold rB
  rw [up_s, up_up, upd_upd]
theorem va3 {f : Nat → Int64} {a b a' b' : Int64} : va_up (va_up (va_up (va_up f 42 a) 43 b) 42 a') 43 b' = va_up (va_up f 42 a') 43 b' := by
  funext k
  unfold va_up
  split
  · rfl
  · split
    · rfl
    · rfl
theorem jB_jB (t t' : Int32 × Int32 × Int32) : jB (jB J t) t' = jB J t' := by
  unfold jB
  rw [up_s, up_up, va3]
theorem cB_f (t : Int32 × Int32 × Int32) : FrC S (cB S t) [8] [] [] := FrC.sI (by decide) (by simp)
theorem rB_f (t : Int32 × Int32 × Int32) : FrR I (rB I t) [] [41] := FrR.up1 (by decide)
theorem cB_C {t : Int32 × Int32 × Int32} (h : CS S) : CS (cB S t) := h
theorem cB_o {t : Int32 × Int32 × Int32} {a : Nat} (h : a ≠ 8) : m_I (cB S t) a = m_I S a := mI_ne h
theorem Cor.B (h : Cor S I np nw ep ew ps ws) (t t' : Int32 × Int32 × Int32) : Cor (cB S t) (rB I t') np nw ep ew ps ws := by
  have h1 : Cor (cB S t) I np nw ep ew ps ws := by
    obtain ⟨hB, ⟨hc, h80⟩, hl⟩ := h
    refine ⟨hB.fr (cB_f t) (by simp) rfl, ⟨?_, ?_⟩, hl⟩
    · rw [cB_o (by decide)]
      refine hc.imp_right (fun x => ⟨x.1, ?_⟩)
      unfold Stt
      have e83 : m_I (cB S t) 8 3 = m_I S 8 3 := by
        unfold cB
        rw [mI_same, upd_n (by decide), upd_n (by decide), upd_n (by decide)]
      rw [cB_o (show (9 : Nat) ≠ 8 by decide), cB_o (show (10 : Nat) ≠ 8 by decide), cB_o (show (11 : Nat) ≠ 8 by decide), e83]
      exact x.2
    · unfold cB
      rw [mI_same, upd_n (by decide), upd_n (by decide), upd_n (by decide)]
      exact h80
  exact h1.fr (S' := cB S t) (PI := []) (Q := []) (PL := []) h1.1.1 FrC.rf ⟨by simp, by simp⟩ (by simp) (by simp) (by simp) (by simp) (.inr (by simp)) (.inr (by simp)) (rB_f t') (by simp) (by simp)
theorem C_compare {k : Nat} (hC : CS S) (hk : k < 4) (hV : ∀ j, j < 144 → m_I S 11 j = V j) (hK : ∀ j, j < 144 → m_I S (36 + k) j = K j) (u v : Int32) : fX0_compare S 8 u v (36 + k) = some (cB S (cst V K u v 144)) := by
  have h0 : m_sI S 8 (upd (upd (upd (m_I S 8) 5 0) 6 0) 7 0) = cB S (cst V K u v 0) := rfl
  have C1 : ∀ f : Nat → Int32, CS (m_sI S 8 f) := fun _ => hC
  unfold fX0_compare bX0_compare_0
  have c8 : ∀ (f : Nat → Int32) (k : Nat) (v : Int32), o_sI (m_sI S 8 f) 8 1 k v = some (m_sI S 8 (upd f k v)) := fun f k v => by rw [cSI8 (C1 f), mI_same, sI_sI]
  rw [cSI8 hC, Option.bind_some, c8, Option.bind_some, c8, Option.bind_some, h0, fin_l]
  refine lim_it2 (step := sX0_compare) (st := fun j => (8, u, v, 36 + k, nI j, cB S (cst V K u v j))) 144 (fun j hj => ?_) ?_
  · show bX0_compare_18 (cB S (cst V K u v j)) 8 u v (36 + k) (nI j) = _
    generalize ht : cst V K u v j = t
    have Ct : CS (cB S t) := hC
    have hV' : ∀ j, j < 144 → m_I (cB S t) 11 j = V j := fun j hj => by rw [cB_o (by decide)]; exact hV j hj
    have hK' : m_I (cB S t) (36 + k) j = K j := by rw [cB_o (by omega)]; exact hK j hj
    have e1 : nI j - nI j / (12 : Int32) * (12 : Int32) = nI (j % 12) := nI_rem (b := 12) (by omega) (by omega) (by omega)
    have e2 : nI j / (12 : Int32) = nI (j / 12) := nI_div (b := 12) (by omega) (by omega) (by omega)
    have hld : ∀ f : Nat → Int32, o_ld (m_sI (cB S t) 8 f) (36 + k) 12 (nI j) = some (K j) := fun f => by
      rw [at_ld (S := m_sI (cB S t) 8 f) (n := 144) (cAt36 Ct k hk) (cLn36 Ct k hk) (by decide) rfl hj, mI_ne (by omega), hK']
    have hld0 : o_ld (cB S t) (36 + k) 12 (nI j) = some (K j) := by
      rw [at_ld (n := 144) (cAt36 Ct k hk) (cLn36 Ct k hk) (by decide) rfl hj, hK']
    have Cf : ∀ f : Nat → Int32, CS (m_sI (cB S t) 8 f) := fun _ => hC
    unfold bX0_compare_18 bX0_compare_105
    rw [if_neg (show ¬ (144 : Int32) ≤ nI j from nI_ge (b := 144) hj (by omega)), cIs8 Ct, Option.bind_some, e1, e2, C_carried Ct hV', Option.bind_some, hld0]
    have hcs : cst V K u v (j + 1) = if car V u v (nI (j % 12)) (nI (j / 12)) = -9 ∨ K j = -9 then t else (t.1 + 1, t.2.1 + ab (car V u v (nI (j % 12)) (nI (j / 12)) - K j), t.2.2 + (car V u v (nI (j % 12)) (nI (j / 12)) - K j)) := by rw [← ht]; rfl
    rw [hcs]
    generalize car V u v (nI (j % 12)) (nI (j / 12)) = c
    by_cases h1 : c = -9
    · rw [if_pos h1, if_pos (.inl h1), Option.bind_some, nI_1]
    · rw [if_neg h1, Option.bind_some]
      by_cases h2 : K j = -9
      · rw [if_pos h2, if_pos (.inr h2), Option.bind_some, nI_1]
      · rw [if_neg h2, if_neg (fun q => q.elim h1 h2)]
        have g5 : m_I (cB S t) 8 = upd (upd (upd (m_I S 8) 5 t.1) 6 t.2.1) 7 t.2.2 := mI_same
        have c8 : ∀ (f : Nat → Int32) (k : Nat) (v : Int32), o_sI (m_sI (cB S t) 8 f) 8 1 k v = some (m_sI (cB S t) 8 (upd f k v)) := fun f k v => by rw [cSI8 (Cf f), mI_same, sI_sI]
        have c9 : ∀ (f : Nat → Int32) (k : Nat), o_gI (m_sI (cB S t) 8 f) 8 1 k = some (f k) := fun f k => by rw [cI8 (Cf f), mI_same]
        simp only [cI8 Ct, cSI8 Ct, c8, c9, hld, C_abs, Option.bind_some, nI_1]
        congr 7
        show m_sI (m_sI S 8 _) 8 _ = _
        rw [sI_sI]
        unfold cB
        congr 1
        rw [mI_same]
        funext m
        unfold upd
        by_cases m7 : m = 7
        · simp [m7]
        · by_cases m6 : m = 6
          · simp [m6]
          · by_cases m5 : m = 5
            · simp [m5]
            · simp [m7, m6, m5]
  · show bX0_compare_18 (cB S (cst V K u v 144)) 8 u v (36 + k) (nI 144) = _
    unfold bX0_compare_18
    rw [if_pos (by decide)]
theorem R_layBeside {k : Nat} (hk : k < 4) (hV : ∀ j, j < 144 → I 17 j = V j) (hK : ∀ j, j < 144 → I 32 (144 * k + j) = K j) (bV : ∀ k, k < 144 → vB (V k)) (bK : ∀ k, k < 144 → vB (K k)) (u v : Int32) : fX10_layBeside (mkR I J) 1 u v (nI k) = some (mkR (rB I (cst V K u v 144)) (jB J (cst V K u v 144))) := by
  have hs : ∀ (A : Nat → Nat → Int32) (B : Nat → Nat → Int64) (k : Nat) (v : Int32), o_sI (mkR A B) 1 11 k v = some (mkR (va_up A 1 (upd (A 1) k v)) B) := fun A B k v => rSI k v
  have hj : ∀ (A : Nat → Nat → Int32) (B : Nat → Nat → Int64) (k : Nat) (v : Int64), o_sJ (mkR A B) 1 11 k v = some (mkR A (va_up B 1 (va_up (B 1) k v))) := fun A B k v => rSJ k v
  have h0 : mkR (va_up I 1 (upd (I 1) 41 0)) (va_up J 1 (va_up (va_up (J 1) 42 0) 43 0)) = mkR (rB I (cst V K u v 0)) (jB J (cst V K u v 0)) := rfl
  unfold fX10_layBeside bX10_layBeside_0
  simp only [hs, hj, Option.bind_some, up_s, up_up, fin_l]
  rw [h0]
  refine lim_it2 (step := sX10_layBeside) (st := fun j => (1, u, v, nI k, nI j, mkR (rB I (cst V K u v j)) (jB J (cst V K u v j)))) 144 (fun j hj144 => ?_) ?_
  · show bX10_layBeside_18 (mkR (rB I (cst V K u v j)) (jB J (cst V K u v j))) 1 u v (nI k) (nI j) = _
    have hb := cst_b bV bK u v j (by omega)
    have hcs : cst V K u v (j + 1) = if car V u v (nI (j % 12)) (nI (j / 12)) = -9 ∨ K j = -9 then cst V K u v j else ((cst V K u v j).1 + 1, (cst V K u v j).2.1 + ab (car V u v (nI (j % 12)) (nI (j / 12)) - K j), (cst V K u v j).2.2 + (car V u v (nI (j % 12)) (nI (j / 12)) - K j)) := rfl
    have hcb := car_b bV u v (nI (j % 12)) (nI (j / 12))
    rw [hcs]
    generalize cst V K u v j = t at hb
    have e1 : nI j - nI j / (12 : Int32) * (12 : Int32) = nI (j % 12) := nI_rem (b := 12) (by omega) (by omega) (by omega)
    have e2 : nI j / (12 : Int32) = nI (j / 12) := nI_div (b := 12) (by omega) (by omega) (by omega)
    have g17 : ∀ j, j < 144 → rB I t 17 j = V j := fun j hj => by rw [show rB I t 17 = I 17 from up_n (by decide)]; exact hV j hj
    have g32 : rB I t 32 (144 * k + j) = K j := by rw [show rB I t 32 = I 32 from up_n (by decide)]; exact hK j hj144
    unfold bX10_layBeside_18 bX10_layBeside_116
    rw [if_neg (show ¬ (144 : Int32) ≤ nI j from nI_ge (b := 144) hj144 (by omega)), rIs, Option.bind_some, e1, e2, R_moved g17, Option.bind_some, rP40, Option.bind_some, n144, rL32 rfl (show 144 * k + j < 576 by omega), Option.bind_some, g32]
    generalize car V u v (nI (j % 12)) (nI (j / 12)) = c at hcb
    by_cases h1 : c = -9
    · rw [if_pos h1, if_pos (.inl h1), Option.bind_some, nI_1]
    · rw [if_neg h1]
      by_cases h2 : K j = -9
      · rw [if_pos h2, if_pos (.inr h2), Option.bind_some, nI_1]
      · rw [if_neg h2, if_neg (fun q => q.elim h1 h2)]
        have b1 := hcb.resolve_left h1
        have b2 := (bK j hj144).resolve_left h2
        obtain ⟨⟨a1, a2⟩, ⟨a3, a4⟩, a5, a6⟩ := hb
        have hd : (c - K j).toInt = c.toInt - (K j).toInt := i_sub (by omega) (by omega)
        have ha := ab_b (x := c - K j) (m := 2000) (by omega) (by omega)
        have k41 : rB I t 1 41 = t.1 := by
          unfold rB
          rw [up_s, upd_s]
        have k42 : jB J t 1 42 = t.2.1.toInt64 := by
          unfold jB
          rw [up_s, up_n (by decide), up_s]
        have k43 : jB J t 1 43 = t.2.2.toInt64 := by
          unfold jB
          rw [up_s, up_s]
        simp only [rI, rJ, hs, hj, R_sizeOf, Option.bind_some, k41, k42, up_s, up_up, up_n (show (43 : Nat) ≠ 42 by decide), k43, nI_1, l_64 (show -2147483648 ≤ t.2.1.toInt + (ab (c - K j)).toInt by omega) (show t.2.1.toInt + (ab (c - K j)).toInt < 2147483648 by omega), l_64 (show -2147483648 ≤ t.2.2.toInt + (c - K j).toInt by omega) (show t.2.2.toInt + (c - K j).toInt < 2147483648 by omega)]
        congr 7
        unfold rB jB
        simp only [up_s, up_up, upd_upd, va3]
  · show bX10_layBeside_18 (mkR (rB I (cst V K u v 144)) (jB J (cst V K u v 144))) 1 u v (nI k) (nI 144) = _
    unfold bX10_layBeside_18
    rw [if_pos (by decide)]
theorem R_lost : fX10_lost = some (-9223372036854775808) := rfl
theorem beside_ok (h : Cor S I np nw ep ew ps ws) (hk : i_ke S I) (x1 x2 x3 x4 : Int32) : OkJ S I np nw ep ew ps ws (fX9_beside S 1 x1 x2 x3 x4) (fX10_beside (mkR I J) 1 x1 x2 x3 x4) [8, 9, 10, 11] [2] [14, 15, 16, 17, 18] [18, 19, 23, 41] := by
  have no : ∀ v : Int64, OkJ S I np nw ep ew ps ws (some (v, S)) (some (v, mkR I J)) [8, 9, 10, 11] [2] [14, 15, 16, 17, 18] [18, 19, 23, 41] := fun v => ⟨v, S, I, J, rfl, rfl, h, FrC.rf, FrR.rf⟩
  have e2i : (2 : Int32).toInt = 2 := rfl
  unfold fX9_beside bX9_beside_0 bX9_beside_53 bX9_beside_22 fX10_beside bX10_beside_0 bX10_beside_87 bX10_beside_42
  simp only [C_isWithin, nm11, n11, n0, e2i, R_isShift, R_lost, R_inI x4 (a := 0) (b := 2) (a' := 0) (b' := 2) rfl rfl, Option.bind_some]
  by_cases h1 : -11 ≤ x1.toInt ∧ x1.toInt ≤ 11
  · by_cases h2 : -11 ≤ x2.toInt ∧ x2.toInt ≤ 11
    · simp only [bz_t h1, bz_t h2, bz_t (show (-11 ≤ x1.toInt ∧ x1.toInt ≤ 11) ∧ -11 ≤ x2.toInt ∧ x2.toInt ≤ 11 from ⟨h1, h2⟩), e10, if_false]
      by_cases h4 : 0 ≤ x4.toInt ∧ x4.toInt ≤ 2
      · simp only [bz_t h4, e10, if_false]
        by_cases h3 : 0 ≤ x3.toInt ∧ x3.toInt < 4
        · rw [C_below_t (n := 4) rfl h3, R_in_t (a' := 0) (b' := 3) rfl rfl (by omega)]
          obtain ⟨k, hk4, rfl⟩ := i_nI (n := 4) h3.1 h3.2
          simp only [Option.bind_some, e10, if_false, cP1_8 h.1.1, cL40 h.1.1 rfl hk4, rP39, rL31 rfl hk4, (hk k hk4).1]
          by_cases h5 : I 31 k = 0
          · rw [if_pos h5, if_pos h5]
            exact no _
          · rw [if_neg h5, if_neg h5]
            obtain ⟨S', I', c1, r1, hc, f1, f2, v1, v2, hraw, -⟩ := h.both (J := J)
            have hC := hc.1.1
            have i36 : i_ke S' I' := hk.fr h.1.1 f1 f2 (by simp) (by simp)
            have h5' : ¬ I' 31 k = 0 := by rw [f2.1 31 (by decide) (by simp)]; exact h5
            have hKK := (i36 k hk4).2.resolve_left h5'
            have q1 := C_compare (k := k) (V := val I' np nw) (K := fun j => I' 32 (144 * k + j)) hC hk4 v1 (fun j hj => (hKK j hj).1) x1 x2
            have q2 := R_layBeside (J := J) (k := k) (V := val I' np nw) (K := fun j => I' 32 (144 * k + j)) hk4 v2 (fun j hj => rfl) (fun j _ => val_b hraw j) (fun j hj => (hKK j hj).2) x1 x2
            have bb := cst_b (V := val I' np nw) (K := fun j => I' 32 (144 * k + j)) (fun j _ => val_b hraw j) (fun j hj => (hKK j hj).2) x1 x2 144 (Nat.le_refl _)
            generalize cst (val I' np nw) (fun j => I' 32 (144 * k + j)) x1 x2 144 = t at q1 q2 bb
            have hCB : CS (cB S' t) := hC
            have k5 : m_I (cB S' t) 8 5 = t.1 := by
              unfold cB
              rw [mI_same, upd_n (by decide), upd_n (by decide), upd_s]
            have k6 : m_I (cB S' t) 8 6 = t.2.1 := by
              unfold cB
              rw [mI_same, upd_n (by decide), upd_s]
            have k7 : m_I (cB S' t) 8 7 = t.2.2 := by
              unfold cB
              rw [mI_same, upd_s]
            have k41 : rB I' t 1 41 = t.1 := by
              unfold rB
              rw [up_s, upd_s]
            have k42 : jB J t 1 42 = t.2.1.toInt64 := by
              unfold jB
              rw [up_s, up_n (by decide), up_s]
            have k43 : jB J t 1 43 = t.2.2.toInt64 := by
              unfold jB
              rw [up_s, up_s]
            have fin : ∀ x : Int64, OkJ S I np nw ep ew ps ws (some (x, cB S' t)) (some (x, mkR (rB I' t) (jB J t))) [8, 9, 10, 11] [2] [14, 15, 16, 17, 18] [18, 19, 23, 41] := fun x => ⟨x, _, _, _, rfl, rfl, hc.B t t, f1.tr ((cB_f t).mono (by simp) (by simp) (by simp)), (f2.mono (by simp) (by simp)).tr ((rB_f t).mono (by simp) (by simp))⟩
            simp only [cIs1 h.1.1, rIs, c1, r1, b2_s, cP1_7 hC, cP35 hC k hk4, cIs8 hC, q1, q2, cI8 hCB, k5, k6, k7, rI, rJ, k41, k42, k43, Option.bind_some]
            by_cases e0 : x4 = 0
            · rw [if_pos e0, if_pos e0]; exact fin _
            · rw [if_neg e0, if_neg e0]
              by_cases e1 : x4 = 1
              · rw [if_pos e1, if_pos e1]; exact fin _
              · rw [if_neg e1, if_neg e1]; exact fin _
        · rw [C_below_f (n := 4) rfl h3, R_in_f (a' := 0) (b' := 3) rfl rfl (by omega)]
          simp only [Option.bind_some, if_true]
          exact no _
      · simp only [bz_f h4, if_true]
        exact no _
    · simp only [bz_t h1, bz_f h2, bz_f (show ¬ ((-11 ≤ x1.toInt ∧ x1.toInt ≤ 11) ∧ -11 ≤ x2.toInt ∧ x2.toInt ≤ 11) from fun q => h2 q.2), e10, if_false, if_true]
      exact no _
  · simp only [bz_f h1, bz_f (show ¬ ((-11 ≤ x1.toInt ∧ x1.toInt ≤ 11) ∧ -11 ≤ x2.toInt ∧ x2.toInt ≤ 11) from fun q => h1 q.1), if_true]
    exact no _
end BE
