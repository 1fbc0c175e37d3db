/-! post, whole -/
section PQ
variable {S : MS} {I : Nat → Nat → Int32} {J : Nat → Nat → Int64} {np nw ep ew : Nat} {ps ws : Nat → Nat}
theorem kC_15 : ∀ a, a ≤ 50 → kC a ≠ 15 := by decide
theorem e_out (hC : CS S) {e : Nat} (h : e = 0 ∨ m_at S e 15) {a : Nat} (h0 : 0 < a) (h1 : a ≤ 50) : a ≠ e := by
  intro q
  rcases h with h | h
  · omega
  · have h2 := (hC.2.1 a h0 h1).1
    rw [q, h.2.2] at h2
    exact kC_15 e (by omega) h2.symm
theorem pCl_b : ∀ t ∈ pCl, 0 < t.1 ∧ t.1 ≤ 50 ∧ t.1 ≠ 3 ∧ t.1 ≠ 4 ∧ t.1 ≠ 41 := by decide
theorem Lst.e0 {l n kd e : Nat} {xs : Nat → Nat} (h : Lst S l n kd e xs) : e = 0 ∨ m_at S e 15 := by
  rcases h.2.1 with h | h
  · exact .inl h.1
  · exact .inr h.1
theorem post_ok (h : Cor S I np nw ep ew ps ws) (har : ew = 0 ∨ ew ≠ ep) (x1 x2 x3 x4 x5 x6 : Int32) : ∃ (x : Int32) (S' : MS) (I' : Nat → Nat → Int32) (np' e' : Nat) (ps' : Nat → Nat), fX9_post S 1 x1 x2 x3 x4 x5 x6 = some (x, S') ∧ fX10_post (mkR I J) 1 x1 x2 x3 x4 x5 x6 = some (x, mkR I' J) ∧ Cor S' I' np' nw e' ew ps' ws ∧ (e' = ep ∨ m_n S < e') ∧ FrC S S' [2, 3, 5, 6, 7] [2] [3, ep] ∧ FrR I I' [2, 3, 4, 5, 6, 7] [1, 18] := by
  have hB := h.1
  obtain ⟨hC, hP, hW, hD⟩ := hB
  have hn := hP.1
  have h80 := h.2.1.2
  have no : ∀ v : Int32, ∃ (x : Int32) (S' : MS) (I' : Nat → Nat → Int32) (np' e' : Nat) (ps' : Nat → Nat), (some (v, S) : Option (Int32 × MS)) = some (x, S') ∧ (some (v, mkR I J) : Option (Int32 × MS)) = some (x, mkR I' J) ∧ Cor S' I' np' nw e' ew ps' ws ∧ (e' = ep ∨ m_n S < e') ∧ FrC S S' [2, 3, 5, 6, 7] [2] [3, ep] ∧ FrR I I' [2, 3, 4, 5, 6, 7] [1, 18] := fun v => ⟨v, S, I, np, ep, ps, rfl, rfl, h, .inl rfl, FrC.rf, FrR.rf⟩
  have e3000 : (3000 : Int32).toInt = 3000 := rfl
  have e20 : (20 : Int32).toInt = 20 := rfl
  have em20 : (-20 : Int32).toInt = -20 := rfl
  unfold fX9_post bX9_post_0 bX9_post_55 bX9_post_28 fX10_post bX10_post_0 bX10_post_63
  simp only [C_isPlace, R_isPlace, C_isWithin, e3000, e20, em20, n0, R_inI x4 (a := 0) (b := 3000) (a' := 0) (b' := 3000) rfl rfl, R_inI x5 (a := -20) (b := 20) (a' := -20) (b' := 20) rfl rfl, R_inI x6 (a := -20) (b := 20) (a' := -20) (b' := 20) rfl rfl, Option.bind_some]
  by_cases c1 : 0 ≤ x1.toInt ∧ x1.toInt < 3
  · rw [C_below_t (n := 3) rfl c1, R_in_t (a' := 0) (b' := 2) rfl rfl (by omega)]
    simp only [Option.bind_some, e10, if_false]
    by_cases c2 : (0 ≤ x2.toInt ∧ x2.toInt ≤ 11) ∧ 0 ≤ x3.toInt ∧ x3.toInt ≤ 11
    · simp only [bPl_t c2, e10, if_false]
      by_cases c4 : 0 ≤ x4.toInt ∧ x4.toInt ≤ 3000
      · simp only [bz_t c4, e10, if_false]
        by_cases c5 : -20 ≤ x5.toInt ∧ x5.toInt ≤ 20
        · simp only [bz_t c5, e10, if_false]
          by_cases c6 : -20 ≤ x6.toInt ∧ x6.toInt ≤ 20
          · simp only [bz_t c6, e10, if_false]
            have e12' : (nI np = 12) = (np = 12) := propext (nI_eq (b := 12) (by omega) (by omega))
            simp only [cP1_0 hC, cP2_0 hC, at_is hP.2.2.1.1.1, L_size hP.2.2.1, rI, hP.2.1, e12', Option.bind_some]
            by_cases c7 : np = 12
            · rw [if_neg (by rw [c7]; decide), if_pos c7]
              exact no _
            · rw [if_pos (show nI np < 12 from nI_lt (b := 12) (by omega) (by omega)), if_neg c7]
              have hnp : np < 12 := by omega
              obtain ⟨S1, i1, f1, a1, j0, j1, j2, j3, j4, j5⟩ := C_newPost hC x1 x2 x3 x4 x5 x6
              have fx1 : Fx S S1 [] [] := ⟨by simp, by simp⟩
              have L1 := hP.2.2.1.fr f1 (by decide) (by simp) (by simp) (.inr (by simp))
              obtain ⟨S2, e', i2, L2, f2, he'⟩ := L_add L1 (by decide) (by omega) (.inr (.inr (.inl rfl))) a1
              have C1 := hC.fr f1 (by simp) (by simp)
              have eo := L1.e0
              have C2 : CS S2 := C1.fr f2 (fun t ht => by
                have := pCl_b t ht
                have := e_out C1 eo this.1 this.2.1
                simp; omega) (by
                have := e_out C1 eo (a := 1) (by omega) (by omega)
                simp; omega)
              have hcl := hP.2.2.1.1.1
              have P2 := pos_add (x1 := x1) (x2 := x2) (x3 := x3) (x4 := x4) (x5 := x5) (x6 := x6) hP hnp hC.1 (show m_n S < m_n S + 1 by omega) f1 f2 a1 j0 j1 j2 j3 j4 j5 L2 ⟨c1, c2, c4, c5, c6⟩
              have W1 := hW.fr (I' := I) (np' := np) f1 fx1 (by simp) (by simp) (.inr (by simp)) rfl (fun _ _ => rfl) (Nat.le_refl _) (fun _ _ _ => rfl)
              have k3 : m_K S1 3 = 0 := (C1.2.1 3 (by omega) (by omega)).1
              have fx2 : Fx S1 S2 [3] [3, ep] := ⟨by simp, fun a ha => by
                simp only [List.mem_cons, List.not_mem_nil, or_false] at ha
                rcases ha with ha | ha
                · rw [ha]; exact .inl k3
                · rcases eo with h0 | h0
                  · omega
                  · rw [ha]; exact .inr (.inl h0.2.2)⟩
              have W2 := W1.fr (I' := addP I np x1 x2 x3 x4 x5 x6) (np' := np + 1) f2 fx2 (by simp) (by
                have := e_out C1 eo (a := 4) (by omega) (by omega)
                simp; omega) (by
                rcases har with h0 | h0
                · exact .inl h0
                · refine .inr ?_
                  have : ew = 0 ∨ m_at S1 ew 15 := W1.2.2.1.e0
                  rcases this with h1 | h1
                  · simp; omega
                  · have := e_out C1 (.inr h1) (a := 3) (by omega) (by omega)
                    simp; omega) (addP_f.2 8 (by simp)) (fun p hp => by rw [addP_5, upd_n (by omega)]) (by omega) (fun r h1 h2 => addP_o (by omega))
              have g2 : m_I S2 2 = m_I S 2 := (f2.row C1 (by omega) (by omega) (by simp)).trans (f1.row hC (by omega) (by omega) (by simp))
              have g8 : m_I S2 8 = m_I S 8 := (f2.row C1 (by omega) (by omega) (by simp)).trans (f1.row hC (by omega) (by omega) (by simp))
              obtain ⟨S3, i3, B3, s3, f3⟩ := C_again C2 P2 W2 (by rw [g2, addP_f.2 15 (by simp)]; exact hD.1.1) (by rw [g2, addP_f.2 16 (by simp)]; exact hD.1.2)
              have hC' : (fX6_init (m_new S 7 0) (m_n S + 1) x1 x2 x3 x4 x5 x6) = some S1 := i1
              have hs : ∀ (K : Nat → Nat → Int32) (k : Nat) (v : Int32), o_sI (mkR K J) 1 11 k v = some (mkR (va_up K 1 (upd (K 1) k v)) J) := fun K k v => rSI k v
              have n1 : m_n S ≤ m_n S1 := f1.1
              refine ⟨nI np, S3, addP I np x1 x2 x3 x4 x5 x6, np + 1, e', va_up ps np (m_n S + 1), ?_, ?_, ⟨B3, ⟨.inl s3, ?_⟩, .inl ?_⟩, he'.imp_right (fun x => by omega), ?_, addP_f⟩
              · simp only [i1, at_is L1.1.1, i2, b2_s, cIs1 C2, i3, cP1_0 B3.1, cP2_0 B3.1, at_is B3.2.1.2.2.1.1.1, L_size B3.2.1.2.2.1, Option.bind_some]
                rw [nI_pred]
              · simp only [rP2, rP3, rP4, rP5, rP6, rP7, rI, rS2 rfl hnp, rS3 rfl hnp, rS4 rfl hnp, rS5 rfl hnp, rS6 rfl hnp, rS7 rfl hnp, hs, hP.2.1, up_n (show (1 : Nat) ≠ 2 by decide), up_n (show (1 : Nat) ≠ 3 by decide), up_n (show (1 : Nat) ≠ 4 by decide), up_n (show (1 : Nat) ≠ 5 by decide), up_n (show (1 : Nat) ≠ 6 by decide), up_n (show (1 : Nat) ≠ 7 by decide), up_s, up_up, upd_s, upd_n (show (1 : Nat) ≠ 18 by decide), nI_1, nI_pred, Option.bind_some]
                unfold addP
                simp only [up_n (show (1 : Nat) ≠ 2 by decide), up_n (show (1 : Nat) ≠ 3 by decide), up_n (show (1 : Nat) ≠ 4 by decide), up_n (show (1 : Nat) ≠ 5 by decide), up_n (show (1 : Nat) ≠ 6 by decide), up_n (show (1 : Nat) ≠ 7 by decide)]
              · rw [f3.row C2 (a := 8) (by omega) (by omega) (by simp), g8, addP_f.2 17 (by simp)]
                exact h80
              · rw [addP_1, upd_s]
              · exact ((f1.mono (by simp) (by simp) (by simp)).tr (f2.mono (by simp) (by simp) (by simp))).tr (f3.mono (by simp) (by simp) (by simp))
          · simp only [bz_f c6, if_true]
            exact no _
        · simp only [bz_f c5, if_true]
          exact no _
      · simp only [bz_f c4, if_true]
        exact no _
    · have z : bPl x2 x3 = 0 := bz_f c2
      simp only [z, if_true]
      exact no _
  · rw [C_below_f (n := 3) rfl c1, R_in_f (a' := 0) (b' := 2) rfl rfl (by omega)]
    simp only [Option.bind_some, if_true]
    exact no _
end PQ
