/-! wire, whole -/
section WO
variable {S : MS} {I : Nat → Nat → Int32} {J : Nat → Nat → Int64} {np nw ep ew : Nat} {ps ws : Nat → Nat}
def OkW (S : MS) (I : Nat → Nat → Int32) (J : Nat → Nat → Int64) (np ep ew : Nat) (ps : Nat → Nat) (c r : Option (Int32 × MS)) : Prop := ∃ (x : Int32) (S' : MS) (I' : Nat → Nat → Int32) (nw' e' : Nat) (ws' : Nat → Nat), c = some (x, S') ∧ r = some (x, mkR I' J) ∧ Cor S' I' np nw' ep e' ps ws' ∧ KSh S' I' ∧ (e' = ew ∨ m_n S < e') ∧ FrC S S' [2, 4, 5, 6, 7] [2, 12] [4, ew] ∧ FrR I I' [8, 9, 10, 11, 12, 13] [0, 8, 18]
theorem okW_F (h : Cor S I np nw ep ew ps ws) (hk : KSh S I) (x v : Int32) : OkW S I J np ep ew ps (some (x, cF S v)) (some (x, mkR (rF I v) J)) :=
  ⟨x, _, _, nw, ew, ws, rfl, rfl, h.F v, hk.F h.1.1 v, .inl rfl, cF_f.mono (by simp) (by simp) (by simp), rF_f.mono (by simp) (by simp)⟩
/-- the new wire of the class is made and told -/
theorem C_wire2 (h : Cor S I np nw ep ew ps ws) (hk : KSh S I) (har : ep = 0 ∨ ep ≠ ew) {k i p : Nat} {x2 x3 : Int32} (hk4 : k < 4) (hi : i + 15 ≤ 60) (hp : p < np) (hn : nw < 30) {D : Nat → Int32} (hD : ∀ j, j < 15 → m_I S (44 + 2 * k) (i + j) = D j) (hd : ∀ j, j < 15 → dgR (D j)) : ∃ (S' : MS) (e' : Nat) (ws' : Nat → Nat), lim sX9_wire (1, nI p, x2, x3, nI i, 44 + 2 * k, nI (i + 15), cF S 0) = some (nI nw, S') ∧ Cor S' (addW I nw (nI p) x2 x3 D) np (nw + 1) ep e' ps ws' ∧ KSh S' (addW I nw (nI p) x2 x3 D) ∧ (e' = ew ∨ m_n S < e') ∧ FrC S S' [2, 4, 5, 6, 7] [2, 12] [4, ew] := by
  have hCo := h.F (S := S) (I := I) 0
  obtain ⟨hC, hP, hW, hDk⟩ := h.1
  have h80 := h.2.1.2
  have hC' := cF_C (v := 0) hC
  have hpn := hP.1
  have e15 : nI i + 15 = nI (i + 15) := nI_add i 15
  have P0 : Pos (cF S 0) I np ep ps := hP.fr cF_f ⟨by simp, by simp⟩ (by simp) (by simp) (.inr (by simp)) rfl (fun _ _ _ => rfl)
  have W0 : Wir (cF S 0) I np nw ew ws := hW.fr cF_f ⟨by simp, by simp⟩ (by simp) (by simp) (.inr (by simp)) rfl (fun _ _ => rfl) (Nat.le_refl _) (fun _ _ _ => rfl)
  have hD0 : ∀ j, j < 15 → m_I (cF S 0) (44 + 2 * k) (i + j) = D j := fun j hj => by rw [cF_1 (by omega)]; exact hD j hj
  have fF := cF_f (S := S) (v := 0)
  have nF : m_n (cF S 0) = m_n S := rfl
  have ev0 : i_ev (cF S 0) (rF I 0) := ev_F hk.1 0
  have g80 : m_I (cF S 0) 8 = m_I S 8 := cF_1 (by decide)
  have g20 : m_I (cF S 0) 2 = m_I S 2 := cF_1 (by decide)
  generalize hS0 : cF S 0 = S0 at *
  have h50 := hC'.1
  have hpc := (P0.2.2.1.2.2 p hp).2
  have hht := (P0.2.2.2 p hp).1.2.2.2.2.1
  rw [lim_eq]
  show ∃ S' e' ws', fin sX9_wire (bX9_wire_102 S0 1 (nI p) x2 x3 (nI i) (44 + 2 * k) (nI (i + 15))) = _ ∧ _
  unfold bX9_wire_102
  rw [e15, if_pos (nI_le (Nat.le_refl _) (by omega))]
  simp only [cP1_0 hC', cP2_0 hC', cP2_1 hC', at_is W0.2.2.1.1.1, L_size W0.2.2.1, at_is P0.2.2.1.1.1, L_get P0.2.2.1 hp, at_is hpc, at_gI hpc, hht, Option.bind_some, if_pos (show nI nw < 30 from nI_lt (b := 30) (by omega) (by omega))]
  have f1 : FrC S0 (m_new S0 9 0) [] [] [] := FrC.new (by omega)
  have o1 : m_at (m_new S0 9 0) (m_n S0 + 1) 9 := ⟨by omega, Nat.le_refl _, up_s⟩
  have n1 : m_n (m_new S0 9 0) = m_n S0 + 1 := rfl
  have C1 : CS (m_new S0 9 0) := hC'.fr f1 (by simp) (by simp)
  have r1 : m_I (m_new S0 9 0) (44 + 2 * k) = m_I S0 (44 + 2 * k) := f1.row hC' (by omega) (by omega) (by simp)
  obtain ⟨S2, c1, q2, l2, i2, n2, f2⟩ := C_copyRange (i := i) (cAt44 C1 k hk4) (cLn44 C1 k hk4) hi
  rw [e15] at c1
  have iD : ∀ x, x < 15 → m_I S2 (m_n (m_new S0 9 0) + 1) x = D x := fun x hx => by rw [i2 x hx, r1]; exact hD0 x hx
  obtain ⟨S3, c, c2, f3, hc, ⟨p4, p5⟩, ⟨cat, clen, ic⟩, j0, j3, j1, j2⟩ := C_wireInit (x1 := nI p) (x2 := I 5 p) (x3 := x2) (x4 := x3) (by omega) (o1.fr f2) q2 l2 (fun x hx => by rw [iD x hx]; exact hd x hx)
  have f13 : FrC S0 S3 [] [] [] := by
    refine FrC.big (b := m_n S0 + 1) (FrC.bigI (b := m_n S0 + 1) ?_ (by omega)) (by omega)
    exact ((f1.tr f2).mono (by simp) (by simp) (by simp)).tr f3
  have C3 : CS S3 := hC'.fr f13 (by simp) (by simp)
  have P3 := P0.fr (I' := I) f13 ⟨by simp, by simp⟩ (by simp) (by simp) (.inr (by simp)) rfl (fun _ _ _ => rfl)
  have W3 := W0.fr (I' := I) (np' := np) f13 ⟨by simp, by simp⟩ (by simp) (by simp) (.inr (by simp)) rfl (fun _ _ => rfl) (Nat.le_refl _) (fun _ _ _ => rfl)
  have o3 : m_at S3 (m_n S0 + 1) 9 := (o1.fr f2).fr f3
  have q3 : m_at S3 (m_n S0 + 1 + 1) 12 := q2.fr f3
  have lq3 : m_L S3 (m_n S0 + 1 + 1) = 15 := ((f3.2.1 _ q2.1 q2.2.1).2.1).trans l2
  have iq3 : ∀ x, x < 15 → m_I S3 (m_n S0 + 1 + 1) x = D x := fun x hx => (congrFun ((f3.2.1 _ q2.1 q2.2.1).2.2.1 (by omega) (by rw [List.mem_singleton, n1]; omega)) x).trans (iD x hx)
  have hEg : ∀ g, g < 3 → RD (Eg S2 (m_n (m_new S0 9 0) + 1) g) g = RD (fun x => D (5 * g + x)) g := fun g hg => RD_c (fun x hx => iD _ (by omega)) g
  obtain ⟨S4, e', c3, L4, f4, he'⟩ := L_add W3.2.2.1 (by decide) (by omega) (by unfold o_okk; decide) o3
  have eo := W3.2.2.1.e0
  have C4 : CS S4 := C3.fr f4 (fun t ht => by
    have := pCl_b t ht
    have := e_out C3 eo this.1 this.2.1
    simp; omega) (by
    have := e_out C3 eo (a := 1) (by omega) (by omega)
    simp; omega)
  have hn2 : m_n S2 = m_n S0 + 2 := by rw [n2, n1]
  have W4 : Wir S4 (addW I nw (nI p) x2 x3 D) np (nw + 1) e' (va_up ws nw (m_n S0 + 1)) := wir_add (q := m_n S0 + 1 + 1) (c := c) W0 P0 hn hC'.1 hp hd (by omega) (by omega) (by omega) f13 o3 q3 cat lq3 clen ⟨p4, p5⟩ iq3 (fun g hg => by rw [ic g hg, hEg g hg]) j0 j3 j1 j2 f4 L4 eo
  have k4 : m_K S3 4 = 0 := (C3.2.1 4 (by omega) (by omega)).1
  have fx4 : Fx S3 S4 [4] [4, ew] := ⟨by simp, fun a ha => by
    simp only [List.mem_cons, List.not_mem_nil, or_false] at ha
    rcases ha with ha | ha
    · rw [ha]; exact .inl k4
    · rcases eo with h0 | h0
      · omega
      · rw [ha]; exact .inr (.inl h0.2.2)⟩
  have P4 : Pos S4 (addW I nw (nI p) x2 x3 D) np ep ps := P3.fr f4 fx4 (by simp) (by
    have := e_out C3 eo (a := 3) (by omega) (by omega)
    simp; omega) (by
    rcases har with h0 | h0
    · exact .inl h0
    · rcases P3.2.2.1.e0 with h1 | h1
      · exact .inl h1
      · have := e_out C3 (.inr h1) (a := 4) (by omega) (by omega)
        right
        simp; omega) (addW_f.2 1 (by simp)) (fun r h1 h2 => addW_o (by omega) (by omega))
  have g2 : m_I S4 2 = m_I S 2 := (f4.row C3 (by omega) (by omega) (by simp)).trans ((f13.row hC' (by omega) (by omega) (by simp)).trans g20)
  have g8 : m_I S4 8 = m_I S 8 := (f4.row C3 (by omega) (by omega) (by simp)).trans ((f13.row hC' (by omega) (by omega) (by simp)).trans g80)
  obtain ⟨S5, c4, B5, s5, f5⟩ := C_again C4 P4 W4 (by rw [g2, addW_f.2 15 (by simp)]; exact hDk.1.1) (by rw [g2, addW_f.2 16 (by simp)]; exact hDk.1.2)
  have fT : FrC S0 S5 [2, 4, 5, 6, 7] [2, 12] [4, ew] := ((f13.mono (by simp) (by simp) (by simp)).tr (f4.mono (by simp) (by simp) (by simp))).tr (f5.mono (by simp) (by simp) (by simp))
  have fTT : FrC S S5 [2, 4, 5, 6, 7] [2, 12] [4, ew] := (fF.mono (by simp) (by simp) (by simp)).tr fT
  refine ⟨S5, e', va_up ws nw (m_n S0 + 1), ?_, ⟨B5, ⟨.inl s5, ?_⟩, .inl rfl⟩, ⟨⟨?_, ?_⟩, hk.2.fr hC fTT addW_f (by simp) (by simp)⟩, ?_, fTT⟩
  · simp only [c1, b2_s, c2, at_is W3.2.2.1.1.1, c3, cIs1 C4, c4, cP1_0 B5.1, cP2_1 B5.1, at_is B5.2.2.1.2.2.1.1.1, L_size B5.2.2.1.2.2.1, Option.bind_some, nI_pred, fin_r]
  · rw [f5.row C4 (a := 8) (by omega) (by omega) (by simp), g8, addW_f.2 17 (by simp)]
    exact h80
  · have : FrC S0 S5 [2, 4, 5, 6, 7] [2] [4, ew] := ((f13.mono (by simp) (by simp) (by simp)).tr (f4.mono (by simp) (by simp) (by simp))).tr (f5.mono (by simp) (by simp) (by simp))
    rw [this.2.2 12 (by simp), ← hS0, cF_s]
    rfl
  · rw [fT.2.2 11 (by simp), addW_f.2 57 (by simp), ev0.2, rF_o (by decide)]
  · refine he'.imp_right (fun x => ?_)
    have := f13.1
    omega
theorem wire_ok (h : Cor S I np nw ep ew ps ws) (hk : KSh S I) (har : ep = 0 ∨ ep ≠ ew) (x1 x2 x3 x4 x5 x6 : Int32) : OkW S I J np ep ew ps (fX9_wire S 1 x1 x2 x3 x4 x5 x6) (fX10_wire (mkR I J) 1 x1 x2 x3 x4 x5 x6) := by
  obtain ⟨hC, hP, hW, hD⟩ := h.1
  have hn := hP.1
  have hnw := hW.1
  have hC' := cF_C (v := 0) hC
  have P0 : Pos (cF S 0) I np ep ps := hP.fr cF_f ⟨by simp, by simp⟩ (by simp) (by simp) (.inr (by simp)) rfl (fun _ _ _ => rfl)
  have W0 : Wir (cF S 0) I np nw ew ws := hW.fr cF_f ⟨by simp, by simp⟩ (by simp) (by simp) (.inr (by simp)) rfl (fun _ _ => rfl) (Nat.le_refl _) (fun _ _ _ => rfl)
  have F := okW_F (J := J) h hk
  unfold fX9_wire bX9_wire_0 bX9_wire_52 bX9_wire_21 fX10_wire bX10_wire_0 bX10_wire_94 bX10_wire_59 bX10_wire_16
  rw [C_f0 hC, Option.bind_some]
  simp only [cIs1 hC', rIs, C_isPost hC' P0, R_noPost hn hP.2.1, Option.bind_some, R_refused, R_failed, b2_s, C_comeTo hC', cF_cF]
  by_cases h1 : 0 ≤ x1.toInt ∧ x1.toInt < np
  · obtain ⟨p, hp, rfl⟩ := i_nI h1.1 h1.2
    have z1 := bz_t h1
    have z0 := bz_f (fun q => q h1 : ¬ ¬ (0 ≤ (nI p).toInt ∧ (nI p).toInt < np))
    simp only [z1, z0, e10, if_false, if_true]
    by_cases h4 : ∃ k, k < 4 ∧ x4 = nI k
    · obtain ⟨k, hk4, rfl⟩ := h4
      simp only [C_isSheet_i hk4, R_noSheet_i hk4, Option.bind_some, e10, if_false, if_true]
      by_cases h5 : 0 ≤ x5.toInt ∧ x5.toInt < 3
      · rw [C_below_t (n := 3) rfl h5, R_in_t (a' := 0) (b' := 2) rfl rfl (by omega)]
        simp only [Option.bind_some, e10, if_false, C_isWithin, n0, n99, R_inI x2 (a := 0) (b := 99) (a' := 0) (b' := 99) rfl rfl, R_inI x3 (a := 0) (b := 99) (a' := 0) (b' := 99) rfl rfl]
        by_cases h2 : 0 ≤ x2.toInt ∧ x2.toInt ≤ 99
        · simp only [bz_t h2, e10, if_false]
          by_cases h3 : 0 ≤ x3.toInt ∧ x3.toInt ≤ 99
          · simp only [bz_t h3, e10, if_false]
            simp only [cP1_10 hC', cP42 hC' k hk4, cIssh hC' k hk4, rP53, rP54, rL40 rfl hk4, rL41 rfl hk4, Option.bind_some]
            have b1 : m_I (cF S 0) (43 + 2 * k) = m_I S (43 + 2 * k) := cF_1 (by omega)
            rcases hk.2 k hk4 with ⟨a1, a2⟩ | ⟨ln, sz, a1, a2, a3, a4, a5, a6, a7⟩
            · rw [C_takingL_e hC' hk4 (by rw [b1]; exact a1), a2, if_pos (show (-1 : Int32) < 0 by decide), if_neg m1n]
              simp only [Option.bind_some, e10, if_false, fin_r]
              exact F _ _
            · rw [C_takingL (c := 15) hC' hk4 a2 a1 (by rw [b1]; exact a3) (by rw [b1]; exact a5) rfl (by omega) (by omega), a4, a6, if_neg (nI_pos (by omega)), if_pos (nI_pos' (show sz < 2 ^ 31 by omega))]
              unfold tkf
              simp only [Option.bind_some]
              by_cases h6 : nI ln = x5
              · rw [if_pos h6, if_pos h6, if_neg (show ¬ (15 : Int) < 0 by omega), R_beyondL (c := 15) x6 (nI sz) rfl (by omega) (by omega), nI_toInt (show sz < 2 ^ 31 by omega)]
                simp only [Option.bind_some, bz_0, Decidable.not_not]
                by_cases h7 : 0 ≤ x6.toInt ∧ x6.toInt + 15 ≤ sz
                · rw [if_pos h7, if_pos (show (0 : Int32) = 0 from rfl), if_pos ⟨h7.1, by omega, h7.2⟩]
                  obtain ⟨i, hi, rfl⟩ := i_nI (x := x6) (n := 46) h7.1 (by omega)
                  rw [nI_toInt (by omega)] at h7
                  have hD : ∀ j, j < 15 → m_I S (44 + 2 * k) (i + j) = I 42 (60 * k + i + j) := fun j hj => by rw [a7 _ (by omega), Nat.add_assoc]
                  simp only [cPsh hC' k hk4, Option.bind_some, fin_l]
                  have q1 := C_wire1 (p := nI p) (x2 := x2) (x3 := x3) hC' hk4 (show i + 15 ≤ 60 by omega) (D := fun j => I 42 (60 * k + i + j)) (fun j hj => by rw [cF_1 (by omega)]; exact hD j hj)
                  have q2 := R_wire1 (I := I) (J := J) (p := nI p) (x2 := x2) (x3 := x3) hk4 (show i + 15 ≤ 60 by omega)
                  show OkW S I J np ep ew ps (lim sX9_wire (1, nI p, x2, x3, nI i, 44 + 2 * k, nI (i + 0), cF S 0)) (lim sX10_wire (.inl (1, nI p, x2, x3, nI k, nI i, nI 0, mkR I J)))
                  by_cases h8 : ∀ j, j < 15 → dgR (I 42 (60 * k + i + j))
                  · have q1 := (q1.resolve_right (fun z => z.2 h8)).1
                    have q2 := (q2.resolve_right (fun z => z.2 h8)).1
                    rw [q1, q2]
                    by_cases h9 : nw = 30
                    · have e15 : nI i + 15 = nI (i + 15) := nI_add i 15
                      rw [lim_eq, lim_eq]
                      show OkW S I J np ep ew ps (fin sX9_wire (bX9_wire_102 (cF S 0) 1 (nI p) x2 x3 (nI i) (44 + 2 * k) (nI (i + 15)))) (fin sX10_wire (bX10_wire_137 (mkR I J) 1 (nI p) x2 x3 (nI k) (nI i) (nI 15)))
                      unfold bX9_wire_102 bX10_wire_137
                      rw [e15, if_pos (nI_le (Nat.le_refl _) (by omega)), if_pos (by decide)]
                      simp only [cP1_0 hC', cP2_1 hC', at_is W0.2.2.1.1.1, L_size W0.2.2.1, rI, hW.2.1, Option.bind_some, h9, rIs, R_refused, b2_s]
                      rw [if_neg (by decide), if_pos (by decide), fin_r, fin_r]
                      exact F _ _
                    · have hn30 : nw < 30 := by omega
                      obtain ⟨S', e', ws', c1, c2, c3, c4, c5⟩ := C_wire2 (x2 := x2) (x3 := x3) h hk har hk4 (show i + 15 ≤ 60 by omega) hp hn30 (D := fun j => I 42 (60 * k + i + j)) hD h8
                      rw [c1, R_wire2 hk4 (by omega) hn30 hW.2.1 h8]
                      exact ⟨nI nw, S', _, nw + 1, e', ws', rfl, rfl, c2, c3, c4, c5, addW_f⟩
                  · have q1 := (q1.resolve_left (fun z => h8 z.2)).1
                    have q2 := (q2.resolve_left (fun z => h8 z.2)).1
                    rw [q1, q2]
                    exact F _ _
                · rw [if_neg h7, if_neg (show ¬ (3 : Int32) = 0 by decide), if_neg (fun q => h7 ⟨q.1, q.2.2⟩)]
                  simp only [fin_r]
                  exact F _ _
              · rw [if_neg h6, if_neg h6, if_neg (show ¬ (2 : Int32) = 0 by decide)]
                simp only [fin_r]
                exact F _ _
          · simp only [bz_f h3, if_true, fin_r]
            exact F _ _
        · simp only [bz_f h2, if_true, fin_r]
          exact F _ _
      · rw [C_below_f (n := 3) rfl h5, R_in_f (a' := 0) (b' := 2) rfl rfl (by omega)]
        simp only [Option.bind_some, if_true, fin_r]
        exact F _ _
    · simp only [C_isSheet_o h4, R_noSheet_o h4, Option.bind_some, e10, if_false, if_true, fin_r]
      exact F _ _
  · simp only [bz_f h1, bz_t h1, e10, if_false, if_true, fin_r]
    exact F _ _
end WO
