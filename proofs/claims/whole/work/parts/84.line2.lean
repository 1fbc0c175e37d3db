/-! line, whole -/
section LW2
variable {S : MS} {I : Nat → Nat → Int32} {J : Nat → Nat → Int64} {np nw ep ew : Nat} {ps ws : Nat → Nat} {V : Nat → Int32} {v : Int32}
theorem C_pieces0 {b : Bool} (hC : CS S) (hV : ∀ k, k < 144 → m_I S 11 k = V k) : ∃ S', lim sX0_countPieces (.inl (8, v, b01 b, nI 0, S)) = lim sX0_countPieces (.inr (8, nI 0, nI 0, S')) ∧ FrC S S' [12, 13] [] [] ∧ ∀ p, p < 144 → m_I S' 12 p = if tgt V v b p = true then 0 else 1 := by
  obtain ⟨s, ⟨S', hs, f, k12⟩, he⟩ := lim_inv (step := sX0_countPieces) (K := fun j s => ∃ S', s = .inl (8, v, b01 b, nI j, S') ∧ FrC S S' [12, 13] [] [] ∧ ∀ p, p < j → m_I S' 12 p = if tgt V v b p = true then 0 else 1) 144 (s0 := .inl (8, v, b01 b, nI 0, S)) ⟨S, rfl, FrC.rf, fun p hp => by omega⟩ (fun j hj s hs => by
    obtain ⟨S', rfl, f, k12⟩ := hs
    have hC' : CS S' := hC.fr f (by simp) (by simp)
    have h11 : m_I S' 11 j = V j := by rw [f.row hC (a := 11) (by omega) (by omega) (by simp)]; exact hV j hj
    refine ⟨.inl (8, v, b01 b, nI (j + 1), m_sI S' 12 (upd (m_I S' 12) j (if tgt V v b j = true then 0 else 1))), ?_, _, rfl, f.tr (FrC.sI (by decide) (by simp)), fun p hp => ?_⟩
    · show bX0_countPieces_2 S' 8 v (b01 b) (nI j) = _
      unfold bX0_countPieces_2 bX0_countPieces_29 bX0_countPieces_38 tgt
      simp only [if_neg (show ¬ (144 : Int32) ≤ nI j from nI_ge (b := 144) hj (by omega)), cP8_8 hC', cP8_4 hC', cL11 hC' rfl hj, h11, Option.bind_some, zb0, zb1, nI_1, cS12 hC' rfl hj]
      by_cases h : v ≤ V j <;> cases b <;> simp [h, b01]
    · rw [mI_same]
      by_cases hpj : p = j
      · rw [hpj, upd_s]
      · rw [upd_n hpj]; exact k12 p (by omega))
  refine ⟨S', ?_, f, k12⟩
  rw [he, hs, lim_eq]
  show fin sX0_countPieces (bX0_countPieces_2 S' 8 v (b01 b) (nI 144)) = _
  unfold bX0_countPieces_2
  rw [if_pos (by decide)]
  rfl
theorem R_pieces0 {b : Bool} : ∃ I', lim sX10_piecesOf (.inl (1, v, b01 b, nI 0, mkR I J)) = lim sX10_piecesOf (.inr (1, v, b01 b, nI 0, nI 0, mkR I' J)) ∧ FrR I I' [19, 20] [] ∧ ∀ p, p < 144 → I' 20 p = b01 false := by
  obtain ⟨s, ⟨I', hs, f, k20⟩, he⟩ := lim_inv (step := sX10_piecesOf) (K := fun j s => ∃ I', s = .inl (1, v, b01 b, nI j, mkR I' J) ∧ FrR I I' [19, 20] [] ∧ ∀ p, p < j → I' 20 p = b01 false) 144 (s0 := .inl (1, v, b01 b, nI 0, mkR I J)) ⟨I, rfl, FrR.rf, fun p hp => by omega⟩ (fun j hj s hs => by
    obtain ⟨I', rfl, f, k20⟩ := hs
    refine ⟨.inl (1, v, b01 b, nI (j + 1), mkR (va_up I' 20 (upd (I' 20) j 0)) J), ?_, _, rfl, f.tr (FrR.up (by decide) (by simp)), fun p hp => ?_⟩
    · show bX10_piecesOf_2 (mkR I' J) 1 v (b01 b) (nI j) = _
      unfold bX10_piecesOf_2
      simp only [if_neg (show ¬ (144 : Int32) ≤ nI j from nI_ge (b := 144) hj (by omega)), rP27, rS20 rfl hj, Option.bind_some, nI_1]
    · rw [up_s]
      by_cases hpj : p = j
      · rw [hpj, upd_s]; rfl
      · rw [upd_n hpj]; exact k20 p (by omega))
  refine ⟨I', ?_, f, k20⟩
  rw [he, hs, lim_eq]
  show fin sX10_piecesOf (bX10_piecesOf_2 (mkR I' J) 1 v (b01 b) (nI 144)) = _
  unfold bX10_piecesOf_2
  rw [if_pos (by decide)]
  rfl
theorem pieces_both {b : Bool} (hC : CS S) (hVC : ∀ k, k < 144 → m_I S 11 k = V k) (hVR : ∀ k, k < 144 → I 17 k = V k) : ∃ n S' I', fX0_countPieces S 8 v (b01 b) = some (nI n, S') ∧ fX10_piecesOf (mkR I J) 1 v (b01 b) = some (nI n, mkR I' J) ∧ FrC S S' [12, 13] [] [] ∧ FrR I I' [19, 20] [] := by
  obtain ⟨S1, c1, f1, k1⟩ := C_pieces0 (v := v) (b := b) hC hVC
  obtain ⟨I1, r1, g1, q1⟩ := R_pieces0 (I := I) (J := J) (v := v) (b := b)
  have all : ∀ j, j ≤ 144 → ∃ n S' I' sn, lim sX0_countPieces (.inr (8, nI 0, nI 0, S1)) = lim sX0_countPieces (.inr (8, nI n, nI j, S')) ∧ lim sX10_piecesOf (.inr (1, v, b01 b, nI 0, nI 0, mkR I1 J)) = lim sX10_piecesOf (.inr (1, v, b01 b, nI n, nI j, mkR I' J)) ∧ FrC S S' [12, 13] [] [] ∧ FrR I I' [19, 20] [] ∧ (∀ p, p < 144 → m_I S' 12 p = if lft V v b sn p = true then 0 else 1) ∧ ∀ p, p < 144 → I' 20 p = b01 (sn p) := by
    intro j
    induction j with
    | zero => intro _; exact ⟨0, S1, I1, fun _ => false, rfl, rfl, f1, g1, fun p hp => by rw [k1 p hp]; rfl, q1⟩
    | succ j ih =>
      intro hj
      obtain ⟨n, S2, I2, sn, a1, a2, a3, a4, a5, a6⟩ := ih (by omega)
      have hj : j < 144 := by omega
      have C2 : CS S2 := hC.fr a3 (by simp) (by simp)
      have h17 : ∀ k, k < 144 → I2 17 k = V k := fun k hk => by rw [a4.1 17 (by decide) (by simp)]; exact hVR k hk
      have hmg := R_mayGo (J := J) (v := v) (b := b) (sn := sn) h17 a6 hj
      rw [a1, a2, lim_eq, lim_eq]
      show ∃ n' S' I' sn', fin sX0_countPieces (bX0_countPieces_50 S2 8 (nI n) (nI j)) = _ ∧ fin sX10_piecesOf (bX10_piecesOf_27 (mkR I2 J) 1 v (b01 b) (nI n) (nI j)) = _ ∧ _
      unfold bX0_countPieces_50 bX10_piecesOf_27 bX0_countPieces_77 bX10_piecesOf_57
      simp only [if_neg (show ¬ (144 : Int32) ≤ nI j from nI_ge (b := 144) hj (by omega)), cP8_8 C2, cL12 C2 rfl hj, a5 j hj, rIs, hmg, Option.bind_some, cIs8 C2, nI_1]
      by_cases hu : lft V v b sn j = true
      · obtain ⟨S3, D, d1, d2, d3, d4⟩ := C_reachPiece C2 a5 hj hu
        obtain ⟨I3, D', e1, e2, e3, e4⟩ := R_fill (J := J) h17 a6 hj hu
        have hDD : ∀ p, D p = D' p := d4.u e4
        simp only [hu, if_true, show (b01 true = 0) = False by decide, if_false, d1, e1, Option.bind_some, fin_l]
        refine ⟨n + 1, S3, I3, fun p => sn p || D p, rfl, rfl, a3.tr d2, a4.tr e2, fun p hp => ?_, fun p hp => ?_⟩
        · rw [d3 p hp]
          have : lft V v b (fun p => sn p || D p) p = (lft V v b sn p && !D p) := by
            show (!(sn p || D p) && tgt V v b p) = ((!sn p && tgt V v b p) && !D p)
            generalize sn p = u1
            generalize D p = u2
            generalize tgt V v b p = u3
            cases u1 <;> cases u2 <;> cases u3 <;> rfl
          rw [this]
        · rw [e3 p hp, ← hDD p]
      · have hu' : lft V v b sn j = false := by simpa using hu
        simp only [hu', Bool.false_eq_true, if_false, e10, show (b01 false = 0) = True from eq_true rfl, if_true, fin_l]
        exact ⟨n, S2, I2, sn, rfl, rfl, a3, a4, a5, a6⟩
  obtain ⟨n, S2, I2, sn, a1, a2, a3, a4, a5, a6⟩ := all 144 (Nat.le_refl _)
  refine ⟨n, S2, I2, ?_, ?_, a3, a4⟩
  · unfold fX0_countPieces bX0_countPieces_0
    rw [fin_l, show lim sX0_countPieces (.inl (8, v, b01 b, 0, S)) = _ from c1, a1]
    apply lim_end
    show bX0_countPieces_50 S2 8 (nI n) (nI 144) = _
    unfold bX0_countPieces_50
    rw [if_pos (by decide)]
  · unfold fX10_piecesOf bX10_piecesOf_0
    rw [fin_l, show lim sX10_piecesOf (.inl (1, v, b01 b, 0, mkR I J)) = _ from r1, a2]
    apply lim_end
    show bX10_piecesOf_27 (mkR I2 J) 1 v (b01 b) (nI n) (nI 144) = _
    unfold bX10_piecesOf_27
    rw [if_pos (by decide)]
def OkD {α : Type} (S : MS) (I : Nat → Nat → Int32) (J : Nat → Nat → Int64) (np nw ep ew : Nat) (ps ws : Nat → Nat) (c r : Option (α × MS)) (PI Q P QR : List Nat) : Prop :=
  ∃ (x : α) (S' : MS) (I' : Nat → Nat → Int32), c = some (x, S') ∧ r = some (x, mkR I' J) ∧ Cor S' I' np nw ep ew ps ws ∧ FrC S S' PI Q [] ∧ FrR I I' P QR
theorem line_ok (h : Cor S I np nw ep ew ps ws) (x1 x2 : Int32) : OkD S I J np nw ep ew ps ws (fX9_line S 1 x1 x2) (fX10_line (mkR I J) 1 x1 x2) [8, 9, 10, 11, 12, 13] [2] [14, 15, 16, 17, 18, 19, 20] [18, 19, 23] := by
  have no : ∀ v : Int32, OkD S I J np nw ep ew ps ws (some (v, S)) (some (v, mkR I J)) [8, 9, 10, 11, 12, 13] [2] [14, 15, 16, 17, 18, 19, 20] [18, 19, 23] := fun v => ⟨v, S, I, rfl, rfl, h, FrC.rf, FrR.rf⟩
  have e20000 : (20000 : Int32).toInt = 20000 := rfl
  have e4i : (4 : Int32).toInt = 4 := rfl
  unfold fX9_line bX9_line_0 bX9_line_20 fX10_line bX10_line_0 bX10_line_24
  simp only [C_isWithin, n0, e20000, e4i, R_inI x1 (a := 0) (b := 20000) (a' := 0) (b' := 20000) rfl rfl, R_inI x2 (a := 0) (b := 4) (a' := 0) (b' := 4) rfl rfl, Option.bind_some]
  by_cases h1 : 0 ≤ x1.toInt ∧ x1.toInt ≤ 20000
  · simp only [bz_t h1, e10, if_false]
    by_cases h2 : 0 ≤ x2.toInt ∧ x2.toInt ≤ 4
    · obtain ⟨S', I', c1, r1, hc, f1, f2, v1, v2, hraw, hs, hl⟩ := h.both (J := J)
      have hC := hc.1.1
      have hle := cvl_le (val I' np nw) 144
      have ecv : (nI (cvl (val I' np nw) 144) = 0) = (val I' np nw 0 = -9) := propext ((nI_eq (b := 0) (by omega) (by omega)).trans (cvl_0 hraw))
      have l0 : o_ld (mkR I' J) 17 12 0 = some (val I' np nw 0) := by rw [rL17 (show (0 : Int32) = nI 0 from rfl) (by omega), v2 0 (by omega)]
      have fn : ∀ x : Int32, OkD S I J np nw ep ew ps ws (some (x, S')) (some (x, mkR I' J)) [8, 9, 10, 11, 12, 13] [2] [14, 15, 16, 17, 18, 19, 20] [18, 19, 23] := fun x => ⟨x, S', I', rfl, rfl, hc, f1.mono (by simp) (by simp) (by simp), f2.mono (by simp) (by simp)⟩
      simp only [bz_t h2, e10, if_false, cIs1 h.1.1, rIs, c1, r1, b2_s, cIs8 hC, C_countValues hC v1, ecv, rP24, l0, Option.bind_some]
      by_cases h3 : val I' np nw 0 = -9
      · rw [if_pos h3, if_pos h3, fin_r]
        exact fn _
      · rw [if_neg h3, if_neg h3]
        have pc : ∀ b : Bool, OkD S I J np nw ep ew ps ws (b2 (fX0_countPieces S' 8 x1 (b01 b)) fun v77 S77 => some (v77, S77)) (fin sX10_line (b2 (fX10_piecesOf (mkR I' J) 1 x1 (b01 b)) fun v89 S89 => some (.inr (v89, S89)))) [8, 9, 10, 11, 12, 13] [2] [14, 15, 16, 17, 18, 19, 20] [18, 19, 23] := fun b => by
          obtain ⟨n, S2, I2, q1, q2, q3, q4⟩ := pieces_both (I := I') (J := J) (v := x1) (b := b) hC v1 v2
          rw [q1, q2, b2_s, b2_s, fin_r]
          refine ⟨_, S2, I2, rfl, rfl, hc.fr (hC.fr q3 (by simp) (by simp)) q3 ⟨by simp, by simp⟩ (by simp) (by simp) (by simp) (by simp) (.inr (by simp)) (.inr (by simp)) q4 (by simp) (by simp), (f1.mono (by simp) (by simp) (by simp)).tr (q3.mono (by simp) (by simp) (by simp)), (f2.mono (by simp) (by simp)).tr (q4.mono (by simp) (by simp))⟩
        by_cases e0 : x2 = 0
        · rw [if_pos e0, if_pos e0, C_length hC v1, R_length v2, Option.bind_some, Option.bind_some, fin_r]
          exact fn _
        · rw [if_neg e0, if_neg e0]
          by_cases e1 : x2 = 1
          · rw [if_pos e1, if_pos e1]
            exact pc true
          · rw [if_neg e1, if_neg e1]
            by_cases e2 : x2 = 2
            · rw [if_pos e2, if_pos e2]
              exact pc false
            · rw [if_neg e2, if_neg e2]
              by_cases e3 : x2 = 3
              · rw [if_pos e3, if_pos e3, C_below hC v1, fin_l, R_below v2, Option.bind_some]
                exact fn _
              · rw [if_neg e3, if_neg e3, cP1_0 hC, Option.bind_some, C_wrong hc.1 hs, R_wrong hraw hl, Option.bind_some, Option.bind_some, fin_r]
                exact fn _
    · simp only [bz_f h2, if_true, fin_r]
      exact no _
  · simp only [bz_f h1, if_true, fin_r]
    exact no _
end LW2
