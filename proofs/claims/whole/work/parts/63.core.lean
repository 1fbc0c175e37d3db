/-! posts, wires, desk and chart of both sides together -/
def i_ch (S : MS) (I : Nat → Nat → Int32) (np nw : Nat) : Prop := (m_I S 1 2 = 1 ∨ m_I S 1 2 = 0 ∧ Stt S I np nw) ∧ m_I S 8 0 = I 1 17
def i_la (I : Nat → Nat → Int32) (np nw : Nat) : Prop := I 1 18 = 0 ∨ I 1 18 = 1 ∧ Lai I np nw
def Cor (S : MS) (I : Nat → Nat → Int32) (np nw ep ew : Nat) (ps ws : Nat → Nat) : Prop := Bas S I np nw ep ew ps ws ∧ i_ch S I np nw ∧ i_la I np nw
section CR
variable {S : MS} {I : Nat → Nat → Int32} {J : Nat → Nat → Int64} {np nw ep ew : Nat} {ps ws : Nat → Nat}
theorem Bas.raw (h : Bas S I np nw ep ew ps ws) : RawOk I np nw := by
  obtain ⟨-, hP, hW, -⟩ := h
  refine ⟨⟨hP.1, hP.2.1⟩, ⟨hW.1, hW.2.1⟩, fun p hp => (hP.2.2.2 p hp).2, fun w hw => (hW.2.2.2 w hw).2, fun w hw => wi_dg (hW.2.2.2 w hw).1, fun w hw => ?_⟩
  obtain ⟨q, c, -, -, -, -, -, p, hp, h8, -⟩ := (hW.2.2.2 w hw).1
  exact ⟨p, hp, h8⟩
theorem C_settled (h : Cor S I np nw ep ew ps ws) : ∃ S', fX9_settledChart S 1 = some (8, S') ∧ Bas S' I np nw ep ew ps ws ∧ Stt S' I np nw ∧ m_I S' 1 2 = 0 ∧ m_I S' 8 0 = I 1 17 ∧ FrC S S' [8, 9, 10, 11] [2] [] := by
  obtain ⟨hB, ⟨hc, h80⟩, -⟩ := h
  have hC := hB.1
  unfold fX9_settledChart bX9_settledChart_0 bX9_settledChart_23
  rcases hc with hc | ⟨hc, hs⟩
  · obtain ⟨S1, e1, f1, g1, s1⟩ := C_settle hB h80
    have B1 := hB.fr f1 (by simp) rfl
    have f2 : FrC S1 (m_sI S1 1 (upd (m_I S1 1) 2 0)) [8, 9, 10, 11] [2] [] := FrC.sI1 (by decide)
    have B2 := B1.fr f2 (by simp) rfl
    simp only [cI1 hC, hc, e10, if_false, cP1_1 hC, cP1_0 hC, cIs8 hC, e1, cSI1 B1.1, cP1_1 B2.1, Option.bind_some]
    exact ⟨_, rfl, B2, s1, by rw [mI_same, upd_s], g1, (f1.mono (by simp) (by simp) (by simp)).tr f2⟩
  · simp only [cI1 hC, hc, if_true, cP1_1 hC, Option.bind_some]
    exact ⟨S, rfl, hB, hs, hc, h80, FrC.rf⟩
theorem R_laid (h : Cor S I np nw ep ew ps ws) : ∃ I', fX10_layChart (mkR I J) 1 = some (mkR I' J) ∧ FrR I I' [14, 15, 16, 17, 18] [18, 19, 23] ∧ I' 1 18 = 1 ∧ Lai I' np nw := R_layChart h.1.raw h.2.2
theorem C_again (hC : CS S) (hP : Pos S I np ep ps) (hW : Wir S I np nw ew ws) (h1 : m_I S 2 2 = I 1 15) (h2 : m_I S 2 3 = I 1 16) : ∃ S', fX9_lookAgain S 1 = some S' ∧ Bas S' I np nw ep ew ps ws ∧ m_I S' 1 2 = 1 ∧ FrC S S' [2, 5, 6, 7] [2] [] := by
  obtain ⟨S1, e1, C1, hD⟩ := C_look hC hP hW h1 h2
  have f2 : FrC S1 (m_sI S1 1 (upd (m_I S1 1) 2 1)) [2, 5, 6, 7] [2] [] := FrC.sI1 (by decide)
  have f := (hD.1.mono (Q' := [2]) (fun x hx => hx) (by simp) (fun x hx => hx)).tr f2
  have fx : Fx S (m_sI S1 1 (upd (m_I S1 1) 2 1)) [2, 5, 6, 7] [] := ⟨by simp, by simp⟩
  unfold fX9_lookAgain bX9_lookAgain_0
  simp only [cP1_0 hC, cIs2 hC, e1, cSI1 C1, Option.bind_some]
  refine ⟨_, rfl, ⟨C1, hP.fr f fx (by simp) (by simp) (.inr (by simp)) rfl (fun _ _ _ => rfl), hW.fr f fx (by simp) (by simp) (.inr (by simp)) rfl (fun _ _ => rfl) (Nat.le_refl _) (fun _ _ _ => rfl), ?_⟩, ?_, f⟩
  · exact ⟨hD.2.1, hD.2.2.1, hD.2.2.2⟩
  · rw [mI_same, upd_s]
theorem C_isPost (hC : CS S) (hP : Pos S I np ep ps) (x : Int32) : fX9_isPost S 1 x = some (bz (0 ≤ x.toInt ∧ x.toInt < np)) := by
  have := hP.1
  unfold fX9_isPost bX9_isPost_0
  simp only [cP1_0 hC, cP2_0 hC, at_is hP.2.2.1.1.1, L_size hP.2.2.1, C_isBelow, Option.bind_some, bz_zb, nI_toInt (show np < 2 ^ 31 by omega)]
theorem R_noPost (hn : np ≤ 12) (h1 : I 1 1 = nI np) (x : Int32) : fX10_noPost (mkR I J) 1 x = some (bz (¬ (0 ≤ x.toInt ∧ x.toInt < np))) := by
  unfold fX10_noPost bX10_noPost_0 bX10_noPost_21
  simp only [rI, h1, Option.bind_some]
  rw [R_in, i_l, l_n1 (by omega), show (0 : Int64).toInt = 0 from rfl]
  simp only [Option.bind_some, bz_0]
  by_cases h : 0 ≤ x.toInt ∧ x.toInt < np
  · rw [if_neg (by omega), bz_f (by omega)]; rfl
  · rw [if_pos (by omega), bz_t h]; rfl
theorem C_isWire (hC : CS S) (hW : Wir S I np nw ew ws) (x : Int32) : fX9_isWire S 1 x = some (bz (0 ≤ x.toInt ∧ x.toInt < nw)) := by
  have := hW.1
  unfold fX9_isWire bX9_isWire_0
  simp only [cP1_0 hC, cP2_1 hC, at_is hW.2.2.1.1.1, L_size hW.2.2.1, C_isBelow, Option.bind_some, bz_zb, nI_toInt (show nw < 2 ^ 31 by omega)]
theorem R_noWire (hn : nw ≤ 30) (h1 : I 1 8 = nI nw) (x : Int32) : fX10_noWire (mkR I J) 1 x = some (bz (¬ (0 ≤ x.toInt ∧ x.toInt < nw))) := by
  unfold fX10_noWire bX10_noWire_0 bX10_noWire_21
  simp only [rI, h1, Option.bind_some]
  rw [R_in, i_l, l_n1 (by omega), show (0 : Int64).toInt = 0 from rfl]
  simp only [Option.bind_some, bz_0]
  by_cases h : 0 ≤ x.toInt ∧ x.toInt < nw
  · rw [if_neg (by omega), bz_f (by omega)]; rfl
  · rw [if_pos (by omega), bz_t h]; rfl
end CR
