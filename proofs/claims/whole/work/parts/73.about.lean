/-! about: the wires of a post, counted -/
section AB
variable {S : MS} {I : Nat → Nat → Int32} {J : Nat → Nat → Int64} {np nw ep ew : Nat} {ps ws : Nat → Nat}
def cwo (I : Nat → Nat → Int32) (p : Nat) : Nat → Nat
  | 0 => 0
  | w + 1 => cwo I p w + (if I 8 w = nI p then 1 else 0)
theorem C_countWires (hC : CS S) (hW : Wir S I np nw ew ws) {p : Nat} : fX1_countWiresOf S 2 (nI p) = some (nI (cwo I p nw)) := by
  have hnw := hW.1
  unfold fX1_countWiresOf bX1_countWiresOf_0
  rw [fin_l]
  refine lim_it2 (st := fun j => (2, nI p, nI (cwo I p j), nI j)) nw (fun j hj => ?_) ?_
  · show bX1_countWiresOf_4 S 2 (nI p) (nI (cwo I p j)) (nI j) = _
    obtain ⟨p', c, -, d1, d2, d3, -⟩ := hW.get hj
    unfold bX1_countWiresOf_4 bX1_countWiresOf_36
    simp only [cP2_1 hC, at_is hW.2.2.1.1.1, L_size hW.2.2.1, if_neg (nI_ge hj (show nw < 2 ^ 31 by omega)), L_get hW.2.2.1 hj, at_is d2, at_gI d2, d3, ← d1, Option.bind_some, nI_1]
    have hc : cwo I p (j + 1) = cwo I p j + (if I 8 j = nI p then 1 else 0) := rfl
    rw [hc]
    by_cases h : I 8 j = nI p
    · rw [if_pos h, if_pos h]
    · simp only [h, if_false, Nat.add_zero]
  · show bX1_countWiresOf_4 S 2 (nI p) (nI (cwo I p nw)) (nI nw) = _
    unfold bX1_countWiresOf_4 bX1_countWiresOf_36
    simp only [cP2_1 hC, at_is hW.2.2.1.1.1, L_size hW.2.2.1, if_pos (nI_le (Nat.le_refl nw) (show nw < 2 ^ 31 by omega)), Option.bind_some]
theorem R_countWires (hn : nw ≤ 30) (h8 : I 1 8 = nI nw) {p : Nat} : lim sX10_about (1, nI p, 0, 0, mkR I J) = some (nI (cwo I p nw), mkR I J) := by
  refine lim_it2 (step := sX10_about) (st := fun j => (1, nI p, nI (cwo I p j), nI j, mkR I J)) nw (fun j hj => ?_) ?_
  · show bX10_about_91 (mkR I J) 1 (nI p) (nI (cwo I p j)) (nI j) = _
    unfold bX10_about_91 bX10_about_117
    simp only [rI, h8, if_neg (nI_ge hj (show nw < 2 ^ 31 by omega)), rP9, rL8 rfl (show j < 30 by omega), Option.bind_some, nI_1]
    have hc : cwo I p (j + 1) = cwo I p j + (if I 8 j = nI p then 1 else 0) := rfl
    rw [hc]
    by_cases h : I 8 j = nI p
    · rw [if_pos h, if_pos h]
    · rw [if_neg h, if_neg h, show (0 : Int32) = nI 0 from rfl, nI_add]
  · show bX10_about_91 (mkR I J) 1 (nI p) (nI (cwo I p nw)) (nI nw) = _
    unfold bX10_about_91 bX10_about_117
    simp only [rI, h8, if_pos (nI_le (Nat.le_refl nw) (show nw < 2 ^ 31 by omega)), Option.bind_some]
end AB
