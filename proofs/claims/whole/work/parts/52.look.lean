/-! looking over the desk -/
section LK
variable {S : MS} {I : Nat → Nat → Int32} {np nw ep ew : Nat} {ps ws : Nat → Nat}
theorem o_or {a b : Nat} : nI a ||| nI b = nI (a ||| b) := nI_or a b
theorem mk_or {f : Nat → Bool} {n : Nat} (h : f n = true) : mk f n ||| 2 ^ n = mk f (n + 1) := by
  apply mk_ext
  intro k
  rw [Nat.testBit_or, mk_bit, Nat.testBit_two_pow]
  by_cases hk : k = n
  · subst hk
    simp [h]
  · have : ¬ n = k := fun e => hk e.symm
    by_cases hkn : k < n
    · simp [hkn, this, show k < n + 1 by omega]
    · simp [hkn, this, show ¬ k < n + 1 by omega]
theorem mk_no {f : Nat → Bool} {n : Nat} (h : f n = false) : mk f (n + 1) = mk f n := by
  show mk f n + (if f n then 2 ^ n else 0) = _
  rw [h]
  simp
/-- half looked over -/
def DskN (S S' : MS) (I : Nat → Nat → Int32) (nw j : Nat) : Prop := FrC S S' [2, 5, 6, 7] [] [] ∧ (m_I S' 2 2 = I 1 15 ∧ m_I S' 2 3 = I 1 16) ∧ (m_I S' 2 7 = nI (mk (inV I nw) j) ∧ m_I S' 2 8 = nI (mk (sur I nw) j)) ∧ ∀ p, p < j → m_I S' 5 p = plc I p (I 1 15) ∧ m_I S' 6 p = bn (shn I nw p) ∧ (sur I nw p = true → m_I S' 7 p = slv I nw p)
theorem C_look (hC : CS S) (hP : Pos S I np ep ps) (hW : Wir S I np nw ew ws) (h1 : m_I S 2 2 = I 1 15) (h2 : m_I S 2 3 = I 1 16) : ∃ S', fX1_look S 2 = some S' ∧ CS S' ∧ DskN S S' I nw np := by
  unfold fX1_look bX1_look_0
  have hC1 : CS (m_sI S 2 (upd (m_I S 2) 7 0)) := hC
  simp only [cSI2 hC, cSI2 hC1, Option.bind_some, mI_same, sI_sI, fin_l]
  generalize hS0 : m_sI S 2 (upd (upd (m_I S 2) 7 0) 8 0) = S0
  have hnp := hP.1
  have hnw := hW.1
  have K0 : DskN S S0 I nw 0 := by
    refine ⟨?_, ⟨?_, ?_⟩, ⟨?_, ?_⟩, fun p hp => absurd hp (by omega)⟩
    · rw [← hS0]; exact FrC.sI (by decide) (by simp)
    · rw [← hS0, mI_same, upd_n (by decide), upd_n (by decide)]; exact h1
    · rw [← hS0, mI_same, upd_n (by decide), upd_n (by decide)]; exact h2
    · rw [← hS0, mI_same, upd_n (by decide), upd_s]; rfl
    · rw [← hS0, mI_same, upd_s]; rfl
  obtain ⟨s, ⟨S', hs, hk⟩, he⟩ := lim_inv (step := sX1_look) (K := fun j s => ∃ S', s = (2, nI j, S') ∧ DskN S S' I nw j) np ⟨S0, rfl, K0⟩ (fun j hj s hs => by
    obtain ⟨S', rfl, hk⟩ := hs
    sorry)
  refine ⟨S', ?_, ?_, hk⟩
  · rw [show lim sX1_look (2, 0, S0) = _ from he, hs]
    apply lim_end
    show bX1_look_12 S' 2 (nI np) = _
    have hP' := hP.fr (I' := I) hk.1 ⟨by simp, by simp⟩ (by simp) (by simp) (.inr (by simp)) rfl (fun _ _ _ => rfl)
    have hC' : CS S' := hC.fr hk.1 (by simp) (by simp)
    unfold bX1_look_12 bX1_look_73 bX1_look_152
    simp only [cP2_0 hC', at_is hP'.2.2.1.1.1, L_size hP'.2.2.1, Option.bind_some, if_pos (nI_le (Nat.le_refl np) (by omega))]
  · exact hC.fr hk.1 (by simp) (by simp)
end LK
