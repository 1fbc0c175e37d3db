/-! looking over the desk -/
section LK
variable {S : MS} {I : Nat → Nat → Int32} {np nw ep ew : Nat} {ps ws : Nat → Nat}
theorem o_or {a b : Nat} : nI a ||| nI b = nI (a ||| b) := nI_or a b
theorem mk_or {f : Nat → Bool} {n : Nat} (h : f n = true) : mk f n ||| 2 ^ n = mk f (n + 1) := by
  apply mk_ext
  intro k
  rw [Nat.testBit_or, mk_bit, Nat.testBit_two_pow]
  by_cases hk : k = n
  · subst hk
    simp [h]
  · have : ¬ n = k := fun e => hk e.symm
    by_cases hkn : k < n
    · simp [hkn, this, show k < n + 1 by omega]
    · simp [hkn, this, show ¬ k < n + 1 by omega]
theorem mk_no {f : Nat → Bool} {n : Nat} (h : f n = false) : mk f (n + 1) = mk f n := by
  show mk f n + (if f n then 2 ^ n else 0) = _
  rw [h]
  simp
/-- half looked over -/
def DskN (S S' : MS) (I : Nat → Nat → Int32) (nw j : Nat) : Prop := FrC S S' [2, 5, 6, 7] [] [] ∧ (m_I S' 2 2 = I 1 15 ∧ m_I S' 2 3 = I 1 16) ∧ (m_I S' 2 7 = nI (mk (inV I nw) j) ∧ m_I S' 2 8 = nI (mk (sur I nw) j)) ∧ ∀ p, p < j → m_I S' 5 p = plc I p (I 1 15) ∧ m_I S' 6 p = bn (shn I nw p) ∧ (sur I nw p = true → m_I S' 7 p = slv I nw p)
theorem DskN.s {S S1 S2 : MS} {j : Nat} (hk : DskN S S1 I nw j) (hf : FrC S1 S2 [2, 5, 6, 7] [] []) (h2 : m_I S2 2 2 = m_I S1 2 2 ∧ m_I S2 2 3 = m_I S1 2 3) (h3 : m_I S2 2 7 = nI (mk (inV I nw) (j + 1)) ∧ m_I S2 2 8 = nI (mk (sur I nw) (j + 1))) (h4 : ∀ p, p < j → m_I S2 5 p = m_I S1 5 p ∧ m_I S2 6 p = m_I S1 6 p ∧ m_I S2 7 p = m_I S1 7 p) (h5 : m_I S2 5 j = plc I j (I 1 15) ∧ m_I S2 6 j = bn (shn I nw j) ∧ (sur I nw j = true → m_I S2 7 j = slv I nw j)) : DskN S S2 I nw (j + 1) := by
  refine ⟨hk.1.tr hf, ⟨h2.1.trans hk.2.1.1, h2.2.trans hk.2.1.2⟩, h3, fun p hp => ?_⟩
  by_cases hpj : p = j
  · subst hpj
    exact h5
  · obtain ⟨a1, a2, a3⟩ := h4 p (by omega)
    rw [a1, a2, a3]
    exact hk.2.2.2 p (by omega)
theorem C_look_step (hC : CS S) (hP : Pos S I np ep ps) (hW : Wir S I np nw ew ws) {S1 : MS} {j : Nat} (hj : j < np) (hk : DskN S S1 I nw j) : ∃ S2, sX1_look (2, nI j, S1) = some (.inl (2, nI (j + 1), S2)) ∧ DskN S S2 I nw (j + 1) := by
  have hnp := hP.1
  have hnw := hW.1
  have hj12 : j < 12 := by omega
  have fx : Fx S S1 [2, 5, 6, 7] [] := ⟨by simp, by simp⟩
  have P1 := hP.fr (I' := I) hk.1 fx (by simp) (by simp) (.inr (by simp)) rfl (fun _ _ _ => rfl)
  have W1 := hW.fr (I' := I) (np' := np) hk.1 fx (by simp) (by simp) (.inr (by simp)) rfl (fun _ _ => rfl) (Nat.le_refl _) (fun _ _ _ => rfl)
  have C1 : CS S1 := hC.fr hk.1 (by simp) (by simp)
  have e1 : ¬ nI np ≤ nI j := nI_ge hj (by omega)
  have hcell := (P1.2.2.1.2.2 j hj).2
  show ∃ S2, bX1_look_12 S1 2 (nI j) = _ ∧ _
  unfold bX1_look_12
  simp only [cP2_0 C1, cP2_4 C1, at_is P1.2.2.1.1.1, L_size P1.2.2.1, L_get P1.2.2.1 hj, at_is hcell, cI2 C1, hk.2.1.1, C_placeAt hcell (P1.2.2.2 j hj).1 (P1.2.2.2 j hj).2, Option.bind_some, if_neg e1, cS5 C1 rfl hj12]
  generalize hS46 : m_sI S1 5 (upd (m_I S1 5) j (plc I j (I 1 15))) = S46
  have f46 : FrC S1 S46 [2, 5, 6, 7] [] [] := by rw [← hS46]; exact FrC.sI (by decide) (by simp)
  have C46 : CS S46 := by rw [← hS46]; exact C1
  have fx46 : Fx S1 S46 [2, 5, 6, 7] [] := ⟨by simp, by simp⟩
  have W46 := W1.fr (I' := I) (np' := np) f46 fx46 (by simp) (by simp) (.inr (by simp)) rfl (fun _ _ => rfl) (Nat.le_refl _) (fun _ _ _ => rfl)
  have g2 : m_I S46 2 = m_I S1 2 := by rw [← hS46]; exact mI_ne (by decide)
  have g6 : m_I S46 6 = m_I S1 6 := by rw [← hS46]; exact mI_ne (by decide)
  have g7 : m_I S46 7 = m_I S1 7 := by rw [← hS46]; exact mI_ne (by decide)
  have g5 : m_I S46 5 = upd (m_I S1 5) j (plc I j (I 1 15)) := by rw [← hS46]; exact mI_same
  have hmid : (if m_I S46 5 j = -9 then bX1_look_73 S46 2 (nI j) 6 (nI j) (-9) else (fX1_latestReadable S46 2 (nI j)).bind fun v70 => bX1_look_73 S46 2 (nI j) 6 (nI j) v70) = bX1_look_73 S46 2 (nI j) 6 (nI j) (bn (shn I nw j)) := by
    rw [g5, upd_s]
    unfold shn
    by_cases h9 : plc I j (I 1 15) = -9
    · simp only [h9, if_true, bn]
    · simp only [h9, if_false, C_latest C46 W46 (by rw [g2]; exact hk.2.1.1) (by rw [g2]; exact hk.2.1.2), Option.bind_some]
  simp only [cP2_5 C46, cP2_4 C46, cL5 C46 rfl hj12, cIs2 C46, Option.bind_some]
  rw [hmid]
  unfold bX1_look_73 bX1_look_152
  simp only [cS6 C46 rfl hj12, Option.bind_some]
  generalize hS73 : m_sI S46 6 (upd (m_I S46 6) j (bn (shn I nw j))) = S73
  have f73 : FrC S46 S73 [2, 5, 6, 7] [] [] := by rw [← hS73]; exact FrC.sI (by decide) (by simp)
  have C73 : CS S73 := by rw [← hS73]; exact C46
  have i2 : m_I S73 2 = m_I S1 2 := by rw [← hS73, mI_ne (by decide)]; exact g2
  have i5 : m_I S73 5 = upd (m_I S1 5) j (plc I j (I 1 15)) := by rw [← hS73, mI_ne (by decide)]; exact g5
  have i6 : m_I S73 6 = upd (m_I S1 6) j (bn (shn I nw j)) := by rw [← hS73, mI_same, g6]
  have i7 : m_I S73 7 = m_I S1 7 := by rw [← hS73, mI_ne (by decide)]; exact g7
  simp only [cP2_5 C73, cL6 C73 rfl hj12, Option.bind_some, i6, upd_s]
  cases hsn : shn I nw j with
  | none =>
    have hin : inV I nw j = false := by unfold inV; rw [hsn]; rfl
    have hsu : sur I nw j = false := by unfold sur; rw [hsn]
    simp only [bn, if_true, nI_1]
    refine ⟨S73, rfl, hk.s (f46.tr f73) ⟨by rw [i2], by rw [i2]⟩ ⟨?_, ?_⟩ (fun p hp => ⟨?_, ?_, ?_⟩) ⟨?_, ?_, ?_⟩⟩
    · rw [i2, mk_no hin]; exact hk.2.2.1.1
    · rw [i2, mk_no hsu]; exact hk.2.2.1.2
    · rw [i5, upd_n (by omega)]
    · rw [i6, upd_n (by omega)]
    · rw [i7]
    · rw [i5, upd_s]
    · rw [i6, upd_s]
    · rw [hsu]; exact fun h => by cases h
  | some w =>
    have hw := shn_lt hsn
    have hin : inV I nw j = true := by unfold inV; rw [hsn]; rfl
    have e9 : (nI w = -9) = False := eq_false (m9 (by omega))
    simp only [bn, e9, if_false, cI2 C73, cSI2 C73, Option.bind_some, i2, hk.2.2.1.1, sh1 j hj12, nI_or, mk_or hin]
    generalize hS94 : m_sI S73 2 (upd (m_I S1 2) 7 (nI (mk (inV I nw) (j + 1)))) = S94
    have f94 : FrC S73 S94 [2, 5, 6, 7] [] [] := by rw [← hS94]; exact FrC.sI (by decide) (by simp)
    have C94 : CS S94 := by rw [← hS94]; exact C73
    have j2 : m_I S94 2 = upd (m_I S1 2) 7 (nI (mk (inV I nw) (j + 1))) := by rw [← hS94]; exact mI_same
    have j5 : m_I S94 5 = upd (m_I S1 5) j (plc I j (I 1 15)) := by rw [← hS94, mI_ne (by decide)]; exact i5
    have j6 : m_I S94 6 = upd (m_I S1 6) j (bn (shn I nw j)) := by rw [← hS94, mI_ne (by decide)]; exact i6
    have j7 : m_I S94 7 = m_I S1 7 := by rw [← hS94, mI_ne (by decide)]; exact i7
    have W94 := W46.fr (I' := I) (np' := np) (f73.tr f94) ⟨by simp, by simp⟩ (by simp) (by simp) (.inr (by simp)) rfl (fun _ _ => rfl) (Nat.le_refl _) (fun _ _ _ => rfl)
    obtain ⟨⟨q, c, ⟨b1, b2, b3⟩, hwd, ⟨c1, c2, c3⟩, c4, c5, p', hp', c6, c7, c8, -, -⟩, -, hr13⟩ := W94.2.2.2 w hw.1
    have hpp : p' = j := by
      have := hw.2.1.1
      rw [c6] at this
      exact (nI_eq (by omega) (by omega)).mp this
    rw [hpp] at c8
    have hc1 : o_ld S94 c 12 1 = some (m_I S94 c 1) := at_ld (n := 3) (j := 1) c2 c3 (by omega) rfl (by omega)
    have hrm : m_I S94 c 1 = nI (rmy I w) := c5 1 (by omega)
    have hrb := RD_len (Dig I w 1) 1
    have hone : (nI (rmy I w) = 1) = (rmy I w = 1) := propext (nI_eq (b := 1) (by unfold rmy; omega) (by omega))
    have k6 : o_ld S94 6 12 (nI j) = some (nI w) := by rw [cL6 C94 rfl hj12, j6, upd_s, hsn]; rfl
    simp only [cP2_1 C94, cP2_5 C94, k6, at_is W94.2.2.1.1.1, L_get W94.2.2.1 hw.1, at_is hwd.1, at_gP hwd.1 c1, hc1, hrm, hone, Option.bind_some]
    by_cases h1 : rmy I w = 1
    · have hsu : sur I nw j = true := by unfold sur; rw [hsn]; simp [h1]
      simp only [h1, if_true, cI2 C94, cSI2 C94, Option.bind_some, j2, upd_n (show (8 : Nat) ≠ 7 by decide), hk.2.2.1.2, sh1 j hj12, nI_or, mk_or hsu]
      generalize hS133 : m_sI S94 2 (upd (upd (m_I S1 2) 7 (nI (mk (inV I nw) (j + 1)))) 8 (nI (mk (sur I nw) (j + 1)))) = S133
      have f133 : FrC S94 S133 [2, 5, 6, 7] [] [] := by rw [← hS133]; exact FrC.sI (by decide) (by simp)
      have C133 : CS S133 := by rw [← hS133]; exact C94
      have l2 : m_I S133 2 = upd (upd (m_I S1 2) 7 (nI (mk (inV I nw) (j + 1)))) 8 (nI (mk (sur I nw) (j + 1))) := by rw [← hS133]; exact mI_same
      have l5 : m_I S133 5 = upd (m_I S1 5) j (plc I j (I 1 15)) := by rw [← hS133, mI_ne (by decide)]; exact j5
      have l6 : m_I S133 6 = upd (m_I S1 6) j (bn (shn I nw j)) := by rw [← hS133, mI_ne (by decide)]; exact j6
      have l7 : m_I S133 7 = m_I S1 7 := by rw [← hS133, mI_ne (by decide)]; exact j7
      have fx133 : Fx S94 S133 [2, 5, 6, 7] [] := ⟨by simp, by simp⟩
      have wd133 : Wd S133 (ws w) q := hwd.fr f133 fx133 b1 b2
      have hE : RD (Eg S133 q 1) 1 = RD (Dig I w 1) 1 := RD_c (fun x hx => by
        show m_I S133 q (5 * 1 + x) = I 11 (15 * w + 5 * 1 + x)
        rw [f133.hi fx133 hwd.2.2.1 b2, c4 _ (by omega), Nat.add_assoc]) 1
      obtain ⟨r, hr⟩ : ∃ r, (RD (Dig I w 1) 1)[0]? = some r := ⟨_, List.getElem?_eq_getElem (show 0 < (RD (Dig I w 1) 1).length by unfold rmy at h1; omega)⟩
      have hat : fX8_readingAt S133 (ws w) 1 0 = some (nI r) := C_at (g := 1) (i := 0) wd133 (by omega) (by omega) (by rw [hE]; exact hr)
      have hht : m_I S133 (ws w) 3 = I 5 j := by rw [f133.hi fx133 hwd.1 b1]; exact c8
      have hlv : lvl (I 5 j) (nI r) = slv I nw j := by
        unfold slv rf1
        rw [hsn]
        simp only [hr]
      simp only [cP2_6 C133, at_is wd133.1, hat, C_levelOf wd133.1, hht, hlv, cS7 C133 rfl hj12, Option.bind_some, nI_1]
      refine ⟨_, rfl, hk.s (((f46.tr f73).tr (f94.tr f133)).tr (FrC.sI (by decide) (by simp))) ⟨?_, ?_⟩ ⟨?_, ?_⟩ (fun p hp => ⟨?_, ?_, ?_⟩) ⟨?_, ?_, ?_⟩⟩
      · rw [mI_ne (by decide), l2, upd_n (by decide), upd_n (by decide)]
      · rw [mI_ne (by decide), l2, upd_n (by decide), upd_n (by decide)]
      · rw [mI_ne (by decide), l2, upd_n (by decide), upd_s]
      · rw [mI_ne (by decide), l2, upd_s]
      · rw [mI_ne (by decide), l5, upd_n (by omega)]
      · rw [mI_ne (by decide), l6, upd_n (by omega)]
      · rw [mI_same, upd_n (by omega), l7]
      · rw [mI_ne (by decide), l5, upd_s]
      · rw [mI_ne (by decide), l6, upd_s, hsn]
      · intro _
        rw [mI_same, upd_s]
    · have hsu : sur I nw j = false := by unfold sur; rw [hsn]; simp [h1]
      simp only [h1, if_false, nI_1]
      refine ⟨S94, rfl, hk.s ((f46.tr f73).tr f94) ⟨?_, ?_⟩ ⟨?_, ?_⟩ (fun p hp => ⟨?_, ?_, ?_⟩) ⟨?_, ?_, ?_⟩⟩
      · rw [j2, upd_n (by decide)]
      · rw [j2, upd_n (by decide)]
      · rw [j2, upd_s]
      · rw [j2, upd_n (by decide), mk_no hsu]; exact hk.2.2.1.2
      · rw [j5, upd_n (by omega)]
      · rw [j6, upd_n (by omega)]
      · rw [j7]
      · rw [j5, upd_s]
      · rw [j6, upd_s, hsn]
      · rw [hsu]; exact fun h => by cases h
theorem C_look (hC : CS S) (hP : Pos S I np ep ps) (hW : Wir S I np nw ew ws) (h1 : m_I S 2 2 = I 1 15) (h2 : m_I S 2 3 = I 1 16) : ∃ S', fX1_look S 2 = some S' ∧ CS S' ∧ DskN S S' I nw np := by
  unfold fX1_look bX1_look_0
  have hC1 : CS (m_sI S 2 (upd (m_I S 2) 7 0)) := hC
  simp only [cSI2 hC, cSI2 hC1, Option.bind_some, mI_same, sI_sI, fin_l]
  generalize hS0 : m_sI S 2 (upd (upd (m_I S 2) 7 0) 8 0) = S0
  have hnp := hP.1
  have hnw := hW.1
  have K0 : DskN S S0 I nw 0 := by
    refine ⟨?_, ⟨?_, ?_⟩, ⟨?_, ?_⟩, fun p hp => absurd hp (by omega)⟩
    · rw [← hS0]; exact FrC.sI (by decide) (by simp)
    · rw [← hS0, mI_same, upd_n (by decide), upd_n (by decide)]; exact h1
    · rw [← hS0, mI_same, upd_n (by decide), upd_n (by decide)]; exact h2
    · rw [← hS0, mI_same, upd_n (by decide), upd_s]; rfl
    · rw [← hS0, mI_same, upd_s]; rfl
  obtain ⟨s, ⟨S', hs, hk⟩, he⟩ := lim_inv (step := sX1_look) (K := fun j s => ∃ S', s = (2, nI j, S') ∧ DskN S S' I nw j) np ⟨S0, rfl, K0⟩ (fun j hj s hs => by
    obtain ⟨S', rfl, hk⟩ := hs
    obtain ⟨S2, e1, e2⟩ := C_look_step hC hP hW hj hk
    exact ⟨_, e1, S2, rfl, e2⟩)
  refine ⟨S', ?_, ?_, hk⟩
  · rw [show lim sX1_look (2, 0, S0) = _ from he, hs]
    apply lim_end
    show bX1_look_12 S' 2 (nI np) = _
    have hP' := hP.fr (I' := I) hk.1 ⟨by simp, by simp⟩ (by simp) (by simp) (.inr (by simp)) rfl (fun _ _ _ => rfl)
    have hC' : CS S' := hC.fr hk.1 (by simp) (by simp)
    unfold bX1_look_12 bX1_look_73 bX1_look_152
    simp only [cP2_0 hC', at_is hP'.2.2.1.1.1, L_size hP'.2.2.1, Option.bind_some, if_pos (nI_le (Nat.le_refl np) (by omega))]
  · exact hC.fr hk.1 (by simp) (by simp)
end LK
