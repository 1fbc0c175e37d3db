/-! the class settles its chart -/
theorem FrC.row {S S' : MS} {PI Q PL : List Nat} (hf : FrC S S' PI Q PL) (hC : CS S) {a : Nat} (h0 : 1 < a) (h1 : a ≤ 50) (h2 : a ∉ PI) : m_I S' a = m_I S a := (hf.2.1 a (by omega) (Nat.le_trans h1 hC.1)).2.2.1 (by omega) h2
theorem Dsk.fr {S S' : MS} {I : Nat → Nat → Int32} {np nw : Nat} {PI Q PL : List Nat} (h : Dsk S I np nw) (hC : CS S) (hf : FrC S S' PI Q PL) (h2 : 2 ∉ PI ∧ 5 ∉ PI ∧ 6 ∉ PI ∧ 7 ∉ PI) : Dsk S' I np nw := by
  unfold Dsk
  rw [hf.row hC (a := 2) (by omega) (by omega) h2.1, hf.row hC (a := 5) (by omega) (by omega) h2.2.1, hf.row hC (a := 6) (by omega) (by omega) h2.2.2.1, hf.row hC (a := 7) (by omega) (by omega) h2.2.2.2]
  exact h
def Stt (S : MS) (I : Nat → Nat → Int32) (np nw : Nat) : Prop := (∀ p, p < np → m_I S 9 p = lvn I np nw p) ∧ (∀ p, p < np → m_I S 10 p = nI (mk (agb (inV I nw) (lvn I np nw) (fun p => plc I p (I 1 15)) (I 1 17) np p) np)) ∧ m_I S 8 3 = nI (dd I np nw) ∧ ∀ k, k < 144 → m_I S 11 k = val I np nw k
section SE
variable {S : MS} {I : Nat → Nat → Int32} {np nw ep ew : Nat} {ps ws : Nat → Nat}
/-- all that settling stands on -/
def Bas (S : MS) (I : Nat → Nat → Int32) (np nw ep ew : Nat) (ps ws : Nat → Nat) : Prop := CS S ∧ Pos S I np ep ps ∧ Wir S I np nw ew ws ∧ Dsk S I np nw
theorem Bas.fr {S' : MS} {PI Q PL : List Nat} (h : Bas S I np nw ep ew ps ws) (hf : FrC S S' PI Q PL) (hPI : ∀ a ∈ PI, 8 ≤ a ∧ a ≤ 50) (hPL : PL = []) : Bas S' I np nw ep ew ps ws := by
  subst hPL
  have fx : Fx S S' PI [] := ⟨fun a ha => (hPI a ha).2, by simp⟩
  have no : ∀ a, a < 8 → a ∉ PI := fun a ha q => by have := hPI a q; omega
  exact ⟨h.1.fr hf (by simp) (by simp), h.2.1.fr hf fx (no 3 (by omega)) (by simp) (.inr (by simp)) rfl (fun _ _ _ => rfl), h.2.2.1.fr hf fx (no 4 (by omega)) (by simp) (.inr (by simp)) rfl (fun _ _ => rfl) (Nat.le_refl _) (fun _ _ _ => rfl), h.2.2.2.fr h.1 hf ⟨no 2 (by omega), no 5 (by omega), no 6 (by omega), no 7 (by omega)⟩⟩
theorem C_settle1 (hB : Bas S I np nw ep ew ps ws) {S' : MS} {j : Nat} (hj : j < np) (hf : FrC S S' [8, 9, 10, 11] [] []) (hk : ∀ p, p < j → m_I S' 9 p = lvn I np nw p) : sX0_settle (.inl (8, 2, nI np, nI j, S')) = some (.inl (.inl (8, 2, nI np, nI (j + 1), m_sI S' 9 (upd (m_I S' 9) j (lvn I np nw j))))) := by
  obtain ⟨C', P', W', D'⟩ := hB.fr hf (by simp) rfl
  have hn := P'.1
  have hj12 : j < 12 := by omega
  show bX0_settle_10 S' 8 2 (nI np) (nI j) = _
  unfold bX0_settle_10 bX0_settle_56
  simp only [if_neg (nI_ge hj (show np < 2 ^ 31 by omega)), cP2_5 C', cP2_1 C', cP8_1 C', cL6 C' rfl hj12, (D'.2.2 j hj).2.1, cS9 C' rfl hj12, at_is W'.2.2.1.1.1, cIs2 C', Option.bind_some, nI_1]
  unfold lvn
  cases hs : shn I nw j with
  | none => simp only [bn, if_true]
  | some w =>
    have hw := shn_lt hs
    have hnw := W'.1
    have e9 : (nI w = -9) = False := eq_false (m9 (by omega))
    simp only [bn, e9, if_false, L_get W'.2.2.1 hw.1, at_is (W'.2.2.1.2.2 w hw.1).2, (C_mended C' P' W' D' hw.1 hw.2.1.1 hj).2, Option.bind_some]
theorem C_settle (hB : Bas S I np nw ep ew ps ws) (hst : m_I S 8 0 = I 1 17) : ∃ S', fX0_settle S 8 2 = some S' ∧ FrC S S' [8, 9, 10, 11] [] [] ∧ m_I S' 8 0 = I 1 17 ∧ Stt S' I np nw := by
  have hn := hB.2.1.1
  have h1231 : np < 2 ^ 31 := by omega
  have hnp : nI np ≤ nI np := nI_le (Nat.le_refl _) h1231
  have hmk : mk (inV I nw) np < 4096 := Nat.lt_of_lt_of_le (mk_lt _ np) (by
    have : 2 ^ np ≤ 2 ^ 12 := Nat.pow_le_pow_right (by decide) hn
    exact this)
  obtain ⟨s, ⟨S1, hs1, f1, g1, k1⟩, he1⟩ := lim_inv (step := sX0_settle) (K := fun j s => ∃ S', s = .inl (8, 2, nI np, nI j, S') ∧ FrC S S' [8, 9, 10, 11] [] [] ∧ m_I S' 8 = m_I S 8 ∧ ∀ p, p < j → m_I S' 9 p = lvn I np nw p) np (s0 := .inl (8, 2, nI np, nI 0, S)) ⟨S, rfl, FrC.rf, rfl, fun p hp => by omega⟩ (fun j hj s hs => by
    obtain ⟨S', rfl, hf, h8, hk⟩ := hs
    refine ⟨_, C_settle1 hB hj hf hk, _, rfl, hf.tr (FrC.sI (by decide) (by simp)), (mI_ne (by decide)).trans h8, fun p hp => ?_⟩
    rw [mI_same]
    by_cases hpj : p = j
    · rw [hpj, upd_s]
    · rw [upd_n hpj]; exact hk p (by omega))
  have B1 := hB.fr f1 (by simp) rfl
  obtain ⟨s', ⟨S2, hs2, f2, g2, g29, k2⟩, he2⟩ := lim_inv (step := sX0_settle) (K := fun j s => ∃ S', s = .inr (.inl (8, 2, nI np, nI j, S')) ∧ FrC S1 S' [8, 9, 10, 11] [] [] ∧ m_I S' 8 = m_I S 8 ∧ m_I S' 9 = m_I S1 9 ∧ ∀ p, p < j → m_I S' 10 p = nI (mk (agb (inV I nw) (lvn I np nw) (fun p => plc I p (I 1 15)) (I 1 17) np p) np)) np (s0 := .inr (.inl (8, 2, nI np, nI 0, S1))) ⟨S1, rfl, FrC.rf, g1, rfl, fun p hp => by omega⟩ (fun j hj s hs => by
    obtain ⟨S', rfl, hf, h8, h9, hk⟩ := hs
    obtain ⟨C', P', W', D'⟩ := B1.fr hf (by simp) rfl
    have hj12 : j < 12 := by omega
    have hrv := C_rivalsOf C' P' D' (lv := lvn I np nw) (st := I 1 17) (fun p hp => by rw [h9]; exact k1 p hp) (by rw [h8]; exact hst) hj
    refine ⟨.inr (.inl (8, 2, nI np, nI (j + 1), m_sI S' 10 (upd (m_I S' 10) j (nI (mk (agb (inV I nw) (lvn I np nw) (fun p => plc I p (I 1 15)) (I 1 17) np j) np))))), ?_, _, rfl, hf.tr (FrC.sI (by decide) (by simp)), (mI_ne (by decide)).trans h8, (mI_ne (by decide)).trans h9, fun p hp => ?_⟩
    · show bX0_settle_65 S' 8 2 (nI np) (nI j) = _
      unfold bX0_settle_65
      simp only [if_neg (nI_ge hj h1231), cP8_2 C', cIs8 C', hrv, cS10 C' rfl hj12, Option.bind_some, nI_1]
    · rw [mI_same]
      by_cases hpj : p = j
      · rw [hpj, upd_s]
      · rw [upd_n hpj]; exact hk p (by omega))
  have B2 := B1.fr f2 (by simp) rfl
  obtain ⟨C2, P2, W2, D2⟩ := B2
  generalize hS3 : m_sI S2 8 (upd (m_I S2 8) 3 (nI (dd I np nw))) = S3
  have f3 : FrC S2 S3 [8, 9, 10, 11] [] [] := by rw [← hS3]; exact FrC.sI (by decide) (by simp)
  have B3 := (B1.fr f2 (by simp) rfl).fr f3 (by simp) rfl
  have i8 : m_I S3 8 = upd (m_I S 8) 3 (nI (dd I np nw)) := by rw [← hS3, mI_same, g2]
  have i9 : m_I S3 9 = m_I S1 9 := by rw [← hS3, mI_ne (by decide)]; exact g29
  have i10 : m_I S3 10 = m_I S2 10 := by rw [← hS3, mI_ne (by decide)]
  obtain ⟨s'', ⟨S4, hs4, f4, h8, h9, h10, k4⟩, he4⟩ := lim_inv (step := sX0_settle) (K := fun j s => ∃ S', s = .inr (.inr (8, 2, nI (dif (mk (inV I nw) np) (dd I np nw)), nI j, S')) ∧ FrC S3 S' [8, 9, 10, 11] [] [] ∧ m_I S' 8 = m_I S3 8 ∧ m_I S' 9 = m_I S3 9 ∧ m_I S' 10 = m_I S3 10 ∧ ∀ k, k < j → m_I S' 11 k = val I np nw k) 144 (s0 := .inr (.inr (8, 2, nI (dif (mk (inV I nw) np) (dd I np nw)), nI 0, S3))) ⟨S3, rfl, FrC.rf, rfl, rfl, rfl, fun p hp => by omega⟩ (fun j hj s hs => by
    obtain ⟨S', rfl, hf, h8, h9, h10, hk⟩ := hs
    obtain ⟨C', P', W', D'⟩ := B3.fr hf (by simp) rfl
    refine ⟨.inr (.inr (8, 2, nI (dif (mk (inV I nw) np) (dd I np nw)), nI (j + 1), m_sI S' 11 (upd (m_I S' 11) j (val I np nw j)))), ?_, _, rfl, hf.tr (FrC.sI (by decide) (by simp)), (mI_ne (by decide)).trans h8, (mI_ne (by decide)).trans h9, (mI_ne (by decide)).trans h10, fun k hkj => ?_⟩
    · show bX0_settle_112 S' 8 2 (nI (dif (mk (inV I nw) np) (dd I np nw))) (nI j) = _
      unfold bX0_settle_112 bX0_settle_154 val vq
      simp only [if_neg (show ¬ (144 : Int32) ≤ nI j from nI_ge (b := 144) hj (by omega)), cIs2 C', C_nearestOf C' P' D', cP8_4 C', cP8_1 C', cS11 C' rfl hj, Option.bind_some, nI_1]
      cases hq : nq I np (dif (mk (inV I nw) np) (dd I np nw)) (nI j) with
      | none => simp only [bn, if_true]
      | some q =>
        have hq' := nq_lt hq
        have e9 : (nI q = -9) = False := eq_false (m9 (by omega))
        have hl9 : m_I S' 9 q = lvn I np nw q := by rw [h9, i9]; exact k1 q hq'.1
        simp only [bn, e9, if_false, cL9 C' rfl (show q < 12 by omega), hl9, Option.bind_some]
    · rw [mI_same]
      by_cases hkk : k = j
      · rw [hkk, upd_s]
      · rw [upd_n hkk]; exact hk k (by omega))
  refine ⟨S4, ?_, (f1.tr f2).tr (f3.tr f4), ?_, ?_, ?_, ?_, k4⟩
  · unfold fX0_settle bX0_settle_0
    simp only [cP2_0 hB.1, at_is hB.2.1.2.2.1.1.1, L_size hB.2.1.2.2.1, Option.bind_some, fin_l]
    rw [show lim sX0_settle (.inl (8, 2, nI np, 0, S)) = _ from he1, hs1, lim_eq]
    show fin sX0_settle (bX0_settle_10 S1 8 2 (nI np) (nI np)) = _
    unfold bX0_settle_10
    rw [if_pos hnp, fin_l, show lim sX0_settle (.inr (.inl (8, 2, nI np, 0, S1))) = _ from he2, hs2, lim_eq]
    show fin sX0_settle (bX0_settle_65 S2 8 2 (nI np) (nI np)) = _
    have hfw := C_fewest C2 (ag := agb (inV I nw) (lvn I np nw) (fun p => plc I p (I 1 15)) (I 1 17) np) hn k2
    have C3 := B3.1
    have D3 := B3.2.2.2
    have e83 : m_I S3 8 3 = nI (dd I np nw) := by rw [i8, upd_s]
    unfold bX0_settle_65
    rw [if_pos hnp]
    have hfw' : fX0_fewestDoubts S2 8 (nI np) = some (nI (dd I np nw)) := hfw
    simp only [cIs8 C2, hfw', cSI8 C2, hS3, cI2 C3, cI8 C3, e83, D3.2.1.1, nI_dif hmk, Option.bind_some, fin_l]
    rw [show lim sX0_settle (.inr (.inr (8, 2, nI (dif (mk (inV I nw) np) (dd I np nw)), 0, S3))) = _ from he4, hs4, lim_eq]
    show fin sX0_settle (bX0_settle_112 S4 8 2 (nI (dif (mk (inV I nw) np) (dd I np nw))) (nI 144)) = _
    unfold bX0_settle_112
    rw [if_pos (by decide), fin_r]
  · rw [h8, i8, upd_n (by decide)]; exact hst
  · intro p hp
    rw [h9, i9]; exact k1 p hp
  · intro p hp
    rw [h10, i10]; exact k2 p hp
  · rw [h8, i8, upd_s]
end SE
