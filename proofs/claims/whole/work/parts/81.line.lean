/-! line: length, below, wrong -/
def len (V : Nat → Int32) (v : Int32) : Nat → Nat
  | 0 => 0
  | j + 1 => len V v j + (if ¬ 11 ≤ j % 12 ∧ ¬ (v ≤ V j ↔ v ≤ V (j + 1)) then 1 else 0) + (if ¬ 132 ≤ j ∧ ¬ (v ≤ V j ↔ v ≤ V (j + 12)) then 1 else 0)
def blw (V : Nat → Int32) (v : Int32) : Nat → Nat
  | 0 => 0
  | j + 1 => blw V v j + (if v ≤ V j then 0 else 1)
noncomputable def wrg (I : Nat → Nat → Int32) (np nw : Nat) (v : Int32) : Nat → Nat
  | 0 => 0
  | p + 1 => wrg I np nw v p + @ite _ (inV I nw p = true ∧ ¬ (v ≤ lvn I np nw p ↔ v ≤ val I np nw (plc I p (I 1 15)).toNatClampNeg)) (Classical.propDecidable _) 1 0
theorem len_s (V : Nat → Int32) (v : Int32) (j : Nat) : len V v (j + 1) = len V v j + (if ¬ 11 ≤ j % 12 ∧ ¬ (v ≤ V j ↔ v ≤ V (j + 1)) then 1 else 0) + (if ¬ 132 ≤ j ∧ ¬ (v ≤ V j ↔ v ≤ V (j + 12)) then 1 else 0) := rfl
section LN
variable {S : MS} {I : Nat → Nat → Int32} {J : Nat → Nat → Int64} {np nw ep ew : Nat} {ps ws : Nat → Nat} {V : Nat → Int32} {v : Int32}
theorem R_isBelow (hV : ∀ k, k < 144 → I 17 k = V k) {j : Nat} (hj : j < 144) : fX10_isBelow (mkR I J) 1 (nI j) v = some (if v ≤ V j then 0 else 1) := by
  unfold fX10_isBelow bX10_isBelow_0 bX10_isBelow_15
  simp only [rP24, rL17 rfl hj, hV j hj, Option.bind_some, zb0, zb1]
  split <;> rfl
theorem C_length (hC : CS S) (hV : ∀ k, k < 144 → m_I S 11 k = V k) : fX0_lengthOfLine S 8 v = some (nI (len V v 144)) := by
  unfold fX0_lengthOfLine bX0_lengthOfLine_0
  rw [fin_l]
  refine lim_it2 (st := fun j => (8, v, nI (len V v j), nI j)) 144 (fun j hj => ?_) ?_
  · show bX0_lengthOfLine_4 S 8 v (nI (len V v j)) (nI j) = _
    have e1 : nI j - nI j / (12 : Int32) * (12 : Int32) = nI (j % 12) := nI_rem (b := 12) (by omega) (by omega) (by omega)
    have e2 : nI j / (12 : Int32) = nI (j / 12) := nI_div (b := 12) (by omega) (by omega) (by omega)
    rw [e2] at e1
    have c1 : ((11 : Int32) ≤ nI (j % 12)) = (11 ≤ j % 12) := propext (nI_leI (a := 11) (by omega) (by omega))
    have c2 : ((11 : Int32) ≤ nI (j / 12)) = (132 ≤ j) := propext ((nI_leI (a := 11) (by omega) (by omega)).trans (by omega))
    have e12 : nI j + 12 = nI (j + 12) := nI_add j 12
    unfold bX0_lengthOfLine_4 bX0_lengthOfLine_26 bX0_lengthOfLine_54 bX0_lengthOfLine_62 bX0_lengthOfLine_89 bX0_lengthOfLine_97
    rw [len_s]
    simp only [if_neg (show ¬ (144 : Int32) ≤ nI j from nI_ge (b := 144) hj (by omega)), cP8_4 hC, cL11 hC rfl hj, hV j hj, Option.bind_some, e1, e2, c1, c2, nI_1, e12]
    by_cases a1 : 11 ≤ j % 12
    · by_cases a2 : 132 ≤ j
      · simp only [a1, a2, if_true, not_true, false_and, if_false, Nat.add_zero, ite_self]
      · simp only [a1, a2, if_true, if_false, not_true, false_and, not_false_eq_true, true_and, Nat.add_zero, cL11 hC rfl (show j + 12 < 144 by omega), hV (j + 12) (by omega), Option.bind_some, nI_1]
        by_cases b0 : v ≤ V j <;> by_cases b2 : v ≤ V (j + 12) <;> simp [b0, b2]
    · by_cases a2 : 132 ≤ j
      · simp only [a1, a2, if_true, if_false, not_true, false_and, not_false_eq_true, true_and, Nat.add_zero, cL11 hC rfl (show j + 1 < 144 by omega), hV (j + 1) (by omega), Option.bind_some, nI_1]
        by_cases b0 : v ≤ V j <;> by_cases b1 : v ≤ V (j + 1) <;> simp [b0, b1]
      · simp only [a1, a2, if_false, not_false_eq_true, true_and, cL11 hC rfl (show j + 1 < 144 by omega), hV (j + 1) (by omega), cL11 hC rfl (show j + 12 < 144 by omega), hV (j + 12) (by omega), Option.bind_some, nI_1]
        by_cases b0 : v ≤ V j <;> by_cases b1 : v ≤ V (j + 1) <;> by_cases b2 : v ≤ V (j + 12) <;> simp [b0, b1, b2]
  · show bX0_lengthOfLine_4 S 8 v (nI (len V v 144)) (nI 144) = _
    unfold bX0_lengthOfLine_4
    rw [if_pos (by decide)]
theorem R_length (hV : ∀ k, k < 144 → I 17 k = V k) : fX10_lengthOf (mkR I J) 1 v = some (nI (len V v 144)) := by
  unfold fX10_lengthOf bX10_lengthOf_0
  rw [fin_l]
  refine lim_it2 (st := fun j => (1, v, nI (len V v j), nI j)) 144 (fun j hj => ?_) ?_
  · show bX10_lengthOf_4 (mkR I J) 1 v (nI (len V v j)) (nI j) = _
    have e1 : nI j - nI j / (12 : Int32) * (12 : Int32) = nI (j % 12) := nI_rem (b := 12) (by omega) (by omega) (by omega)
    have c1 : ((11 : Int32) ≤ nI (j % 12)) = (11 ≤ j % 12) := propext (nI_leI (a := 11) (by omega) (by omega))
    have c2 : ((132 : Int32) ≤ nI j) = (132 ≤ j) := propext (nI_leI (a := 132) (by omega) (by omega))
    have e12 : nI j + 12 = nI (j + 12) := nI_add j 12
    have z0 : ∀ x, nI x + 0 = nI x := fun x => nI_add x 0
    have r0 : fX10_isBelow (mkR I J) 1 (nI j) v = some (if v ≤ V j then 0 else 1) := R_isBelow hV hj
    unfold bX10_lengthOf_4 bX10_lengthOf_42 bX10_lengthOf_43 bX10_lengthOf_75 bX10_lengthOf_76
    rw [len_s]
    simp only [if_neg (show ¬ (144 : Int32) ≤ nI j from nI_ge (b := 144) hj (by omega)), rIs, r0, Option.bind_some, e1, c1, c2, nI_1, e12, z0]
    by_cases a1 : 11 ≤ j % 12
    · by_cases a2 : 132 ≤ j
      · simp only [a1, a2, if_true, not_true, false_and, if_false, Nat.add_zero]
      · simp only [a1, a2, if_true, if_false, not_true, false_and, not_false_eq_true, true_and, Nat.add_zero, R_isBelow hV (show j + 12 < 144 by omega), Option.bind_some, nI_1]
        by_cases b0 : v ≤ V j <;> by_cases b2 : v ≤ V (j + 12) <;> simp [b0, b2]
    · have r1 : fX10_isBelow (mkR I J) 1 (nI (j + 1)) v = some (if v ≤ V (j + 1) then 0 else 1) := R_isBelow hV (by omega)
      by_cases a2 : 132 ≤ j
      · simp only [a1, a2, if_true, if_false, not_true, false_and, not_false_eq_true, true_and, Nat.add_zero, r1, Option.bind_some, nI_1]
        by_cases b0 : v ≤ V j <;> by_cases b1 : v ≤ V (j + 1) <;> simp [b0, b1]
      · simp only [a1, a2, if_false, not_false_eq_true, true_and, r1, R_isBelow hV (show j + 12 < 144 by omega), Option.bind_some, nI_1]
        by_cases b0 : v ≤ V j <;> by_cases b1 : v ≤ V (j + 1) <;> by_cases b2 : v ≤ V (j + 12) <;> simp [b0, b1, b2]
  · show bX10_lengthOf_4 (mkR I J) 1 v (nI (len V v 144)) (nI 144) = _
    unfold bX10_lengthOf_4
    rw [if_pos (by decide)]
theorem C_below (hC : CS S) (hV : ∀ k, k < 144 → m_I S 11 k = V k) : fX0_countBelow S 8 v = some (nI (blw V v 144)) := by
  unfold fX0_countBelow bX0_countBelow_0
  rw [fin_l]
  refine lim_it2 (st := fun j => (8, v, nI (blw V v j), nI j)) 144 (fun j hj => ?_) ?_
  · show bX0_countBelow_4 S 8 v (nI (blw V v j)) (nI j) = _
    unfold bX0_countBelow_4 bX0_countBelow_24
    simp only [if_neg (show ¬ (144 : Int32) ≤ nI j from nI_ge (b := 144) hj (by omega)), cP8_4 hC, cL11 hC rfl hj, hV j hj, Option.bind_some, nI_1]
    have hc : blw V v (j + 1) = blw V v j + (if v ≤ V j then 0 else 1) := rfl
    rw [hc]
    by_cases h : v ≤ V j
    · rw [if_pos h, if_pos h]
      rfl
    · rw [if_neg h, if_neg h]
  · show bX0_countBelow_4 S 8 v (nI (blw V v 144)) (nI 144) = _
    unfold bX0_countBelow_4
    rw [if_pos (by decide)]
theorem R_below (hV : ∀ k, k < 144 → I 17 k = V k) : lim sX10_line (1, v, 0, 0, mkR I J) = some (nI (blw V v 144), mkR I J) := by
  refine lim_it2 (step := sX10_line) (st := fun j => (1, v, nI (blw V v j), nI j, mkR I J)) 144 (fun j hj => ?_) ?_
  · show bX10_line_103 (mkR I J) 1 v (nI (blw V v j)) (nI j) = _
    unfold bX10_line_103 bX10_line_127
    simp only [if_neg (show ¬ (144 : Int32) ≤ nI j from nI_ge (b := 144) hj (by omega)), rIs, R_isBelow hV hj, Option.bind_some, nI_1]
    have hc : blw V v (j + 1) = blw V v j + (if v ≤ V j then 0 else 1) := rfl
    rw [hc]
    by_cases h : v ≤ V j
    · simp only [h, if_true]
      rw [show (0 : Int32) = nI 0 from rfl, nI_add]
    · simp only [h, if_false, e10]
  · show bX10_line_103 (mkR I J) 1 v (nI (blw V v 144)) (nI 144) = _
    unfold bX10_line_103
    rw [if_pos (by decide)]
theorem wrg_s {p : Nat} : wrg I np nw v (p + 1) = wrg I np nw v p + @ite _ (inV I nw p = true ∧ ¬ (v ≤ lvn I np nw p ↔ v ≤ val I np nw (plc I p (I 1 15)).toNatClampNeg)) (Classical.propDecidable _) 1 0 := rfl
theorem wrg_0 {p : Nat} (h : ¬ (inV I nw p = true ∧ ¬ (v ≤ lvn I np nw p ↔ v ≤ val I np nw (plc I p (I 1 15)).toNatClampNeg))) : wrg I np nw v (p + 1) = wrg I np nw v p := by
  rw [wrg_s, if_neg h]
  rfl
theorem wrg_1 {p : Nat} (h : inV I nw p = true ∧ ¬ (v ≤ lvn I np nw p ↔ v ≤ val I np nw (plc I p (I 1 15)).toNatClampNeg)) : wrg I np nw v (p + 1) = wrg I np nw v p + 1 := by
  rw [wrg_s, if_pos h]
theorem inV_pl {p : Nat} (hp : poR I p) (hv : inV I nw p = true) : ∃ k, k < 144 ∧ plc I p (I 1 15) = nI k := by
  unfold inV at hv
  cases hs : shn I nw p with
  | none => rw [hs] at hv; cases hv
  | some w => exact (plc_b hp (I 1 15)).resolve_left (shn_lt hs).2.2.2
theorem C_wrong (hB : Bas S I np nw ep ew ps ws) (hs : Stt S I np nw) : fX0_countWrong S 8 2 v = some (nI (wrg I np nw v np)) := by
  obtain ⟨hC, hP, hW, hD⟩ := hB
  have hn := hP.1
  unfold fX0_countWrong bX0_countWrong_0
  rw [fin_l]
  refine lim_it2 (st := fun j => (8, 2, v, nI (wrg I np nw v j), nI j)) np (fun j hj => ?_) ?_
  · show bX0_countWrong_5 S 8 2 v (nI (wrg I np nw v j)) (nI j) = _
    have hj12 : j < 12 := by omega
    have e0 : (mk (inV I nw) np).testBit j = inV I nw j := by rw [mk_bit]; simp [hj]
    unfold bX0_countWrong_5 bX0_countWrong_45 bX0_countWrong_66 bX0_countWrong_72
    simp only [cP2_0 hC, at_is hP.2.2.1.1.1, L_size hP.2.2.1, if_neg (nI_ge hj (show np < 2 ^ 31 by omega)), cI2 hC, hD.2.1.1, C_isIn hj12, e0, cP8_1 hC, cL9 hC rfl hj12, hs.1 j hj, cP8_4 hC, cP2_4 hC, cL5 hC rfl hj12, (hD.2.2 j hj).1, Option.bind_some, nI_1]
    by_cases hv : inV I nw j = true
    · obtain ⟨k, hk, ek⟩ := inV_pl (hP.2.2.2 j hj).2 hv
      have hcl : (plc I j (I 1 15)).toNatClampNeg = k := by rw [ek, nI_clamp (by omega)]
      simp only [hv, if_true, e10, if_false, ek, cL11 hC rfl hk, hs.2.2.2 k hk, Option.bind_some]
      by_cases b0 : v ≤ lvn I np nw j
      · by_cases b1 : v ≤ val I np nw k
        · rw [wrg_0 (fun q => q.2 (by rw [hcl]; exact ⟨fun _ => b1, fun _ => b0⟩))]
          simp only [b0, b1, if_true]
        · rw [wrg_1 ⟨hv, fun q => b1 (by rw [hcl] at q; exact q.mp b0)⟩]
          simp only [b0, b1, if_true, if_false, show ((0 : Int32) = 1) = False by decide]
      · by_cases b1 : v ≤ val I np nw k
        · rw [wrg_1 ⟨hv, fun q => b0 (by rw [hcl] at q; exact q.mpr b1)⟩]
          simp only [b0, b1, if_true, if_false, e10]
        · rw [wrg_0 (fun q => q.2 (by rw [hcl]; exact ⟨fun z => absurd z b0, fun z => absurd z b1⟩))]
          simp only [b0, b1, if_true, if_false]
    · have hv' : inV I nw j = false := by simpa using hv
      rw [wrg_0 (fun q => hv q.1)]
      simp only [hv', Bool.false_eq_true, if_false, if_true]
  · show bX0_countWrong_5 S 8 2 v (nI (wrg I np nw v np)) (nI np) = _
    unfold bX0_countWrong_5
    simp only [cP2_0 hC, at_is hP.2.2.1.1.1, L_size hP.2.2.1, if_pos (nI_le (Nat.le_refl np) (show np < 2 ^ 31 by omega)), Option.bind_some]
theorem R_wrong (hR : RawOk I np nw) (hl : Lai I np nw) : fX10_wrongOf (mkR I J) 1 v = some (nI (wrg I np nw v np)) := by
  obtain ⟨⟨hn, h1⟩, ⟨hnw, h8⟩, hpo, hwi, hdg, -⟩ := hR
  unfold fX10_wrongOf bX10_wrongOf_0
  rw [fin_l]
  refine lim_it2 (st := fun j => (1, v, nI (wrg I np nw v j), nI j)) np (fun j hj => ?_) ?_
  · show bX10_wrongOf_4 (mkR I J) 1 v (nI (wrg I np nw v j)) (nI j) = _
    have hj12 : j < 12 := by omega
    have z0 : ∀ x, nI x + 0 = nI x := fun x => nI_add x 0
    unfold bX10_wrongOf_4 bX10_wrongOf_37 bX10_wrongOf_55 bX10_wrongOf_56
    simp only [rI, h1, if_neg (nI_ge hj (show np < 2 ^ 31 by omega)), rP20, rL14 rfl hj12, (hl.2.1 j hj).1, (hl.2.1 j hj).2, rP22, rL16 rfl hj12, hl.2.2.1 j hj, rP21, rL15 rfl hj12, rIs, Option.bind_some, nI_1, z0]
    by_cases hv : inV I nw j = true
    · obtain ⟨k, hk, ek⟩ := inV_pl (hpo j hj) hv
      have hcl : (plc I j (I 1 15)).toNatClampNeg = k := by rw [ek, nI_clamp (by omega)]
      have hlt : ¬ bn (shn I nw j) < 0 := by
        unfold inV at hv
        cases hs : shn I nw j with
        | none => rw [hs] at hv; cases hv
        | some w => exact nI_neg (by have := (shn_lt hs).1; omega)
      simp only [if_neg hlt, ek, R_isBelow (v := v) hl.2.2.2.2 hk, Option.bind_some]
      by_cases b0 : v ≤ lvn I np nw j
      · by_cases b1 : v ≤ val I np nw k
        · rw [wrg_0 (fun q => q.2 (by rw [hcl]; exact ⟨fun _ => b1, fun _ => b0⟩))]
          simp only [b0, b1, if_true]
        · rw [wrg_1 ⟨hv, fun q => b1 (by rw [hcl] at q; exact q.mp b0)⟩]
          simp only [b0, b1, if_true, if_false, show ((0 : Int32) = 1) = False by decide]
      · by_cases b1 : v ≤ val I np nw k
        · rw [wrg_1 ⟨hv, fun q => b0 (by rw [hcl] at q; exact q.mpr b1)⟩]
          simp only [b0, b1, if_true, if_false, e10]
        · rw [wrg_0 (fun q => q.2 (by rw [hcl]; exact ⟨fun z => absurd z b0, fun z => absurd z b1⟩))]
          simp only [b0, b1, if_true, if_false]
    · rw [wrg_0 (fun q => hv q.1)]
      have hs : shn I nw j = none := by
        unfold inV at hv
        cases hs : shn I nw j with
        | none => rfl
        | some w => rw [hs] at hv; exact absurd rfl hv
      simp only [hs, bn, e9l, if_true]
  · show bX10_wrongOf_4 (mkR I J) 1 v (nI (wrg I np nw v np)) (nI np) = _
    unfold bX10_wrongOf_4
    simp only [rI, h1, if_pos (nI_le (Nat.le_refl np) (show np < 2 ^ 31 by omega)), Option.bind_some]
theorem near_ne {ds : Nat → Int32} {L : List Nat} (h : near ds L = none) : L = [] := by
  have key : ∀ (L : List Nat) (b : Nat), ∃ c, L.foldl (nst ds) (some b) = some c := by
    intro L
    induction L with
    | nil => intro b; exact ⟨b, rfl⟩
    | cons x L ih =>
      intro b
      show ∃ c, L.foldl (nst ds) (nst ds (some b) x) = some c
      unfold nst
      simp only
      split
      · exact ih b
      · exact ih x
  cases L with
  | nil => rfl
  | cons x L =>
    obtain ⟨c, hc⟩ := key L x
    have : near ds (x :: L) = some c := hc
    rw [this] at h
    cases h
theorem val_all (hR : RawOk I np nw) (k : Nat) : val I np nw k = -9 ↔ val I np nw 0 = -9 := by
  have key : ∀ k, val I np nw k = -9 ↔ pre (bitp (dif (mk (inV I nw) np) (dd I np nw))) np = [] := by
    intro k
    unfold val
    cases h : vq I np nw (dd I np nw) (nI k) with
    | none => exact ⟨fun _ => near_ne h, fun _ => rfl⟩
    | some q =>
      have hq := vq_lt hR.1.1 h
      have hb := lvn_b (np := np) (hR.2.2.1 q hq.1) hq.2
      refine ⟨fun z => ?_, fun z => ?_⟩
      · simp only at z
        rw [z] at hb
        exact absurd hb.1 (by decide)
      · have := near_mem _ _ _ h
        rw [z] at this
        cases this
  rw [key k, key 0]
theorem cvl_0 (hR : RawOk I np nw) : cvl (val I np nw) 144 = 0 ↔ val I np nw 0 = -9 := by
  by_cases h : val I np nw 0 = -9
  · refine ⟨fun _ => h, fun _ => ?_⟩
    have : ∀ j, cvl (val I np nw) j = 0 := by
      intro j
      induction j with
      | zero => rfl
      | succ j ih =>
        show cvl (val I np nw) j + (if val I np nw j = -9 then 0 else 1) = 0
        rw [ih, if_pos ((val_all hR j).mpr h)]
    exact this 144
  · refine ⟨fun z => ?_, fun z => absurd z h⟩
    have hle : ∀ j, 1 ≤ j → 1 ≤ cvl (val I np nw) j := by
      intro j
      induction j with
      | zero => intro hj; omega
      | succ j ih =>
        intro _
        show 1 ≤ cvl (val I np nw) j + (if val I np nw j = -9 then 0 else 1)
        rw [if_neg (fun q => h ((val_all hR j).mp q))]
        omega
    have := hle 144 (by omega)
    omega
theorem cvl_le (V : Nat → Int32) (j : Nat) : cvl V j ≤ j := by
  induction j with
  | zero => exact Nat.le_refl _
  | succ j ih =>
    show cvl V j + (if V j = -9 then 0 else 1) ≤ _
    split <;> omega
end LN
