/-! the class: rivals; values by the nearest -/
theorem mk_0 {f : Nat → Bool} {n : Nat} (h : ∀ k, k < n → f k = false) : mk f n = 0 := by
  induction n with
  | zero => rfl
  | succ n ih => rw [mk_no (h n (by omega)), ih (fun k hk => h k (by omega))]
section RV
variable {S : MS} {I : Nat → Nat → Int32} {J : Nat → Nat → Int64} {np nw ep ew : Nat} {ps ws : Nat → Nat} {lv : Nat → Int32} {st : Int32}
theorem C_rivalsOf (hC : CS S) (hP : Pos S I np ep ps) (hD : Dsk S I np nw) (hl : ∀ p, p < np → m_I S 9 p = lv p) (hs : m_I S 8 0 = st) {p : Nat} (hp : p < np) : fX0_rivalsOf S 8 2 (nI p) = some (nI (mk (agb (inV I nw) lv (fun p => plc I p (I 1 15)) st np p) np)) := by
  have hn := hP.1
  have hp12 : p < 12 := by omega
  have e0 : (mk (inV I nw) np).testBit p = inV I nw p := by rw [mk_bit]; simp [hp]
  unfold fX0_rivalsOf bX0_rivalsOf_0
  simp only [cI2 hC, hD.2.1.1, C_isIn hp12, e0, Option.bind_some]
  by_cases hv : inV I nw p = true
  · rw [if_neg (by rw [if_pos hv]; decide), fin_l]
    refine lim_it2 (st := fun q => (8, 2, nI p, nI (mk (agb (inV I nw) lv (fun p => plc I p (I 1 15)) st np p) q), nI q)) np (fun q hq => ?_) ?_
    · show bX0_rivalsOf_18 S 8 2 (nI p) (nI (mk _ q)) (nI q) = _
      have hq12 : q < 12 := by omega
      have e1 : ¬ nI np ≤ nI q := nI_ge hq (by omega)
      have eq : (mk (inV I nw) np).testBit q = inV I nw q := by rw [mk_bit]; simp [hq]
      have epq : (nI q = nI p) = (q = p) := propext (nI_eq (by omega) (by omega))
      unfold bX0_rivalsOf_18 bX0_rivalsOf_100
      simp only [cP2_0 hC, at_is hP.2.2.1.1.1, L_size hP.2.2.1, if_neg e1, epq, cI2 hC, hD.2.1.1, C_isIn hq12, eq, cP2_4 hC, cL5 hC rfl hp12, cL5 hC rfl hq12, (hD.2.2 p hp).1, (hD.2.2 q hq).1, C_steps, cP8_1 hC, cL9 hC rfl hp12, cL9 hC rfl hq12, hl p hp, hl q hq, C_abs, cI8 hC, hs, sh1 q hq12, nI_or, nI_1, Option.bind_some]
      generalize hag : agb (inV I nw) lv (fun p => plc I p (I 1 15)) st np p = a
      have no : a q = false → mk a (q + 1) = mk a q := fun hx => mk_no hx
      by_cases c1 : q = p
      · have : a q = false := by rw [← hag]; exact agb_n (fun x => x.2.2.1 c1.symm)
        rw [no this, if_pos c1]
      · rw [if_neg c1]
        by_cases c2 : inV I nw q = true
        · rw [if_neg (by rw [if_pos c2]; decide)]
          by_cases c3 : ab (lv p - lv q) ≤ st * stp (plc I p (I 1 15)) (plc I q (I 1 15))
          · have : a q = false := by rw [← hag]; exact agb_n (fun x => x.2.2.2.2.2 c3)
            rw [no this, if_pos c3]
          · have : a q = true := by rw [← hag]; exact agb_y ⟨hp, hq, fun e => c1 e.symm, hv, c2, c3⟩
            rw [if_neg c3, mk_or this]
        · have : a q = false := by rw [← hag]; exact agb_n (fun x => c2 x.2.2.2.2.1)
          rw [no this, if_pos (by rw [if_neg c2])]
    · show bX0_rivalsOf_18 S 8 2 (nI p) (nI (mk _ np)) (nI np) = _
      have e1 : nI np ≤ nI np := nI_le (Nat.le_refl _) (by omega)
      unfold bX0_rivalsOf_18
      simp only [cP2_0 hC, at_is hP.2.2.1.1.1, L_size hP.2.2.1, if_pos e1, Option.bind_some]
  · rw [if_pos (by rw [if_neg hv]), fin_r, mk_0 (fun q _ => agb_n (fun x => hv x.2.2.2.1))]
    rfl
/-- the post whose level a place takes -/
noncomputable def vq (I : Nat → Nat → Int32) (np nw d : Nat) (place : Int32) : Option Nat := nq I np (dif (mk (inV I nw) np) d) place
theorem R_valueAt {lvl' : Nat → Int32} (hn : np ≤ 12) (h1 : I 1 1 = nI np) (hl : Laid1 I np nw) (hv : ∀ p, p < np → I 16 p = lvl' p) {d : Nat} (hd : I 1 23 = nI d) (hnw : nw ≤ 30) {place : Int32} : fX10_valueAt (mkR I J) 1 place = some (match vq I np nw d place with | none => -9 | some q => lvl' q) := by
  have hmk : mk (inV I nw) np < 4096 := Nat.lt_of_lt_of_le (mk_lt _ np) (by
    have : 2 ^ np ≤ 2 ^ 12 := Nat.pow_le_pow_right (by decide) hn
    exact this)
  unfold fX10_valueAt bX10_valueAt_0 vq nq
  rw [fin_l]
  generalize hDD : (fun q => farI (plc I q (I 1 15)) place) = D
  have hD' : ∀ q, farI (plc I q (I 1 15)) place = D q := fun q => by rw [← hDD]
  generalize hm : dif (mk (inV I nw) np) d = m
  have hbit : ∀ j, j < np → m.testBit j = (inV I nw j && !d.testBit j) := fun j hj => by
    rw [← hm, dif_bit hmk, mk_bit]
    simp [hj]
  have hlt : ∀ j b, near D (pre (bitp m) j) = some b → b < j := fun j b hb => by
    have := near_mem _ _ _ hb
    unfold pre at this
    obtain ⟨n, hn, hr⟩ := List.mem_filterMap.mp this
    rw [List.mem_range] at hn
    unfold bitp at hr
    split at hr
    · cases hr; omega
    · cases hr
  refine lim_it2 (st := fun j => (1, place, bn (near D (pre (bitp m) j)), nI j)) np (fun j hj => ?_) ?_
  · show bX10_valueAt_5 (mkR I J) 1 place (bn (near D (pre (bitp m) j))) (nI j) = _
    have hj12 : j < 12 := by omega
    have e1 : ¬ nI np ≤ nI j := nI_ge hj (by omega)
    have hstep : (if m.testBit j = true then bX10_valueAt_38 (mkR I J) 1 place (bn (near D (pre (bitp m) j))) (nI j) 1 else bX10_valueAt_37 (mkR I J) 1 place (bn (near D (pre (bitp m) j))) (nI j)) = some (.inl (1, place, bn (near D (pre (bitp m) (j + 1))), nI (j + 1))) := by
      unfold bX10_valueAt_37 bX10_valueAt_38 bX10_valueAt_76 bX10_valueAt_72 bX10_valueAt_77
      by_cases hb : m.testBit j = true
      · have hpj : bitp m j = some j := if_pos hb
        rw [pre_p hpj, near_app]
        simp only [hb, if_true, e10, if_false, rP21, rL15 rfl hj12, (hl j hj).2, R_far, hD', Option.bind_some, nI_1]
        cases hn : near D (pre (bitp m) j) with
        | none => simp only [bn, nst, e9l, if_true]
        | some b =>
          have hbj := hlt j b hn
          have e9 : (nI b < 0) = False := eq_false (nI_neg (by omega))
          by_cases hle : D b ≤ D j
          · simp only [bn, nst, e9, if_false, rL15 rfl (show b < 12 by omega), (hl b (by omega)).2, R_far, hD', Option.bind_some, hle, if_true]
          · simp only [bn, nst, e9, if_false, rL15 rfl (show b < 12 by omega), (hl b (by omega)).2, R_far, hD', Option.bind_some, hle]
      · have hpj : bitp m j = none := if_neg hb
        have hb' : m.testBit j = false := by simpa using hb
        rw [pre_n hpj]
        simp only [hb', Bool.false_eq_true, if_false, if_true, Option.bind_some, nI_1]
    rw [← hstep, hbit j hj]
    unfold bX10_valueAt_5
    simp only [rI, h1, hd, rP20, rL14 rfl hj12, (hl j hj).1, R_hasBit hj12, Option.bind_some, if_neg e1]
    unfold inV
    cases hs : shn I nw j with
    | none => simp only [bn, e9l, if_true, Option.isSome_none, Bool.false_and, Bool.false_eq_true, if_false]
    | some w =>
      have hw := (shn_lt hs).1
      have e9 : (nI w < 0) = False := eq_false (nI_neg (by omega))
      by_cases ht : d.testBit j = true
      · simp only [bn, e9, if_false, ht, if_true, e10, Option.isSome_some, Bool.not_true, Bool.and_false, Bool.false_eq_true]
      · have ht' : d.testBit j = false := by simpa using ht
        simp only [bn, e9, if_false, ht', Bool.false_eq_true, if_true, Option.isSome_some, Bool.not_false, Bool.and_true]
  · show bX10_valueAt_5 (mkR I J) 1 place (bn (near D (pre (bitp m) np))) (nI np) = _
    have e1 : nI np ≤ nI np := nI_le (Nat.le_refl _) (by omega)
    unfold bX10_valueAt_5 bX10_valueAt_99 bX10_valueAt_37 bX10_valueAt_38 bX10_valueAt_76 bX10_valueAt_72 bX10_valueAt_77
    simp only [rI, h1, Option.bind_some, if_pos e1]
    cases hn : near D (pre (bitp m) np) with
    | none => simp only [bn, show ((0 : Int32) ≤ -9) = False from eq_false m9lt, if_false]
    | some b =>
      have hb := hlt np b hn
      have e9 : (0 ≤ nI b) = True := eq_true (nI_pos' (by omega))
      simp only [bn, e9, if_true, rP22, rL16 rfl (show b < 12 by omega), hv b hb, Option.bind_some]
end RV
