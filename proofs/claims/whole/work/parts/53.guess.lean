/-! guesses -/
def farI (x0 x1 : Int32) : Int32 := ((x0 - x0 / 12 * 12) - (x1 - x1 / 12 * 12)) * ((x0 - x0 / 12 * 12) - (x1 - x1 / 12 * 12)) + (x0 / 12 - x1 / 12) * (x0 / 12 - x1 / 12)
def stp (x0 x1 : Int32) : Int32 := mx (ab ((x0 - x0 / 12 * 12) - (x1 - x1 / 12 * 12))) (ab (x0 / 12 - x1 / 12))
theorem R_far (x y : Int32) : fX10_far x y = some (farI x y) := rfl
theorem C_far (x y : Int32) : fX9_farBetween x y = some (farI x y) := rfl
theorem R_steps (x y : Int32) : fX10_stepsOf x y = some (stp x y) := by
  unfold fX10_stepsOf bX10_stepsOf_0 stp
  simp only [R_sizeOf, R_greater, Option.bind_some]
theorem C_steps (x y : Int32) : fX9_stepsBetween x y = some (stp x y) := by
  unfold fX9_stepsBetween bX9_stepsBetween_0 stp
  simp only [C_abs, C_max, Option.bind_some]
def bitp (m p : Nat) : Option Nat := if m.testBit p = true then some p else none
def clr (m q : Nat) : Nat := mk (fun k => m.testBit k && !decide (k = q)) 12
theorem clr_lt (m q : Nat) : clr m q < 4096 := mk_lt _ 12
theorem clr_bit {m q : Nat} (hm : m < 4096) (k : Nat) : (clr m q).testBit k = (m.testBit k && !decide (k = q)) := by
  unfold clr
  rw [mk_bit]
  by_cases hk : k < 12
  · simp [hk]
  · have : m.testBit k = false := Nat.testBit_lt_two_pow (Nat.lt_of_lt_of_le hm (by
      have : 2 ^ 12 ≤ 2 ^ k := Nat.pow_le_pow_right (by decide) (by omega)
      exact this))
    simp [hk, this]
theorem nI_clr {m q : Nat} (hm : m < 4096) : nI m &&& (nI (2 ^ q) ^^^ -1) = nI (clr m q) := bt_ext (fun k hk => by
  rw [bt_and, bt_xor, bt_m1 k hk, bt_nI, bt_nI, bt_nI, clr_bit hm, Nat.testBit_two_pow]
  simp only [hk, decide_true, Bool.true_and, Bool.xor_true]
  by_cases h : k = q
  · subst h; simp
  · have : ¬ q = k := fun e => h e.symm
    simp [h, this])
/-- the post nearest to a place, of a set -/
noncomputable def nq (I : Nat → Nat → Int32) (np m : Nat) (place : Int32) : Option Nat := near (fun p => farI (plc I p (I 1 15)) place) (pre (bitp m) np)
theorem nq_lt {I : Nat → Nat → Int32} {np m q : Nat} {place : Int32} (h : nq I np m place = some q) : q < np ∧ m.testBit q = true := by
  have := near_mem _ _ _ h
  unfold pre at this
  obtain ⟨n, hn, hr⟩ := List.mem_filterMap.mp this
  rw [List.mem_range] at hn
  unfold bitp at hr
  split at hr
  · cases hr; exact ⟨hn, by assumption⟩
  · cases hr
noncomputable def grun (I : Nat → Nat → Int32) (np nw : Nat) (place : Int32) : Nat → Nat → Int32 → Nat → Int32 × Nat
  | 0, _, s, c => (s, c)
  | k + 1, m, s, c => match nq I np m place with
    | none => (s, c)
    | some q => grun I np nw place k (clr m q) (s + slv I nw q) (c + 1)
def gres (r : Int32 × Nat) : Int32 := if r.2 = 0 then 10000 else byd r.1 (nI r.2)
/-- the guess for a wire of post p -/
noncomputable def gue (I : Nat → Nat → Int32) (np nw p : Nat) : Int32 := gres (grun I np nw (plc I p (I 1 15)) 3 (clr (mk (sur I nw) np) p) 0 0)
section GU
variable {S : MS} {I : Nat → Nat → Int32} {J : Nat → Nat → Int64} {np nw ep ew : Nat} {ps ws : Nat → Nat}
theorem C_nearestOf {m : Nat} {place : Int32} (hC : CS S) (hP : Pos S I np ep ps) (hD : Dsk S I np nw) : fX1_nearestOf S 2 (nI m) place = some (bn (nq I np m place)) := by
  have hnp := hP.1
  unfold fX1_nearestOf bX1_nearestOf_0 nq
  rw [fin_l]
  generalize hDD : (fun p => farI (plc I p (I 1 15)) place) = D
  have hD' : ∀ p, farI (plc I p (I 1 15)) place = D p := fun p => by rw [← hDD]
  refine lim_it2 (st := fun j => (2, nI m, place, bn (near D (pre (bitp m) j)), (match near D (pre (bitp m) j) with | none => (0 : Int32) | some b => D b), nI j)) np (fun j hj => ?_) ?_
  · show bX1_nearestOf_9 S 2 (nI m) place (bn (near D (pre (bitp m) j))) _ (nI j) = _
    have hj12 : j < 12 := by omega
    have e1 : ¬ nI np ≤ nI j := nI_ge hj (by omega)
    unfold bX1_nearestOf_9 bX1_nearestOf_56 bX1_nearestOf_63
    simp only [cP2_0 hC, cP2_4 hC, at_is hP.2.2.1.1.1, L_size hP.2.2.1, Option.bind_some, if_neg e1, C_isIn hj12, cL5 hC rfl hj12, (hD.2.2 j hj).1, C_far, hD', nI_1]
    by_cases hb : m.testBit j = true
    · have hp : bitp m j = some j := if_pos hb
      rw [pre_p hp, near_app]
      simp only [hb, if_true, e10, if_false]
      cases hn : near D (pre (bitp m) j) with
      | none => simp only [bn, nst, if_true]
      | some b =>
        have hbj : b < np := by
          have := near_mem _ _ _ hn
          unfold pre at this
          obtain ⟨n, hn, hr⟩ := List.mem_filterMap.mp this
          rw [List.mem_range] at hn
          unfold bitp at hr
          split at hr
          · cases hr; omega
          · cases hr
        have e9 : (nI b = -9) = False := eq_false (m9 (by omega))
        by_cases hle : D b ≤ D j
        · simp only [bn, nst, e9, if_false, hle, if_true]
        · simp only [bn, nst, e9, if_false, hle]
    · have hp : bitp m j = none := if_neg hb
      rw [pre_n hp]
      have hb' : m.testBit j = false := by simpa using hb
      simp only [hb', Bool.false_eq_true, if_false, if_true]
  · show bX1_nearestOf_9 S 2 (nI m) place (bn (near D (pre (bitp m) np))) _ (nI np) = _
    have e1 : nI np ≤ nI np := nI_le (Nat.le_refl _) (by omega)
    unfold bX1_nearestOf_9 bX1_nearestOf_56 bX1_nearestOf_63
    simp only [cP2_0 hC, at_is hP.2.2.1.1.1, L_size hP.2.2.1, Option.bind_some, if_pos e1]
theorem gres_c {s : Int32} {c : Nat} (hc : c ≤ 3) : bX1_guessFor_82 S s (nI c) = some (.inr (gres (s, c))) := by
  unfold bX1_guessFor_82 bX1_guessFor_99 gres
  have e0 : (nI c = 0) = (c = 0) := propext (nI_eq (b := 0) (by omega) (by omega))
  simp only [e0]
  by_cases h : c = 0
  · simp only [h, if_true]
  · simp only [h, if_false, C_floorDiv (v := s) (m := nI c) (n := c) (nI_toInt (by omega)) (by omega), Option.bind_some]
theorem gres_r {s : Int32} {c : Nat} (hc : c ≤ 3) : bX10_guessOf_203 S s (nI c) = some (.inr (gres (s, c))) := by
  unfold bX10_guessOf_203 bX10_guessOf_220 gres
  have e0 : (nI c = 0) = (c = 0) := propext (nI_eq (b := 0) (by omega) (by omega))
  simp only [e0]
  by_cases h : c = 0
  · simp only [h, if_true]
  · have h2 : ¬ nI c = 0 := by rw [e0]; exact h
    simp only [h, if_false, R_by (v := s) h2, Option.bind_some]
theorem C_guessFor {a p : Nat} (hC : CS S) (hP : Pos S I np ep ps) (hD : Dsk S I np nw) (ha : m_at S a 9) (h0 : m_I S a 0 = nI p) (hp : p < np) : fX1_guessFor S 2 a = some (gue I np nw p) := by
  have hnp := hP.1
  have hmk : mk (sur I nw) np < 4096 := Nat.lt_of_lt_of_le (mk_lt _ np) (by
    have : 2 ^ np ≤ 2 ^ 12 := Nat.pow_le_pow_right (by decide) hnp
    exact this)
  have hh : ∀ (k c m : Nat) (s : Int32), c + k = 3 → m < 4096 → (∀ q, q < np → m.testBit q = true → sur I nw q = true) → hX1_guessFor_22 S 2 a (nI m) s (nI c) (nI c) = some (gres (grun I np nw (plc I p (I 1 15)) k m s c)) := by
    intro k
    induction k with
    | zero =>
      intro c m s hc hm hms
      have hc3 : c = 3 := by omega
      rw [qX1_guessFor_22]
      unfold bX1_guessFor_22
      rw [if_pos (show (3 : Int32) ≤ nI c by rw [hc3]; decide), gres_c (by omega), fin_r]
      rfl
    | succ k ih =>
      intro c m s hc hm hms
      rw [qX1_guessFor_22]
      unfold bX1_guessFor_22
      have e3 : ¬ (3 : Int32) ≤ nI c := nI_ge (b := 3) (by omega) (by omega)
      simp only [if_neg e3, cP2_4 hC, at_gI ha, h0, cL5 hC rfl (show p < 12 by omega), (hD.2.2 p hp).1, cIs2 hC, C_nearestOf hC hP hD, Option.bind_some]
      unfold grun
      cases hn : nq I np m (plc I p (I 1 15)) with
      | none => simp only [bn, if_true, gres_c (S := S) (s := s) (show c ≤ 3 by omega), fin_r]
      | some q =>
        obtain ⟨hq, hqb⟩ := nq_lt hn
        have e9 : (nI q = -9) = False := eq_false (m9 (by omega))
        have hsl : m_I S 7 q = slv I nw q := (hD.2.2 q hq).2.2 (hms q hq hqb)
        simp only [bn, e9, if_false, sh1 q (show q < 12 by omega), nI_clr hm, cP2_6 hC, cL7 hC rfl (show q < 12 by omega), hsl, Option.bind_some, nI_1, fin_l]
        exact ih (c + 1) (clr m q) (s + slv I nw q) (by omega) (clr_lt _ _) (fun x hx hb => hms x hx (by
          rw [clr_bit hm] at hb
          simp only [Bool.and_eq_true] at hb
          exact hb.1))
  unfold fX1_guessFor bX1_guessFor_0
  simp only [cI2 hC, at_gI ha, h0, hD.2.1.2, sh1 p (show p < 12 by omega), nI_clr hmk, Option.bind_some, fin_l]
  refine hh 3 0 _ 0 (by omega) (clr_lt _ _) (fun x hx hb => ?_)
  rw [clr_bit hmk, mk_bit] at hb
  simp only [Bool.and_eq_true] at hb
  exact hb.1.2
/-- what the reference has laid of the posts: wires in view, and places -/
def Laid1 (I : Nat → Nat → Int32) (np nw : Nat) : Prop := ∀ p, p < np → I 14 p = bn (shn I nw p) ∧ I 15 p = plc I p (I 1 15)
theorem R_guessInner {p c t m : Nat} {s : Int32} (h1 : I 1 1 = nI np) (hn : np ≤ 12) (hnw : nw ≤ 30) (hl : Laid1 I np nw) (hr : ∀ w, w < nw → wiR I w) (hp : p < np) (hm : ∀ q, q < np → m.testBit q = (sur I nw q && !t.testBit q)) : hX10_guessOf_38 (mkR I J) 1 (nI p) s (nI c) (nI t) (-9) 0 = hX10_guessOf_38 (mkR I J) 1 (nI p) s (nI c) (nI t) (bn (nq I np m (plc I p (I 1 15)))) (nI np) := by
  unfold nq
  generalize hDD : (fun q => farI (plc I q (I 1 15)) (plc I p (I 1 15))) = D
  have hD' : ∀ q, farI (plc I q (I 1 15)) (plc I p (I 1 15)) = D q := fun q => by rw [← hDD]
  refine lim_it (step := sX10_guessOf (mkR I J)) (st := fun j => Sum.inr (1, nI p, s, nI c, nI t, bn (near D (pre (bitp m) j)), nI j)) np (fun j hj => ?_)
  show bX10_guessOf_38 (mkR I J) 1 (nI p) s (nI c) (nI t) (bn (near D (pre (bitp m) j))) (nI j) = _
  have hj12 : j < 12 := by omega
  have e1 : ¬ nI np ≤ nI j := nI_ge hj (by omega)
  have hstep : (if m.testBit j = true then bX10_guessOf_88 (mkR I J) 1 (nI p) s (nI c) (nI t) (bn (near D (pre (bitp m) j))) (nI j) 1 else bX10_guessOf_87 (mkR I J) 1 (nI p) s (nI c) (nI t) (bn (near D (pre (bitp m) j))) (nI j)) = some (.inl (.inr (1, nI p, s, nI c, nI t, bn (near D (pre (bitp m) (j + 1))), nI (j + 1)))) := by
    unfold bX10_guessOf_87 bX10_guessOf_88 bX10_guessOf_135 bX10_guessOf_140 bX10_guessOf_142
    by_cases hb : m.testBit j = true
    · have hpj : bitp m j = some j := if_pos hb
      rw [pre_p hpj, near_app]
      simp only [hb, if_true, e10, if_false, rP21, rL15 rfl hj12, rL15 rfl (show p < 12 by omega), (hl j hj).2, (hl p hp).2, R_far, hD', Option.bind_some, nI_1]
      cases hn : near D (pre (bitp m) j) with
      | none => simp only [bn, nst, e9l, if_true]
      | some b =>
        have hbj : b < np := by
          have := near_mem _ _ _ hn
          unfold pre at this
          obtain ⟨n, hn, hr⟩ := List.mem_filterMap.mp this
          rw [List.mem_range] at hn
          unfold bitp at hr
          split at hr
          · cases hr; omega
          · cases hr
        have e9 : (nI b < 0) = False := eq_false (nI_neg (by omega))
        by_cases hle : D b ≤ D j
        · simp only [bn, nst, e9, if_false, rL15 rfl (show b < 12 by omega), (hl b hbj).2, R_far, hD', Option.bind_some, hle, if_true]
        · simp only [bn, nst, e9, if_false, rL15 rfl (show b < 12 by omega), (hl b hbj).2, R_far, hD', Option.bind_some, hle]
    · have hpj : bitp m j = none := if_neg hb
      have hb' : m.testBit j = false := by simpa using hb
      rw [pre_n hpj]
      simp only [hb', Bool.false_eq_true, if_false, if_true, Option.bind_some, nI_1]
  rw [← hstep, hm j hj]
  unfold bX10_guessOf_38
  simp only [rI, h1, rP20, rL14 rfl hj12, (hl j hj).1, Option.bind_some, if_neg e1]
  unfold sur
  cases hs : shn I nw j with
  | none => simp only [bn, e9l, if_true, Bool.false_and, Bool.false_eq_true, if_false]
  | some w =>
    have hw := (shn_lt hs).1
    have e9 : (nI w < 0) = False := eq_false (nI_neg (by omega))
    have hrb := RD_len (Dig I w 1) 1
    have hone : (nI (rmy I w) = 1) = (rmy I w = 1) := propext (nI_eq (b := 1) (by unfold rmy; omega) (by omega))
    simp only [bn, e9, if_false, R_hasBit hj12, rP13, rL14 rfl hj12, (hl j hj).1, hs, rL12 rfl (show w < 30 by omega), (hr w hw).1, hone, Option.bind_some]
    by_cases ht : t.testBit j = true
    · simp only [ht, if_true, e10, if_false, Bool.not_true, Bool.and_false, Bool.false_eq_true]
    · have ht' : t.testBit j = false := by simpa using ht
      by_cases h1 : rmy I w = 1
      · simp only [ht', Bool.false_eq_true, if_false, if_true, h1, beq_self_eq_true, Bool.not_false, Bool.and_true]
      · have h1' : (rmy I w == 1) = false := by simpa using h1
        simp only [ht', Bool.false_eq_true, if_false, if_true, h1, h1', Bool.false_and]
theorem hX10_guessOf_20q {x2 x3 x4 x5 x6 : Int32} : hX10_guessOf_20 (mkR I J) 1 x2 x3 x4 x5 x6 = fin (sX10_guessOf (mkR I J)) (bX10_guessOf_20 (mkR I J) 1 x2 x3 x4 x5 x6) := lim_eq _ _
theorem hX10_guessOf_38q {x2 x3 x4 x5 x7 x8 : Int32} : hX10_guessOf_38 (mkR I J) 1 x2 x3 x4 x5 x7 x8 = fin (sX10_guessOf (mkR I J)) (bX10_guessOf_38 (mkR I J) 1 x2 x3 x4 x5 x7 x8) := lim_eq _ _
theorem R_guessOf {w p : Nat} (h1 : I 1 1 = nI np) (hn : np ≤ 12) (hnw : nw ≤ 30) (hl : Laid1 I np nw) (hr : ∀ w, w < nw → wiR I w) (hw : w < nw) (h8 : I 8 w = nI p) (hp : p < np) : fX10_guessOf (mkR I J) 1 (nI w) = some (gue I np nw p) := by
  have hmk : mk (sur I nw) np < 4096 := Nat.lt_of_lt_of_le (mk_lt _ np) (by
    have : 2 ^ np ≤ 2 ^ 12 := Nat.pow_le_pow_right (by decide) hn
    exact this)
  have hh : ∀ (k c m t : Nat) (s : Int32), c + k = 3 → m < 4096 → (∀ q, q < np → m.testBit q = (sur I nw q && !t.testBit q)) → hX10_guessOf_20 (mkR I J) 1 (nI p) s (nI c) (nI t) 1 = some (gres (grun I np nw (plc I p (I 1 15)) k m s c)) := by
    intro k
    induction k with
    | zero =>
      intro c m t s hc hm hms
      have hc3 : c = 3 := by omega
      rw [hX10_guessOf_20q]
      unfold bX10_guessOf_20
      rw [if_neg (by decide), if_pos (show (3 : Int32) ≤ nI c by rw [hc3]; decide), gres_r (by omega), fin_r]
      rfl
    | succ k ih =>
      intro c m t s hc hm hms
      rw [hX10_guessOf_20q]
      unfold bX10_guessOf_20
      have e3 : ¬ (3 : Int32) ≤ nI c := nI_ge (b := 3) (by omega) (by omega)
      rw [if_neg (by decide), if_neg e3, fin_l]
      show hX10_guessOf_38 (mkR I J) 1 (nI p) s (nI c) (nI t) (-9) 0 = _
      rw [R_guessInner h1 hn hnw hl hr hp hms, hX10_guessOf_38q]
      unfold bX10_guessOf_38 grun
      simp only [rI, h1, Option.bind_some, if_pos (nI_le (Nat.le_refl np) (show np < 2 ^ 31 by omega))]
      unfold bX10_guessOf_160 bX10_guessOf_200
      cases hnq : nq I np m (plc I p (I 1 15)) with
      | none =>
        simp only [bn, e9l, if_true, fin_l]
        show hX10_guessOf_20 (mkR I J) 1 (nI p) s (nI c) (nI t) 0 = _
        rw [hX10_guessOf_20q]
        unfold bX10_guessOf_20
        rw [if_pos rfl, gres_r (by omega), fin_r]
      | some q =>
        obtain ⟨hq, hqb⟩ := nq_lt hnq
        have e9 : (nI q < 0) = False := eq_false (nI_neg (by omega))
        have hq12 : q < 12 := by omega
        have hqs : sur I nw q = true := by
          rw [hms q hq] at hqb
          simp only [Bool.and_eq_true] at hqb
          exact hqb.1
        obtain ⟨w', hsh⟩ : ∃ w', shn I nw q = some w' := by
          cases hs : shn I nw q with
          | none => unfold sur at hqs; rw [hs] at hqs; cases hqs
          | some w' => exact ⟨w', rfl⟩
        have hw' := (shn_lt hsh).1
        have hsl : lvl (I 5 q) (rf1 I w') = slv I nw q := by unfold slv; rw [hsh]
        simp only [bn, e9, if_false, e10, rP14, rP20, rL14 rfl hq12, (hl q hq).1, hsh, rL13 rfl (show w' < 30 by omega), (hr w' hw').2, rIs, R_levelBy hq12, hsl, sh1 q hq12, nI_or, nI_1, Option.bind_some, fin_l]
        refine ih (c + 1) (clr m q) (t ||| 2 ^ q) (s + slv I nw q) (by omega) (clr_lt _ _) (fun x hx => ?_)
        rw [clr_bit hm, hms x hx, Nat.testBit_or, Nat.testBit_two_pow]
        by_cases hxq : x = q
        · subst hxq; simp
        · have : ¬ q = x := fun e => hxq e.symm
          simp [hxq, this]
  unfold fX10_guessOf bX10_guessOf_0
  simp only [rP9, rL8 rfl (show w < 30 by omega), h8, sh1 p (show p < 12 by omega), Option.bind_some, fin_l]
  refine hh 3 0 (clr (mk (sur I nw) np) p) (2 ^ p) 0 (by omega) (clr_lt _ _) (fun x hx => ?_)
  rw [clr_bit hmk, mk_bit, Nat.testBit_two_pow]
  by_cases hxp : x = p
  · subst hxp; simp
  · have : ¬ p = x := fun e => hxp e.symm
    simp [hxp, this, hx]
end GU
