/-! the fewest that are to be doubted -/
noncomputable def onl (P : Nat → Prop) (s : Nat) : Option Nat := @ite _ (P s) (Classical.propDecidable _) (some s) none
theorem onl_t {P : Nat → Prop} {s : Nat} (h : P s) : onl P s = some s := if_pos h
theorem onl_f {P : Nat → Prop} {s : Nat} (h : ¬ P s) : onl P s = none := if_neg h
/-- m is the first of the least of those below n -/
def Fst (D : Nat → Int32) (P : Nat → Prop) (n m : Nat) : Prop := m < n ∧ P m ∧ (∀ s, s < n → P s → D m ≤ D s) ∧ ∀ s, s < m → P s → ¬ D s ≤ D m
theorem near_none {D : Nat → Int32} {P : Nat → Prop} {n : Nat} (h : near D (pre (onl P) n) = none) : ∀ s, s < n → ¬ P s := by
  induction n with
  | zero => intro s hs; omega
  | succ n ih =>
    intro s hs hP
    by_cases hn : P n
    · rw [pre_p (onl_t hn), near_app] at h
      unfold nst at h
      cases hb : near D (pre (onl P) n) with
      | none => rw [hb] at h; cases h
      | some b =>
        rw [hb] at h
        simp only at h
        split at h <;> cases h
    · rw [pre_n (onl_f hn)] at h
      by_cases hsn : s = n
      · exact hn (hsn ▸ hP)
      · exact ih h s (by omega) hP
theorem i_lef {x y : Int32} (h : ¬ x ≤ y) : y ≤ x := by rw [i_le] at h ⊢; omega
theorem i_ltr {x y z : Int32} (h : x ≤ y) (h2 : y ≤ z) : x ≤ z := by rw [i_le] at h h2 ⊢; omega
theorem near_some {D : Nat → Int32} {P : Nat → Prop} {n m : Nat} (h : near D (pre (onl P) n) = some m) : Fst D P n m := by
  induction n generalizing m with
  | zero => cases h
  | succ n ih =>
    by_cases hn : P n
    · rw [pre_p (onl_t hn), near_app] at h
      unfold nst at h
      cases hb : near D (pre (onl P) n) with
      | none =>
        rw [hb] at h
        cases h
        have hno := near_none hb
        refine ⟨by omega, hn, fun s hs hP => ?_, fun s hs hP => absurd hP (hno s hs)⟩
        by_cases hsn : s = n
        · rw [hsn]; rw [i_le]; omega
        · exact absurd hP (hno s (by omega))
      | some b =>
        rw [hb] at h
        simp only at h
        obtain ⟨b1, b2, b3, b4⟩ := ih hb
        split at h
        · rename_i hle
          cases h
          refine ⟨by omega, b2, fun s hs hP => ?_, b4⟩
          by_cases hsn : s = n
          · rw [hsn]; exact hle
          · exact b3 s (by omega) hP
        · rename_i hle
          cases h
          refine ⟨by omega, hn, fun s hs hP => ?_, fun s hs hP hx => hle (i_ltr (b3 s hs hP) hx)⟩
          by_cases hsn : s = n
          · rw [hsn]; rw [i_le]; omega
          · exact i_ltr (i_lef hle) (b3 s (by omega) hP)
    · rw [pre_n (onl_f hn)] at h
      obtain ⟨b1, b2, b3, b4⟩ := ih h
      refine ⟨by omega, b2, fun s hs hP => ?_, b4⟩
      by_cases hsn : s = n
      · exact absurd (hsn ▸ hP) hn
      · exact b3 s (by omega) hP
theorem Fst.uq {D : Nat → Int32} {P : Nat → Prop} {n m m' : Nat} (h : Fst D P n m) (h' : Fst D P n m') : m = m' := by
  rcases Nat.lt_trichotomy m m' with h1 | h1 | h1
  · exact absurd (h.2.2.1 m' h'.1 h'.2.1) (h'.2.2.2 m h1 h.2.1)
  · exact h1
  · exact absurd (h'.2.2.1 m h.1 h.2.1) (h.2.2.2 m' h1 h'.2.1)
theorem near_of {D : Nat → Int32} {P : Nat → Prop} {n m : Nat} (h : Fst D P n m) : near D (pre (onl P) n) = some m := by
  cases hb : near D (pre (onl P) n) with
  | none => exact absurd h.2.1 (near_none hb m h.1)
  | some b => rw [(near_some hb).uq h]
/-- peace without s -/
def pcs (ag : Nat → Nat → Bool) (n s : Nat) : Prop := ∀ p, p < n → s.testBit p = false → ∀ q, q < n → ag p q = true → s.testBit q = true
def popD (s : Nat) : Int32 := nI (pop s 12)
noncomputable def dbt (ag : Nat → Nat → Bool) (n : Nat) : Nat := (near popD (pre (onl (pcs ag n)) (2 ^ n))).getD 0
theorem bt_0 : ∀ k, k < 32 → bt 0 k = false := by decide
theorem andn_0 {a b : Nat} (ha : a < 4096) : (nI a &&& (nI b ^^^ -1) = 0) = (∀ k, k < 12 → a.testBit k = true → b.testBit k = true) := by
  apply propext
  constructor
  · intro h k hk hak
    have h1 : bt (nI a &&& (nI b ^^^ -1)) k = false := by rw [h]; exact bt_0 k (by omega)
    rw [bt_and, bt_xor, bt_m1 k (by omega), bt_nI, bt_nI, hak] at h1
    simp only [show k < 32 by omega, decide_true, Bool.true_and, Bool.xor_true] at h1
    simpa using h1
  · intro h
    apply bt_ext
    intro k hk
    rw [bt_0 k hk, bt_and, bt_xor, bt_m1 k hk, bt_nI, bt_nI]
    simp only [hk, decide_true, Bool.true_and, Bool.xor_true]
    by_cases hak : a.testBit k = true
    · have hk12 : k < 12 := by
        apply Decidable.byContradiction
        intro hn
        have h2 : 2 ^ 12 ≤ 2 ^ k := Nat.pow_le_pow_right (by decide) (by omega)
        rw [Nat.testBit_lt_two_pow (Nat.lt_of_lt_of_le ha h2)] at hak
        cases hak
      rw [hak, h k hk12 hak]
      rfl
    · have : a.testBit k = false := by simpa using hak
      rw [this]
      rfl
theorem sh1' : ∀ p, p < 13 → (1 : Int32) <<< (nI p &&& 31) = nI (2 ^ p) := by decide
section DC
variable {S : MS} {ag : Nat → Nat → Bool} {n : Nat}
theorem C_leavesPeace (hC : CS S) (hn : n ≤ 12) (hr : ∀ p, p < n → m_I S 10 p = nI (mk (ag p) n)) {s : Nat} : fX0_leavesPeace S 8 (nI s) (nI n) = some (@ite _ (pcs ag n s) (Classical.propDecidable _) 1 0) := by
  have h12 : ∀ p, mk (ag p) n < 4096 := fun p => Nat.lt_of_lt_of_le (mk_lt _ n) (by
    have : 2 ^ n ≤ 2 ^ 12 := Nat.pow_le_pow_right (by decide) hn
    exact this)
  have one : ∀ p, (∀ k, k < 12 → (mk (ag p) n).testBit k = true → s.testBit k = true) ↔ ∀ q, q < n → ag p q = true → s.testBit q = true := fun p => by
    constructor
    · intro h q hq hx
      exact h q (by omega) (by rw [mk_bit]; simp [hq, hx])
    · intro h k hk hx
      rw [mk_bit] at hx
      simp only [Bool.and_eq_true, decide_eq_true_eq] at hx
      exact h k hx.1 hx.2
  have hh : ∀ (d j : Nat), j + d = n → (∀ p, p < j → s.testBit p = false → ∀ q, q < n → ag p q = true → s.testBit q = true) → hX0_leavesPeace_2 S 8 (nI s) (nI n) (nI j) = some (@ite _ (pcs ag n s) (Classical.propDecidable _) 1 0) := by
    intro d
    induction d with
    | zero =>
      intro j hj hk
      have hjn : j = n := by omega
      subst hjn
      rw [qX0_leavesPeace_2]
      unfold bX0_leavesPeace_2
      rw [if_pos (nI_le (Nat.le_refl _) (by omega)), fin_r, if_pos (show pcs ag j s from hk)]
    | succ d ih =>
      intro j hj hk
      rw [qX0_leavesPeace_2]
      unfold bX0_leavesPeace_2 bX0_leavesPeace_30
      have hj12 : j < 12 := by omega
      rw [if_neg (nI_ge (by omega) (by omega)), C_isIn hj12, Option.bind_some]
      by_cases hb : s.testBit j = true
      · rw [if_neg (by rw [if_pos hb]; decide), Option.bind_some, nI_1, fin_l]
        refine ih (j + 1) (by omega) (fun p hp hs => ?_)
        by_cases hpj : p = j
        · rw [hpj, hb] at hs; cases hs
        · exact hk p (by omega) hs
      · have hb' : s.testBit j = false := by simpa using hb
        rw [if_pos (by rw [if_neg hb])]
        simp only [cP8_2 hC, cL10 hC rfl hj12, hr j (by omega), Option.bind_some, andn_0 (h12 j)]
        by_cases hq : ∀ k, k < 12 → (mk (ag j) n).testBit k = true → s.testBit k = true
        · rw [if_pos hq, nI_1, fin_l]
          refine ih (j + 1) (by omega) (fun p hp hs => ?_)
          by_cases hpj : p = j
          · rw [hpj]; exact (one j).mp hq
          · exact hk p (by omega) hs
        · rw [if_neg hq, fin_r, if_neg]
          intro hp
          exact hq ((one j).mpr (hp j (by omega) hb'))
  have := hh n 0 (by omega) (fun p hp => by omega)
  unfold fX0_leavesPeace bX0_leavesPeace_0
  rw [fin_l]
  exact this
theorem pop_0 {s : Nat} (h : pop s 12 = 0) : popD s = 0 := by unfold popD; rw [h]; rfl
theorem popD_b (s : Nat) : (popD s).toInt = pop s 12 := nI_toInt (by have := pop_le s 12; omega)
theorem pop_2n {n j : Nat} (hj : j < 2 ^ n) (hn : n ≤ 12) : pop j 12 ≤ n := by
  rw [pop_cnt, cnt_ext hn (fun k hk => Nat.testBit_lt_two_pow (Nat.lt_of_lt_of_le hj (Nat.pow_le_pow_right (by decide) hk)))]
  exact cnt_le _ _
theorem near_fix {D : Nat → Int32} {P : Nat → Prop} {n j m : Nat} (h : near D (pre (onl P) j) = some m) (hj : j ≤ n) (hd : ∀ s, D m ≤ D s) : near D (pre (onl P) n) = some m := by
  obtain ⟨h1, h2, h3, h4⟩ := near_some h
  exact near_of ⟨by omega, h2, fun s _ _ => hd s, h4⟩
def few (n : Nat) (o : Option Nat) : Int32 := match o with
  | none => nI (n + 1)
  | some m => popD m
theorem C_fewest (hC : CS S) (hn : n ≤ 12) (hr : ∀ p, p < n → m_I S 10 p = nI (mk (ag p) n)) : fX0_fewestDoubts S 8 (nI n) = some (nI (dbt ag n)) := by
  have h2n : 2 ^ n ≤ 4096 := by
    have : 2 ^ n ≤ 2 ^ 12 := Nat.pow_le_pow_right (by decide) hn
    exact this
  have hh : ∀ (d j : Nat), j + d = 2 ^ n → hX0_fewestDoubts_9 S 8 (nI n) (nI ((near popD (pre (onl (pcs ag n)) j)).getD 0)) (few n (near popD (pre (onl (pcs ag n)) j))) (nI j) = some (nI (dbt ag n)) := by
    intro d
    induction d with
    | zero =>
      intro j hj
      have hjn : j = 2 ^ n := by omega
      subst hjn
      rw [qX0_fewestDoubts_9]
      unfold bX0_fewestDoubts_9 bX0_fewestDoubts_56
      rw [sh1' n (by omega), if_pos (nI_le (Nat.le_refl _) (by omega)), fin_r]
      rfl
    | succ d ih =>
      intro j hj
      rw [qX0_fewestDoubts_9]
      unfold bX0_fewestDoubts_9 bX0_fewestDoubts_56 bX0_fewestDoubts_50
      rw [sh1' n (by omega), if_neg (nI_ge (by omega) (by omega))]
      have ih := ih (j + 1) (by omega)
      have hpj := pop_le j 12
      simp only [C_bits j (by omega), cIs8 hC, C_leavesPeace hC hn hr, Option.bind_some, nI_1]
      cases hb : near popD (pre (onl (pcs ag n)) j) with
      | none =>
        have e1 : (few n none ≤ 0) = False := by
          unfold few
          rw [nI_le0 (by omega)]
          simp
        have e2 : (few n none ≤ nI (pop j 12)) = False := by
          unfold few
          have := pop_2n (n := n) (j := j) (by omega) hn
          rw [nI_leI (by omega) (by omega)]
          simp
          omega
        simp only [e1, e2, if_false]
        by_cases hp : pcs ag n j
        · have hs : near popD (pre (onl (pcs ag n)) (j + 1)) = some j := by rw [pre_p (onl_t hp), near_app, hb]; rfl
          rw [hs] at ih
          simp only [hp, if_true, e10, if_false, fin_l]
          exact ih
        · have hs : near popD (pre (onl (pcs ag n)) (j + 1)) = none := by rw [pre_n (onl_f hp), hb]
          rw [hs] at ih
          simp only [hp, if_false, if_true, fin_l]
          exact ih
      | some m =>
        have hpm := pop_le m 12
        have hm0 : (few n (some m) ≤ 0) = (pop m 12 = 0) := nI_le0 (by omega)
        simp only [hm0]
        by_cases h0 : pop m 12 = 0
        · simp only [h0, if_true, fin_r]
          unfold dbt
          rw [near_fix hb (by omega) (fun s => by rw [i_le, popD_b, popD_b, h0]; omega)]
        · simp only [h0, if_false]
          by_cases hle : few n (some m) ≤ nI (pop j 12)
          · have hs : near popD (pre (onl (pcs ag n)) (j + 1)) = some m := by
              by_cases hp : pcs ag n j
              · rw [pre_p (onl_t hp), near_app, hb]
                unfold nst
                simp only
                rw [if_pos (show popD m ≤ popD j from hle)]
              · rw [pre_n (onl_f hp), hb]
            rw [hs] at ih
            simp only [hle, if_true, fin_l]
            exact ih
          · simp only [hle, if_false]
            by_cases hp : pcs ag n j
            · have hs : near popD (pre (onl (pcs ag n)) (j + 1)) = some j := by
                rw [pre_p (onl_t hp), near_app, hb]
                unfold nst
                simp only
                rw [if_neg (show ¬ popD m ≤ popD j from hle)]
              rw [hs] at ih
              simp only [hp, if_true, e10, if_false, fin_l]
              exact ih
            · have hs : near popD (pre (onl (pcs ag n)) (j + 1)) = some m := by rw [pre_n (onl_f hp), hb]
              rw [hs] at ih
              simp only [hp, if_false, if_true, fin_l]
              exact ih
  unfold fX0_fewestDoubts bX0_fewestDoubts_0
  rw [nI_1, Option.bind_some, fin_l]
  exact hh (2 ^ n) 0 (by omega)
end DC
