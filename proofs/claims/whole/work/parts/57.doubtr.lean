/-! the same, as the reference finds it -/
theorem cnt_mono {f g : Nat → Bool} {n : Nat} (h : ∀ k, k < n → f k = true → g k = true) : cnt f n ≤ cnt g n := by
  induction n with
  | zero => exact Nat.le_refl _
  | succ n ih =>
    have ih := ih (fun k hk => h k (by omega))
    have hn := h n (by omega)
    show cnt f n + (if f n = true then 1 else 0) ≤ cnt g n + (if g n = true then 1 else 0)
    by_cases hf : f n = true
    · rw [if_pos hf, if_pos (hn hf)]; omega
    · rw [if_neg hf]; split <;> omega
theorem cnt_strict {f g : Nat → Bool} {n i : Nat} (h : ∀ k, k < n → f k = true → g k = true) (hi : i < n) (h1 : f i = false) (h2 : g i = true) : cnt f n < cnt g n := by
  induction n with
  | zero => omega
  | succ n ih =>
    have hn := h n (by omega)
    show cnt f n + (if f n = true then 1 else 0) < cnt g n + (if g n = true then 1 else 0)
    by_cases hin : i = n
    · subst hin
      have := cnt_mono (fun k hk => h k (Nat.lt_succ_of_lt hk))
      rw [if_neg (by rw [h1]; simp), if_pos h2]
      omega
    · have ih := ih (fun k hk => h k (by omega)) (by omega)
      by_cases hf : f n = true
      · rw [if_pos hf, if_pos (hn hf)]; omega
      · rw [if_neg hf]; split <;> omega
def sub (s A : Nat) : Prop := ∀ k, s.testBit k = true → A.testBit k = true
theorem pop_mono {s A : Nat} (h : sub s A) : pop s 12 ≤ pop A 12 := by rw [pop_cnt, pop_cnt]; exact cnt_mono (fun k _ => h k)
theorem hi_bit {s n k : Nat} (hs : s < 2 ^ n) (hk : n ≤ k) : s.testBit k = false := Nat.testBit_lt_two_pow (Nat.lt_of_lt_of_le hs (Nat.pow_le_pow_right (by decide) hk))
theorem pop_strict {s A n : Nat} (h : sub s A) (hA : A < 2 ^ n) (hn : n ≤ 12) (hne : s ≠ A) : pop s 12 < pop A 12 := by
  have : ∃ k, s.testBit k ≠ A.testBit k := by
    apply Classical.byContradiction
    intro hx
    exact hne (Nat.eq_of_testBit_eq (fun k => Classical.byContradiction (fun hk => hx ⟨k, hk⟩)))
  obtain ⟨k, hk⟩ := this
  have h1 : s.testBit k = false := by
    cases hb : s.testBit k with
    | false => rfl
    | true => rw [hb, h k hb] at hk; exact absurd rfl hk
  have h2 : A.testBit k = true := by
    cases hb : A.testBit k with
    | true => rfl
    | false => rw [hb, h1] at hk; exact absurd rfl hk
  have hkn : k < n := by
    apply Decidable.byContradiction
    intro hx
    rw [hi_bit hA (by omega)] at h2
    cases h2
  rw [pop_cnt, pop_cnt]
  exact cnt_strict (fun k _ => h k) (by omega) h1 h2
section PR
variable {ag : Nat → Nat → Bool} {n A : Nat}
noncomputable def rm (ag : Nat → Nat → Bool) (n A : Nat) : Nat → Nat
  | 0 => A
  | j + 1 => @ite _ (¬ popD (rm ag n A j) ≤ popD j ∧ sub j A ∧ pcs ag n j) (Classical.propDecidable _) j (rm ag n A j)
theorem rm_t {j : Nat} (h : ¬ popD (rm ag n A j) ≤ popD j ∧ sub j A ∧ pcs ag n j) : rm ag n A (j + 1) = j := if_pos h
theorem rm_f {j : Nat} (h : ¬ (¬ popD (rm ag n A j) ≤ popD j ∧ sub j A ∧ pcs ag n j)) : rm ag n A (j + 1) = rm ag n A j := if_neg h
theorem rm_inv (hn : n ≤ 12) (hA : A < 2 ^ n) (hag : ∀ p q, ag p q = true → A.testBit p = true ∧ A.testBit q = true) (j : Nat) (hj : j ≤ 2 ^ n) : (rm ag n A j < 2 ^ n ∧ sub (rm ag n A j) A ∧ pcs ag n (rm ag n A j)) ∧ (rm ag n A j = A ∨ rm ag n A j < j) ∧ (∀ s, s < j → sub s A → pcs ag n s → popD (rm ag n A j) ≤ popD s) ∧ ∀ s, s < j → s < rm ag n A j → sub s A → pcs ag n s → ¬ popD s ≤ popD (rm ag n A j) := by
  induction j with
  | zero =>
    refine ⟨⟨hA, fun k hk => hk, ?_⟩, .inl rfl, fun s hs => by omega, fun s hs => by omega⟩
    intro p hp _ q hq hpq
    exact (hag p q hpq).2
  | succ j ih =>
    obtain ⟨⟨a1, a2, a3⟩, b, c, d⟩ := ih (by omega)
    by_cases h : ¬ popD (rm ag n A j) ≤ popD j ∧ sub j A ∧ pcs ag n j
    · rw [rm_t h]
      refine ⟨⟨by omega, h.2.1, h.2.2⟩, .inr (by omega), fun s hs h1 h2 => ?_, fun s hs hsj h1 h2 hx => ?_⟩
      · by_cases hsj : s = j
        · rw [hsj, i_le]; omega
        · exact i_ltr (i_lef h.1) (c s (by omega) h1 h2)
      · exact h.1 (i_ltr (c s hsj h1 h2) hx)
    · rw [rm_f h]
      refine ⟨⟨a1, a2, a3⟩, b.imp_right (fun x => by omega), fun s hs h1 h2 => ?_, fun s hs hsr h1 h2 => ?_⟩
      · by_cases hsj : s = j
        · subst hsj
          exact Classical.byContradiction (fun hx => h ⟨hx, h1, h2⟩)
        · exact c s (by omega) h1 h2
      · by_cases hsj : s = j
        · subst hsj
          rcases b with b | b
          · have hle : popD (rm ag n A s) ≤ popD s := Classical.byContradiction (fun hx => h ⟨hx, h1, h2⟩)
            have hst := pop_strict h1 hA hn (by omega)
            rw [b, i_le, popD_b, popD_b] at hle
            omega
          · omega
        · exact d s (by omega) hsr h1 h2
theorem rm_dbt (hn : n ≤ 12) (hA : A < 2 ^ n) (hag : ∀ p q, ag p q = true → A.testBit p = true ∧ A.testBit q = true) : rm ag n A (2 ^ n) = dbt ag n := by
  obtain ⟨⟨a1, a2, a3⟩, -, c, d⟩ := rm_inv hn hA hag (2 ^ n) (Nat.le_refl _)
  have key : ∀ s, s < 2 ^ n → pcs ag n s → sub (s &&& A) A ∧ pcs ag n (s &&& A) ∧ s &&& A < 2 ^ n ∧ sub (s &&& A) s := by
    intro s hs hp
    refine ⟨fun k hk => ?_, fun p hp1 hp2 q hq hpq => ?_, ?_, fun k hk => ?_⟩
    · rw [Nat.testBit_and] at hk
      simp only [Bool.and_eq_true] at hk
      exact hk.2
    · rw [Nat.testBit_and, (hag p q hpq).1, Bool.and_true] at hp2
      rw [Nat.testBit_and, (hag p q hpq).2, Bool.and_true]
      exact hp p hp1 hp2 q hq hpq
    · exact Nat.lt_of_le_of_lt Nat.and_le_left hs
    · rw [Nat.testBit_and] at hk
      simp only [Bool.and_eq_true] at hk
      exact hk.1
  have hF : Fst popD (pcs ag n) (2 ^ n) (rm ag n A (2 ^ n)) := by
    refine ⟨a1, a3, fun s hs hp => ?_, fun s hs hp => ?_⟩
    · obtain ⟨k1, k2, k3, k4⟩ := key s hs hp
      refine i_ltr (c _ k3 k1 k2) ?_
      have := pop_mono k4
      rw [i_le, popD_b, popD_b]
      omega
    · by_cases hsA : sub s A
      · exact d s (by omega) hs hsA hp
      · obtain ⟨k1, k2, k3, k4⟩ := key s (by omega) hp
        have hlt := pop_strict k4 (show s < 2 ^ n by omega) hn (fun e => hsA (by rw [← e]; exact k1))
        have hc := c _ k3 k1 k2
        rw [i_le, popD_b, popD_b] at hc ⊢
        omega
  unfold dbt
  rw [near_of hF]
  rfl
end PR
