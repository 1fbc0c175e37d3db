/-! the reference's search, whole -/
section FE
variable {I K : Nat → Nat → Int32} {J : Nat → Nat → Int64} {n : Nat} {V : Nat → Bool} {lv pl : Nat → Int32} {st : Int32}
def s23 (K : Nat → Nat → Int32) (m : Nat) : Nat → Nat → Int32 := va_up K 1 (upd (K 1) 23 (nI m))
theorem s23_s {K : Nat → Nat → Int32} {m : Nat} {v : Int32} : o_sI (mkR K J) 1 11 23 v = some (mkR (va_up K 1 (upd (K 1) 23 v)) J) := rSI 23 v
theorem s23_2 {K : Nat → Nat → Int32} {m m' : Nat} : va_up (s23 K m) 1 (upd (s23 K m 1) 23 (nI m')) = s23 K m' := by
  unfold s23
  rw [up_s, up_up, upd_upd]
theorem sub_le {a A n : Nat} (hA : A < 2 ^ n) (hs : sub a A) : a < 2 ^ n := by
  apply Nat.lt_of_le_of_lt _ hA
  have : a = a &&& A := Nat.eq_of_testBit_eq (fun k => by
    rw [Nat.testBit_and]
    by_cases h : a.testBit k = true
    · rw [h, hs k h]; rfl
    · have : a.testBit k = false := by simpa using h
      rw [this]; rfl)
  rw [this]
  exact Nat.and_le_right
theorem R_fd3_step (h : Fdo K n V lv pl st) (h18 : ∀ p, p < n → K 18 p = nI (mk (agb V lv pl st n p) n)) {j : Nat} (hj : j < 2 ^ n) : sX10_findDoubted (.inr (.inr (.inr (1, nI (mk V n), popD (rm (agb V lv pl st n) n (mk V n) j), nI j, mkR (s23 K (rm (agb V lv pl st n) n (mk V n) j)) J)))) = some (.inl (.inr (.inr (.inr (1, nI (mk V n), popD (rm (agb V lv pl st n) n (mk V n) (j + 1)), nI (j + 1), mkR (s23 K (rm (agb V lv pl st n) n (mk V n) (j + 1))) J))))) := by
  have hn := h.1.1
  have h2n : 2 ^ n ≤ 4096 := by
    have : 2 ^ n ≤ 2 ^ 12 := Nat.pow_le_pow_right (by decide) hn
    exact this
  have hA : mk V n < 2 ^ n := mk_lt _ n
  generalize hm : rm (agb V lv pl st n) n (mk V n) j = m
  have hf : FrR K (s23 K m) [17, 18] [23] := FrR.up1 (by simp)
  have hK := h.fr hf
  have k18 : ∀ p, p < n → s23 K m 18 p = nI (mk (agb V lv pl st n p) n) := fun p hp => by
    unfold s23
    rw [up_n (by decide)]
    exact h18 p hp
  have hag : ∀ p q, agb V lv pl st n p q = true → (mk V n).testBit p = true ∧ (mk V n).testBit q = true := fun p q hpq => by
    have := agb_e hpq
    rw [mk_bit, mk_bit]
    simp [this.1, this.2.1, this.2.2.2.1, this.2.2.2.2.1]
  have e1 : ¬ nI (2 ^ n) ≤ nI j := nI_ge hj (by omega)
  have hsub : (∀ k, k < 12 → j.testBit k = true → (mk V n).testBit k = true) ↔ sub j (mk V n) := by
    constructor
    · intro hx k hk
      by_cases h12 : k < 12
      · exact hx k h12 hk
      · rw [hi_bit (n := 12) (show j < 2 ^ 12 by omega) (by omega)] at hk; cases hk
    · intro hx k _ hk
      exact hx k hk
  have hand : (nI j &&& (nI (mk V n) ^^^ -1) = 0) ↔ sub j (mk V n) := by
    rw [andn_0 (by omega)]
    exact hsub
  show bX10_findDoubted_136 (mkR (s23 K m) J) 1 (nI (mk V n)) (popD m) (nI j) = _
  unfold bX10_findDoubted_136 bX10_findDoubted_184
  simp only [rI, hK.1.2.1, Option.bind_some, sh1' n (show n < 13 by omega), if_neg e1, R_count12, nI_1, nI_dif (show mk V n < 4096 by omega), rIs, R_isQuiet hK k18, s23_s (m := m), s23_2]
  have hpop : nI (pop j 12) = popD j := rfl
  rw [hpop]
  by_cases c1 : popD m ≤ popD j
  · rw [rm_f (fun x => x.1 (hm ▸ c1)), hm]
    simp only [c1, if_true]
  · by_cases c2 : sub j (mk V n)
    · have hq := qt_pcs (n := n) (ag := agb V lv pl st n) (A := mk V n) (s := j) (by omega) c2 hag
      by_cases c3 : pcs (agb V lv pl st n) n j
      · rw [rm_t ⟨hm ▸ c1, c2, c3⟩]
        simp only [c1, if_false, if_pos (hand.mpr c2), fl_t (hq.mpr c3), e10]
      · rw [rm_f (fun x => c3 x.2.2), hm]
        simp only [c1, if_true, if_false, if_pos (hand.mpr c2), fl_f (fun x => c3 (hq.mp x))]
    · rw [rm_f (fun x => c2 x.2.1), hm]
      simp only [c1, if_false, if_neg (fun x => c2 (hand.mp x))]
theorem R_findDoubted (h : Fdo I n V lv pl st) : ∃ K, fX10_findDoubted (mkR I J) 1 = some (mkR K J) ∧ FrR I K [17, 18] [23] ∧ K 1 23 = nI (dbt (agb V lv pl st n) n) := by
  have hn := h.1.1
  have hA : mk V n < 2 ^ n := mk_lt _ n
  have h2n : 2 ^ n ≤ 4096 := by
    have : 2 ^ n ≤ 2 ^ 12 := Nat.pow_le_pow_right (by decide) hn
    exact this
  have hag : ∀ p q, agb V lv pl st n p q = true → (mk V n).testBit p = true ∧ (mk V n).testBit q = true := fun p q hpq => by
    have := agb_e hpq
    rw [mk_bit, mk_bit]
    simp [this.1, this.2.1, this.2.2.2.1, this.2.2.2.2.1]
  obtain ⟨s, ⟨K1, hs, hf1, hz⟩, he⟩ := lim_inv (step := sX10_findDoubted) (K := fun j s => ∃ K', s = .inl (1, nI (mk V j), nI j, mkR K' J) ∧ FrR I K' [17, 18] [23] ∧ ∀ p, p < j → K' 18 p = 0) n (s0 := .inl (1, nI (mk V 0), nI 0, mkR I J)) ⟨I, rfl, FrR.rf, fun p hp => by omega⟩ (fun j hj s hs => by
    obtain ⟨K', rfl, hf', hz⟩ := hs
    refine ⟨_, R_fd1_step h hf' hj, _, rfl, hf'.tr (FrR.up (by decide) (by simp)), fun p hp => ?_⟩
    rw [up_s]
    by_cases hpj : p = j
    · rw [hpj, upd_s]
    · rw [upd_n hpj]
      exact hz p (by omega))
  have h2 : ∀ (d p : Nat) (K : Nat → Nat → Int32), p + d = n → FrR I K [17, 18] [23] → (∀ x, x < p → K 18 x = nI (mk (agb V lv pl st n x) n)) → (∀ x, p ≤ x → x < n → K 18 x = 0) → ∃ K', hX10_findDoubted_46 (mkR K J) 1 (nI (mk V n)) (nI p) = hX10_findDoubted_46 (mkR K' J) 1 (nI (mk V n)) (nI n) ∧ FrR I K' [17, 18] [23] ∧ ∀ x, x < n → K' 18 x = nI (mk (agb V lv pl st n x) n) := by
    intro d
    induction d with
    | zero =>
      intro p K hp hf ha hb
      have : p = n := by omega
      subst this
      exact ⟨K, rfl, hf, ha⟩
    | succ d ih =>
      intro p K hp hf ha hb
      obtain ⟨K', e1, e2, e3⟩ := R_fd2 (J := J) (x1 := nI (mk V n)) h hf (show p < n by omega) (hb p (Nat.le_refl _) (by omega))
      obtain ⟨K'', e4, e5, e6⟩ := ih (p + 1) K' (by omega) e2 (fun x hx => by
        rw [e3]
        by_cases hxp : x = p
        · subst hxp; rw [upd_s]
        · rw [upd_n hxp]; exact ha x (by omega)) (fun x hx hxn => by
        rw [e3, upd_n (by omega)]
        exact hb x (by omega) hxn)
      exact ⟨K'', e1.trans e4, e5, e6⟩
  obtain ⟨K2, e1, hf2, h18⟩ := h2 n 0 K1 (by omega) hf1 (fun x hx => by omega) (fun x _ hx => hz x hx)
  have hK2 := h.fr hf2
  have h3 : lim sX10_findDoubted (.inr (.inr (.inr (1, nI (mk V n), popD (mk V n), nI 0, mkR (s23 K2 (mk V n)) J)))) = some (mkR (s23 K2 (rm (agb V lv pl st n) n (mk V n) (2 ^ n))) J) := by
    refine lim_it2 (step := sX10_findDoubted) (st := fun j => .inr (.inr (.inr (1, nI (mk V n), popD (rm (agb V lv pl st n) n (mk V n) j), nI j, mkR (s23 K2 (rm (agb V lv pl st n) n (mk V n) j)) J)))) (2 ^ n) (fun j hj => R_fd3_step hK2 h18 hj) ?_
    show bX10_findDoubted_136 (mkR (s23 K2 (rm (agb V lv pl st n) n (mk V n) (2 ^ n))) J) 1 (nI (mk V n)) _ (nI (2 ^ n)) = _
    have hK3 := hK2.fr (K := s23 K2 (rm (agb V lv pl st n) n (mk V n) (2 ^ n))) (FrR.up1 (by simp))
    unfold bX10_findDoubted_136
    simp only [rI, hK3.1.2.1, Option.bind_some, sh1' n (show n < 13 by omega), if_pos (nI_le (Nat.le_refl (2 ^ n)) (show 2 ^ n < 2 ^ 31 by omega))]
  refine ⟨s23 K2 (rm (agb V lv pl st n) n (mk V n) (2 ^ n)), ?_, hf2.tr (FrR.up1 (by simp)), ?_⟩
  · unfold fX10_findDoubted bX10_findDoubted_0
    rw [fin_l, show lim sX10_findDoubted (.inl (1, 0, 0, mkR I J)) = _ from he, hs, lim_eq]
    show fin sX10_findDoubted (bX10_findDoubted_4 (mkR K1 J) 1 (nI (mk V n)) (nI n)) = _
    have hK1 := h.fr hf1
    unfold bX10_findDoubted_4
    simp only [rI, hK1.1.2.1, Option.bind_some, if_pos (nI_le (Nat.le_refl n) (show n < 2 ^ 31 by omega)), fin_l]
    rw [show lim sX10_findDoubted (.inr (.inl (1, nI (mk V n), 0, mkR K1 J))) = _ from e1, qX10_findDoubted_46]
    unfold bX10_findDoubted_46
    simp only [rI, hK2.1.2.1, Option.bind_some, if_pos (nI_le (Nat.le_refl n) (show n < 2 ^ 31 by omega)), s23_s (m := 0), R_count12, fin_l]
    exact h3
  · unfold s23
    rw [up_s, upd_s, rm_dbt hn hA hag]
end FE
