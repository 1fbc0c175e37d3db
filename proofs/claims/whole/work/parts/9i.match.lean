/-! matching, the class -/
section MT
variable {S S' : MS} {I I' : Nat → Nat → Int32} {J : Nat → Nat → Int64} {cC cR : Nat → Nat → Int} {o n la lb ea eb : Nat} {fs0 fs1 : Nat → Nat}
def mPI : List Nat := [22, 23, 24, 25, 26, 28, 29, 30, 31, 32, 33, 34]
theorem five {P : Nat → Prop} (h0 : P 0) (h1 : P 1) (h2 : P 2) (h3 : P 3) (h4 : P 4) : ∀ k, k < 5 → P k := by
  intro k hk
  match k, hk with
  | 0, _ => exact h0
  | 1, _ => exact h1
  | 2, _ => exact h2
  | 3, _ => exact h3
  | 4, _ => exact h4
theorem six {P : Nat → Prop} (h0 : P 0) (h1 : P 1) (h2 : P 2) (h3 : P 3) (h4 : P 4) (h5 : P 5) : ∀ k, k < 6 → P k := by
  intro k hk
  match k, hk with
  | 0, _ => exact h0
  | 1, _ => exact h1
  | 2, _ => exact h2
  | 3, _ => exact h3
  | 4, _ => exact h4
  | 5, _ => exact h5
theorem cP21 (h : CS S) : ∀ k, k < 5 → o_ldP S 21 16 (nI k) = some (22 + k) :=
  have a := h.at 21 (by decide) (by decide)
  have l := (h.2.1 21 (by decide) (by decide)).2
  five (at_ldP (n := 5) a l (by decide) rfl (by decide) (h.2.2.1 (21, 0, 22) (by decide))) (at_ldP (n := 5) a l (by decide) rfl (by decide) (h.2.2.1 (21, 1, 23) (by decide))) (at_ldP (n := 5) a l (by decide) rfl (by decide) (h.2.2.1 (21, 2, 24) (by decide))) (at_ldP (n := 5) a l (by decide) rfl (by decide) (h.2.2.1 (21, 3, 25) (by decide))) (at_ldP (n := 5) a l (by decide) rfl (by decide) (h.2.2.1 (21, 4, 26) (by decide)))
theorem cP27 (h : CS S) : ∀ k, k < 6 → o_ldP S 27 16 (nI k) = some (28 + k) :=
  have a := h.at 27 (by decide) (by decide)
  have l := (h.2.1 27 (by decide) (by decide)).2
  six (at_ldP (n := 6) a l (by decide) rfl (by decide) (h.2.2.1 (27, 0, 28) (by decide))) (at_ldP (n := 6) a l (by decide) rfl (by decide) (h.2.2.1 (27, 1, 29) (by decide))) (at_ldP (n := 6) a l (by decide) rfl (by decide) (h.2.2.1 (27, 2, 30) (by decide))) (at_ldP (n := 6) a l (by decide) rfl (by decide) (h.2.2.1 (27, 3, 31) (by decide))) (at_ldP (n := 6) a l (by decide) rfl (by decide) (h.2.2.1 (27, 4, 32) (by decide))) (at_ldP (n := 6) a l (by decide) rfl (by decide) (h.2.2.1 (27, 5, 33) (by decide)))
theorem cAt22 (h : CS S) : ∀ k, k < 5 → m_at S (22 + k) 12 := five (h.at 22 (by decide) (by decide)) (h.at 23 (by decide) (by decide)) (h.at 24 (by decide) (by decide)) (h.at 25 (by decide) (by decide)) (h.at 26 (by decide) (by decide))
theorem cLn22 (h : CS S) : ∀ k, k < 5 → m_L S (22 + k) = 5 := five (h.2.1 22 (by decide) (by decide)).2 (h.2.1 23 (by decide) (by decide)).2 (h.2.1 24 (by decide) (by decide)).2 (h.2.1 25 (by decide) (by decide)).2 (h.2.1 26 (by decide) (by decide)).2
theorem cAt28 (h : CS S) : ∀ k, k < 6 → m_at S (28 + k) 12 := six (h.at 28 (by decide) (by decide)) (h.at 29 (by decide) (by decide)) (h.at 30 (by decide) (by decide)) (h.at 31 (by decide) (by decide)) (h.at 32 (by decide) (by decide)) (h.at 33 (by decide) (by decide))
theorem cLn28 (h : CS S) : ∀ k, k < 6 → m_L S (28 + k) = 32 := six (h.2.1 28 (by decide) (by decide)).2 (h.2.1 29 (by decide) (by decide)).2 (h.2.1 30 (by decide) (by decide)).2 (h.2.1 31 (by decide) (by decide)).2 (h.2.1 32 (by decide) (by decide)).2 (h.2.1 33 (by decide) (by decide)).2
def KA (S : MS) (cC : Nat → Nat → Int) (n i : Nat) : Prop := ∀ i', i' < i → ∀ j, j < n → m_I S (22 + i') j = zI (cC i' j)
theorem mPI_22 {i : Nat} (h : i < 5) : 22 + i ∈ mPI := by unfold mPI; simp; omega
theorem mPI_28 {i : Nat} (h : i < 6) : 28 + i ∈ mPI := by unfold mPI; simp; omega
theorem mPI_l {l : Nat} (h : l = 14 ∨ l = 15) : l ∉ mPI := by unfold mPI; simp; omega
theorem mA (hC : CS S) (ho : o ≤ 5) (hn : n ≤ 5) (hla : la = 14 ∨ la = 15) (hlb : lb = 14 ∨ lb = 15) (La : Lst S la o 4 ea fs0) (Lb : Lst S lb n 4 eb fs1) (hp : ∀ S', FrC S S' mPI [] [] → ∀ f g, f < o → g < n → fX4_pairCost S' (fs0 f) (fs1 g) = some (zI (cC f g))) : ∃ S', lim sX4_match (.inl (20, la, lb, nI o, nI n, nI 0, S)) = lim sX4_match (.inr (.inr (.inl (20, nI o, nI n, nI 0, S')))) ∧ FrC S S' mPI [] [] ∧ KA S' cC n o := by
  have key : ∀ i, i ≤ o → ∃ S', lim sX4_match (.inl (20, la, lb, nI o, nI n, nI 0, S)) = lim sX4_match (.inl (20, la, lb, nI o, nI n, nI i, S')) ∧ FrC S S' mPI [] [] ∧ KA S' cC n i := by
    intro i
    induction i with
    | zero => intro _; exact ⟨S, rfl, FrC.rf, fun i' h => by omega⟩
    | succ i ih =>
      intro hi
      obtain ⟨S1, e1, f1, k1⟩ := ih (by omega)
      obtain ⟨s, ⟨S2, hs, f2, k2, k3⟩, he⟩ := lim_inv (step := sX4_match) (K := fun j s => ∃ S2, s = .inr (.inl (20, la, lb, nI o, nI n, nI i, nI j, S2)) ∧ FrC S S2 mPI [] [] ∧ KA S2 cC n i ∧ ∀ j', j' < j → m_I S2 (22 + i) j' = zI (cC i j')) n (s0 := .inr (.inl (20, la, lb, nI o, nI n, nI i, nI 0, S1))) ⟨S1, rfl, f1, k1, fun j h => by omega⟩ (fun j hj s hs => by
        obtain ⟨S2, rfl, f2, k2, k3⟩ := hs
        have C2 : CS S2 := hC.fr f2 (by simp) (by simp)
        have La2 := La.fr f2 (by omega) (mPI_l hla) (by simp) (.inr (by simp))
        have Lb2 := Lb.fr f2 (by omega) (mPI_l hlb) (by simp) (.inr (by simp))
        refine ⟨.inr (.inl (20, la, lb, nI o, nI n, nI i, nI (j + 1), m_sI S2 (22 + i) (upd (m_I S2 (22 + i)) j (zI (cC i j))))), ?_, _, rfl, f2.tr (FrC.sI (by omega) (mPI_22 (by omega))), fun i' hi' j' hj' => ?_, fun j' hj' => ?_⟩
        · show bX4_match_23 S2 20 la lb (nI o) (nI n) (nI i) (nI j) = _
          unfold bX4_match_23
          rw [if_neg (nI_ge hj (by omega)), cP20_0 C2, Option.bind_some, cP21 C2 i (by omega), Option.bind_some, at_is La2.1.1, Option.bind_some, L_get La2 (by omega), Option.bind_some, at_is (La2.2.2 i (by omega)).2, Option.bind_some, at_is Lb2.1.1, Option.bind_some, L_get Lb2 hj, Option.bind_some, at_is (Lb2.2.2 j hj).2, Option.bind_some, hp S2 f2 i j (by omega) hj, Option.bind_some, at_st (cAt22 C2 i (by omega)) (cLn22 C2 i (by omega)) (by decide) rfl (by omega), Option.bind_some, nI_1, Option.bind_some]
        · rw [mI_ne (by omega)]; exact k2 i' hi' j' hj'
        · rw [mI_same]
          by_cases q : j' = j
          · rw [q, upd_s]
          · rw [upd_n q]; exact k3 j' (by omega))
      refine ⟨S2, ?_, f2, fun i' hi' j hj => ?_⟩
      · rw [e1, lim_eq]
        show fin sX4_match (bX4_match_14 S1 20 la lb (nI o) (nI n) (nI i)) = _
        unfold bX4_match_14
        rw [if_neg (nI_ge (by omega) (by omega)), fin_l, show lim sX4_match (.inr (.inl (20, la, lb, nI o, nI n, nI i, 0, S1))) = _ from he, hs, lim_eq]
        show fin sX4_match (bX4_match_23 S2 20 la lb (nI o) (nI n) (nI i) (nI n)) = _
        unfold bX4_match_23
        rw [if_pos (nI_le (Nat.le_refl _) (by omega)), nI_1, Option.bind_some, fin_l]
      · by_cases q : i' = i
        · rw [q]; exact k3 j hj
        · exact k2 i' (by omega) j hj
  obtain ⟨S', e, f, k⟩ := key o (Nat.le_refl _)
  refine ⟨S', ?_, f, k⟩
  rw [e, lim_eq]
  show fin sX4_match (bX4_match_14 S' 20 la lb (nI o) (nI n) (nI o)) = _
  unfold bX4_match_14
  rw [if_pos (nI_le (Nat.le_refl _) (by omega)), fin_l]
  rfl
theorem p32 (hn : n ≤ 5) : 2 ^ n ≤ 32 := Nat.pow_le_pow_right (n := 2) (by decide) hn
theorem mB (hC : CS S) (ho : o ≤ 5) (hn : n ≤ 5) : ∃ S', lim sX4_match (.inr (.inr (.inl (20, nI o, nI n, nI 0, S)))) = lim sX4_match (.inr (.inr (.inr (.inl (20, nI o, nI n, zI ((o : Int) - 1), S'))))) ∧ FrC S S' mPI [] [] ∧ (∀ a, a ≠ 28 + o → m_I S' a = m_I S a) ∧ ∀ t, t < 2 ^ n → m_I S' (28 + o) t = zI (Lc cC o n 0 t) := by
  have h32 := p32 hn
  obtain ⟨s, ⟨S2, hs, f2, k2, k3⟩, he⟩ := lim_inv (step := sX4_match) (K := fun j s => ∃ S2, s = .inr (.inr (.inl (20, nI o, nI n, nI j, S2))) ∧ FrC S S2 mPI [] [] ∧ (∀ a, a ≠ 28 + o → m_I S2 a = m_I S a) ∧ ∀ t, t < j → m_I S2 (28 + o) t = zI (Lc cC o n 0 t)) (2 ^ n) (s0 := .inr (.inr (.inl (20, nI o, nI n, nI 0, S)))) ⟨S, rfl, FrC.rf, fun a _ => rfl, fun t h => by omega⟩ (fun j hj s hs => by
    obtain ⟨S2, rfl, f2, k2, k3⟩ := hs
    have C2 : CS S2 := hC.fr f2 (by simp) (by simp)
    refine ⟨.inr (.inr (.inl (20, nI o, nI n, nI (j + 1), m_sI S2 (28 + o) (upd (m_I S2 (28 + o)) j (zI (Lc cC o n 0 j)))))), ?_, _, rfl, f2.tr (FrC.sI (by omega) (mPI_28 (by omega))), fun a ha => ?_, fun t ht => ?_⟩
    · show bX4_match_76 S2 20 (nI o) (nI n) (nI j) = _
      have hv : (15 : Int32) * (nI n - nI (pop j 12)) = zI (Lc cC o n 0 j) := by
        show zI 15 * (zI n - zI (pop j 12 : Nat)) = _
        rw [zI_sub, zI_mul]
        rfl
      unfold bX4_match_76
      rw [sh1 n (by omega), if_neg (nI_ge hj (by omega)), cP20_1 C2, Option.bind_some, cP27 C2 o (by omega), Option.bind_some, C_bits j (by omega), Option.bind_some, hv, at_st (cAt28 C2 o (by omega)) (cLn28 C2 o (by omega)) (by decide) rfl (by omega), Option.bind_some, nI_1, Option.bind_some]
    · rw [mI_ne ha]; exact k2 a ha
    · rw [mI_same]
      by_cases q : t = j
      · rw [q, upd_s]
      · rw [upd_n q]; exact k3 t (by omega))
  refine ⟨S2, ?_, f2, k2, k3⟩
  rw [he, hs, lim_eq]
  show fin sX4_match (bX4_match_76 S2 20 (nI o) (nI n) (nI (2 ^ n))) = _
  unfold bX4_match_76
  have hv : nI o - (1 : Int32) = zI ((o : Int) - 1) := zI_sub (o : Int) 1
  rw [sh1 n (by omega), if_pos (nI_le (Nat.le_refl _) (by omega)), hv, Option.bind_some, fin_l]
theorem C_costWith {f g t k : Nat} (hC : CS S) (hf : f < 5) (hfk : f < o) (hn : n ≤ 5) (hg : g < n) (ht : t < 2 ^ n) (hA : KA S cC n o) (hL : ∀ t, t < 2 ^ n → m_I S (28 + (f + 1)) t = zI (Lc cC o n k t)) : fX4_costWith S 20 (nI f) (nI g) (nI t) = some (zI (cC f g + Lc cC o n k (t ||| 2 ^ g))) := by
  have h32 := p32 hn
  have ho := or_lt ht hg
  unfold fX4_costWith bX4_costWith_0
  rw [cP20_0 hC, Option.bind_some, cP21 hC f hf, Option.bind_some, at_ld (cAt22 hC f hf) (cLn22 hC f hf) (by decide) rfl (by omega), Option.bind_some, cP20_1 hC, Option.bind_some, nI_1, cP27 hC (f + 1) (by omega), Option.bind_some, sh1 g (by omega), nI_or, at_ld (cAt28 hC (f + 1) (by omega)) (cLn28 hC (f + 1) (by omega)) (by decide) rfl (by omega), Option.bind_some, hA f hfk g hg, hL _ ho, zI_add]
theorem mn_z {a b : Int} (ha : 0 ≤ a ∧ a < 100000) (hb : 0 ≤ b ∧ b < 100000) : mn (zI a) (zI b) = zI (min a b) := by
  unfold mn
  by_cases h : zI a < zI b
  · rw [if_pos h]
    rw [i_lt, zI_t (by omega) (by omega), zI_t (by omega) (by omega)] at h
    rw [show min a b = a by omega]
  · rw [if_neg h]
    rw [i_lt, zI_t (by omega) (by omega), zI_t (by omega) (by omega)] at h
    rw [show min a b = b by omega]
theorem C_leastM {f t k : Nat} (hC : CS S) (hPC : PC cC cR o n) (ho : o ≤ 5) (hn : n ≤ 5) (hfk : f + k + 1 = o) (ht : t < 2 ^ n) (hA : KA S cC n o) (hL : ∀ t, t < 2 ^ n → m_I S (28 + (f + 1)) t = zI (Lc cC o n k t)) : fX4_leastCost S 20 (nI f) (nI t) (nI n) = some (zI (Lc cC o n (k + 1) t)) := by
  have h32 := p32 hn
  have hLb := Lc_b hPC hn k
  have hb0 := hLb t (by omega) ht
  have hf : f = o - k - 1 := by omega
  have fob : ∀ m, m ≤ n → 0 ≤ fo (fun g => cC f g + Lc cC o n k (t ||| 2 ^ g)) (fun g => !t.testBit g) (15 + Lc cC o n k t) m ∧ fo (fun g => cC f g + Lc cC o n k (t ||| 2 ^ g)) (fun g => !t.testBit g) (15 + Lc cC o n k t) m < 100000 := fun m hm => by
    have h1 := fo_a (c := fun g => cC f g + Lc cC o n k (t ||| 2 ^ g)) (P := fun g => !t.testBit g) (a := 15 + Lc cC o n k t) m
    refine ⟨?_, by omega⟩
    rcases fo_x (c := fun g => cC f g + Lc cC o n k (t ||| 2 ^ g)) (P := fun g => !t.testBit g) (a := 15 + Lc cC o n k t) m with e | ⟨g, hg, -, e⟩
    · omega
    · rw [e]
      have h2 := hLb (t ||| 2 ^ g) (by omega) (or_lt ht (by omega))
      have h3 := hPC f g (by omega) (by omega)
      show 0 ≤ cC f g + Lc cC o n k (t ||| 2 ^ g)
      omega
  unfold fX4_leastCost bX4_leastCost_0
  rw [cP20_1 hC, Option.bind_some, nI_1, cP27 hC (f + 1) (by omega), Option.bind_some, at_ld (cAt28 hC (f + 1) (by omega)) (cLn28 hC (f + 1) (by omega)) (by decide) rfl (by omega), Option.bind_some, hL t ht, Option.bind_some, fin_l]
  have h0 : (15 : Int32) + zI (Lc cC o n k t) = zI (fo (fun g => cC f g + Lc cC o n k (t ||| 2 ^ g)) (fun g => !t.testBit g) (15 + Lc cC o n k t) 0) := by
    show zI 15 + zI _ = _
    rw [zI_add]
    rfl
  rw [h0]
  refine lim_it2 (step := sX4_leastCost S) (st := fun g => (20, nI f, nI t, nI n, zI (fo (fun g => cC f g + Lc cC o n k (t ||| 2 ^ g)) (fun g => !t.testBit g) (15 + Lc cC o n k t) g), nI g)) n (fun g hg => ?_) ?_
  · have hfb := fob g (by omega)
    have hs : fo (fun g => cC f g + Lc cC o n k (t ||| 2 ^ g)) (fun g => !t.testBit g) (15 + Lc cC o n k t) (g + 1) = if (!t.testBit g) = true then min (fo (fun g => cC f g + Lc cC o n k (t ||| 2 ^ g)) (fun g => !t.testBit g) (15 + Lc cC o n k t) g) (cC f g + Lc cC o n k (t ||| 2 ^ g)) else fo (fun g => cC f g + Lc cC o n k (t ||| 2 ^ g)) (fun g => !t.testBit g) (15 + Lc cC o n k t) g := rfl
    show bX4_leastCost_18 S 20 (nI f) (nI t) (nI n) (zI _) (nI g) = _
    unfold bX4_leastCost_18 bX4_leastCost_48
    rw [if_neg (nI_ge hg (by omega)), C_isIn (by omega), Option.bind_some, nI_1, hs]
    generalize fo (fun g => cC f g + Lc cC o n k (t ||| 2 ^ g)) (fun g => !t.testBit g) (15 + Lc cC o n k t) g = F at hfb
    by_cases hb : t.testBit g = true
    · rw [hb, if_pos rfl, if_neg (show ¬ (1 : Int32) = 0 by decide), if_neg (show ¬ (!true) = true by decide)]
      rfl
    · have hb' : t.testBit g = false := by simpa using hb
      have h2 := hLb (t ||| 2 ^ g) (by omega) (or_lt ht hg)
      have h3 := hPC f g (by omega) hg
      rw [hb', if_neg (show ¬ false = true by decide), if_pos rfl, if_pos (show (!false) = true from rfl), cIs20 hC, Option.bind_some, C_costWith hC (by omega) (by omega) hn hg ht hA hL, Option.bind_some, C_min, mn_z hfb (by omega), Option.bind_some, Option.bind_some]
  · show bX4_leastCost_18 S 20 (nI f) (nI t) (nI n) (zI _) (nI n) = _
    unfold bX4_leastCost_18
    rw [if_pos (nI_le (Nat.le_refl _) (by omega))]
    have hl : Lc cC o n (k + 1) t = fo (fun g => cC (o - k - 1) g + Lc cC o n k (t ||| 2 ^ g)) (fun g => !t.testBit g) (15 + Lc cC o n k t) n := rfl
    rw [hl, ← hf]
end MT
