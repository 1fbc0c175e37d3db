/-! matching, the class, to its end -/
section MU
variable {S S' : MS} {I I' : Nat → Nat → Int32} {J : Nat → Nat → Int64} {cC cR : Nat → Nat → Int} {o n la lb ea eb : Nat} {fs0 fs1 : Nat → Nat}
def KC (S : MS) (cC : Nat → Nat → Int) (o n k : Nat) : Prop := ∀ k', k' ≤ k → ∀ t, t < 2 ^ n → m_I S (28 + (o - k')) t = zI (Lc cC o n k' t)
theorem KA.fr {S' : MS} {i : Nat} (h : KA S cC n i) (hi : i ≤ 5) (hs : ∀ a, a < 28 ∨ 33 < a → m_I S' a = m_I S a) : KA S' cC n i := fun i' hi' j hj => by
  rw [hs _ (by omega)]
  exact h i' hi' j hj
theorem mC (hC : CS S) (hPC : PC cC cR o n) (ho : o ≤ 5) (hn : n ≤ 5) (hA : KA S cC n o) (h0 : ∀ t, t < 2 ^ n → m_I S (28 + o) t = zI (Lc cC o n 0 t)) : ∃ S', lim sX4_match (.inr (.inr (.inr (.inl (20, nI o, nI n, zI ((o : Int) - 1), S))))) = lim sX4_match (.inr (.inr (.inr (.inl (20, nI o, nI n, zI (-1), S'))))) ∧ FrC S S' mPI [] [] ∧ (∀ a, a < 28 ∨ 33 < a → m_I S' a = m_I S a) ∧ KC S' cC o n o := by
  have h32 := p32 hn
  have key : ∀ k, k ≤ o → ∃ S', lim sX4_match (.inr (.inr (.inr (.inl (20, nI o, nI n, zI ((o : Int) - 1), S))))) = lim sX4_match (.inr (.inr (.inr (.inl (20, nI o, nI n, zI ((o : Int) - 1 - k), S'))))) ∧ FrC S S' mPI [] [] ∧ (∀ a, a < 28 ∨ 33 < a → m_I S' a = m_I S a) ∧ KC S' cC o n k := by
    intro k
    induction k with
    | zero =>
      intro _
      refine ⟨S, by rw [show (o : Int) - 1 - ((0 : Nat) : Int) = (o : Int) - 1 by omega], FrC.rf, fun a _ => rfl, fun k' hk' t ht => ?_⟩
      rw [show k' = 0 by omega]
      exact h0 t ht
    | succ k ih =>
      intro hk
      obtain ⟨S1, e1, f1, g1, k1⟩ := ih (by omega)
      obtain ⟨f, hf⟩ : ∃ f, f + k + 1 = o := ⟨o - k - 1, by omega⟩
      have hz : zI ((o : Int) - 1 - k) = nI f := by rw [show (o : Int) - 1 - k = (f : Int) by omega]; rfl
      obtain ⟨s, ⟨S2, hs, f2, g2, k2, k3⟩, he⟩ := lim_inv (step := sX4_match) (K := fun j s => ∃ S2, s = .inr (.inr (.inr (.inr (20, nI o, nI n, nI f, nI j, S2)))) ∧ FrC S S2 mPI [] [] ∧ (∀ a, a < 28 ∨ 33 < a → m_I S2 a = m_I S a) ∧ KC S2 cC o n k ∧ ∀ t, t < j → m_I S2 (28 + f) t = zI (Lc cC o n (k + 1) t)) (2 ^ n) (s0 := .inr (.inr (.inr (.inr (20, nI o, nI n, nI f, nI 0, S1))))) ⟨S1, rfl, f1, g1, k1, fun t h => by omega⟩ (fun j hj s hs => by
        obtain ⟨S2, rfl, f2, g2, k2, k3⟩ := hs
        have C2 : CS S2 := hC.fr f2 (by simp) (by simp)
        have hL : ∀ t, t < 2 ^ n → m_I S2 (28 + (f + 1)) t = zI (Lc cC o n k t) := fun t ht => by
          rw [show f + 1 = o - k by omega]
          exact k2 k (Nat.le_refl _) t ht
        refine ⟨.inr (.inr (.inr (.inr (20, nI o, nI n, nI f, nI (j + 1), m_sI S2 (28 + f) (upd (m_I S2 (28 + f)) j (zI (Lc cC o n (k + 1) j))))))), ?_, _, rfl, f2.tr (FrC.sI (by omega) (mPI_28 (by omega))), fun a ha => ?_, fun k' hk' t ht => ?_, fun t ht => ?_⟩
        · show bX4_match_124 S2 20 (nI o) (nI n) (nI f) (nI j) = _
          unfold bX4_match_124
          rw [sh1 n (by omega), if_neg (nI_ge hj (by omega)), cP20_1 C2, Option.bind_some, cP27 C2 f (by omega), Option.bind_some, cIs20 C2, Option.bind_some, C_leastM C2 hPC ho hn hf hj (hA.fr ho g2) hL, Option.bind_some, at_st (cAt28 C2 f (by omega)) (cLn28 C2 f (by omega)) (by decide) rfl (by omega), Option.bind_some, nI_1, Option.bind_some]
        · rw [mI_ne (by omega)]; exact g2 a ha
        · rw [mI_ne (by omega)]; exact k2 k' hk' t ht
        · rw [mI_same]
          by_cases q : t = j
          · rw [q, upd_s]
          · rw [upd_n q]; exact k3 t (by omega))
      refine ⟨S2, ?_, f2, g2, fun k' hk' t ht => ?_⟩
      · rw [e1, hz, lim_eq]
        show fin sX4_match (bX4_match_116 S1 20 (nI o) (nI n) (nI f)) = _
        unfold bX4_match_116
        rw [if_neg (nI_pos (by omega)), fin_l, show lim sX4_match (.inr (.inr (.inr (.inr (20, nI o, nI n, nI f, 0, S1))))) = _ from he, hs, lim_eq]
        show fin sX4_match (bX4_match_124 S2 20 (nI o) (nI n) (nI f) (nI (2 ^ n))) = _
        unfold bX4_match_124
        have hv : nI f + (-1 : Int32) = zI ((o : Int) - 1 - (k + 1 : Nat)) := by
          show zI f + zI (-1) = _
          rw [zI_add, show (f : Int) + -1 = (o : Int) - 1 - (k + 1 : Nat) by omega]
        rw [sh1 n (by omega), if_pos (nI_le (Nat.le_refl _) (by omega)), hv, Option.bind_some, fin_l]
      · by_cases q : k' = k + 1
        · rw [q, show o - (k + 1) = f by omega]; exact k3 t ht
        · exact k2 k' (by omega) t ht
  obtain ⟨S', e, f, g, k⟩ := key o (Nat.le_refl _)
  refine ⟨S', ?_, f, g, k⟩
  rw [e, show (o : Int) - 1 - (o : Nat) = -1 by omega]
/-- a partner, -9: none -/
def pn (n x : Nat) : Int32 := if x < n then nI x else -9
theorem C_firstPartner {f t k : Nat} (hC : CS S) (hPC : PC cC cR o n) (ho : o ≤ 5) (hn : n ≤ 5) (hfk : f + k + 1 = o) (ht : t < 2 ^ n) (hA : KA S cC n o) (hK : KC S cC o n o) : fX4_firstPartner S 20 (nI f) (nI t) (nI n) = some (pn n (fp cC o n k t)) := by
  have h32 := p32 hn
  have hf : f = o - k - 1 := by omega
  have hL : ∀ t, t < 2 ^ n → m_I S (28 + (f + 1)) t = zI (Lc cC o n k t) := fun t ht => by
    rw [show f + 1 = o - k by omega]
    exact hK k (by omega) t ht
  have hL1 : m_I S (28 + f) t = zI (Lc cC o n (k + 1) t) := by
    rw [show f = o - (k + 1) by omega]
    exact hK (k + 1) (by omega) t ht
  have hb1 := Lc_b hPC hn (k + 1) t (by omega) ht
  -- one step
  have st : ∀ g, g < n → (att cC o n k t g → bX4_firstPartner_3 S 20 (nI f) (nI t) (nI n) (nI g) = some (.inr (nI g))) ∧ (¬ att cC o n k t g → bX4_firstPartner_3 S 20 (nI f) (nI t) (nI n) (nI g) = some (.inl (20, nI f, nI t, nI n, nI (g + 1)))) := fun g hg => by
    unfold bX4_firstPartner_3 bX4_firstPartner_40
    rw [if_neg (nI_ge hg (by omega)), C_isIn (by omega), Option.bind_some, nI_1, Option.bind_some]
    by_cases hb : t.testBit g = true
    · rw [if_pos hb, if_neg (by decide)]
      exact ⟨fun q => (by have := q.1; rw [hb] at this; cases this), fun _ => rfl⟩
    · have hb' : t.testBit g = false := by simpa using hb
      have h2 := Lc_b hPC hn k (t ||| 2 ^ g) (by omega) (or_lt ht hg)
      have h3 := hPC f g (by omega) hg
      have hkf : att cC o n k t g ↔ cC f g + Lc cC o n k (t ||| 2 ^ g) = Lc cC o n (k + 1) t := by
        unfold att
        rw [← hf]
        exact ⟨fun q => q.2, fun q => ⟨hb', q⟩⟩
      rw [if_neg hb, if_pos rfl, cIs20 hC, Option.bind_some, C_costWith hC (by omega) (by omega) hn hg ht hA hL, Option.bind_some, cP20_1 hC, Option.bind_some, cP27 hC f (by omega), Option.bind_some, at_ld (cAt28 hC f (by omega)) (cLn28 hC f (by omega)) (by decide) rfl (by omega), Option.bind_some, hL1, hkf]
      have hAb : 0 ≤ cC f g + Lc cC o n k (t ||| 2 ^ g) ∧ cC f g + Lc cC o n k (t ||| 2 ^ g) < 100000 := by omega
      have hBb : 0 ≤ Lc cC o n (k + 1) t ∧ Lc cC o n (k + 1) t < 100000 := by omega
      generalize cC f g + Lc cC o n k (t ||| 2 ^ g) = A at *
      generalize Lc cC o n (k + 1) t = B at *
      have hz : zI A = zI B ↔ A = B := by rw [i_eq, zI_t (by omega) (by omega), zI_t (by omega) (by omega)]
      exact ⟨fun q => by rw [if_pos (hz.mpr q)], fun q => by rw [if_neg (fun z => q (hz.mp z))]⟩
  unfold fX4_firstPartner bX4_firstPartner_0 pn
  rw [fin_l]
  rcases fp_s (cC := cC) (o := o) (n := n) (k := k) (t := t) with ⟨a, b⟩ | ⟨a, b, c⟩
  · rw [a, if_neg (by omega)]
    refine lim_it2 (step := sX4_firstPartner S) (st := fun g => (20, nI f, nI t, nI n, nI g)) n (fun g hg => (st g hg).2 (b g hg)) ?_
    show bX4_firstPartner_3 S 20 (nI f) (nI t) (nI n) (nI n) = _
    unfold bX4_firstPartner_3
    rw [if_pos (nI_le (Nat.le_refl _) (by omega))]
  · rw [if_pos a]
    exact lim_it2 (step := sX4_firstPartner S) (st := fun g => (20, nI f, nI t, nI n, nI g)) (fp cC o n k t) (fun g hg => (st g (by omega)).2 (c g hg)) ((st _ a).1 b)
/-- taken before the old front f -/
def tk (cC : Nat → Nat → Int) (o n : Nat) : Nat → Nat
  | 0 => 0
  | f + 1 => nx cC o n (o - f - 1) (tk cC o n f)
theorem tk_lt (f : Nat) : tk cC o n f < 2 ^ n := by
  induction f with
  | zero => exact Nat.pow_pos (by decide)
  | succ f ih =>
    show nx cC o n (o - f - 1) (tk cC o n f) < _
    unfold nx
    split
    · exact or_lt ih (by assumption)
    · exact ih
theorem C_setPartners (hC : CS S) (hPC : PC cC cR o n) (ho : o ≤ 5) (hn : n ≤ 5) (hA : KA S cC n o) (hK : KC S cC o n o) : ∃ S', fX4_setPartners S 20 (nI o) (nI n) = some S' ∧ FrC S S' mPI [] [] ∧ (∀ a, a ≠ 34 → m_I S' a = m_I S a) ∧ ∀ f, f < o → m_I S' 34 f = pn n (fp cC o n (o - f - 1) (tk cC o n f)) := by
  obtain ⟨s, ⟨S2, hs, f2, g2, k2⟩, he⟩ := lim_inv (step := sX4_setPartners) (K := fun j s => ∃ S2, s = (20, nI o, nI n, nI (tk cC o n j), nI j, S2) ∧ FrC S S2 mPI [] [] ∧ (∀ a, a ≠ 34 → m_I S2 a = m_I S a) ∧ ∀ f, f < j → m_I S2 34 f = pn n (fp cC o n (o - f - 1) (tk cC o n f))) o (s0 := (20, nI o, nI n, nI 0, nI 0, S)) ⟨S, rfl, FrC.rf, fun a _ => rfl, fun f h => by omega⟩ (fun j hj s hs => by
    obtain ⟨S2, rfl, f2, g2, k2⟩ := hs
    have C2 : CS S2 := hC.fr f2 (by simp) (by simp)
    have hA2 : KA S2 cC n o := fun i' hi' j' hj' => by rw [g2 _ (by omega)]; exact hA i' hi' j' hj'
    have hK2 : KC S2 cC o n o := fun k' hk' t ht => by rw [g2 _ (by omega)]; exact hK k' hk' t ht
    have e1 := C_firstPartner (f := j) (t := tk cC o n j) (k := o - j - 1) C2 hPC ho hn (by omega) (tk_lt j) hA2 hK2
    obtain ⟨v, hv⟩ : ∃ v, v = fp cC o n (o - j - 1) (tk cC o n j) := ⟨_, rfl⟩
    rw [← hv] at e1
    have a34 : m_at S2 34 12 := C2.at 34 (by decide) (by decide)
    have l34 : m_L S2 34 = 5 := (C2.2.1 34 (by decide) (by decide)).2
    obtain ⟨T, hT⟩ : ∃ T, T = m_sI S2 34 (upd (m_I S2 34) j (pn n v)) := ⟨_, rfl⟩
    have fT : FrC S2 T mPI [] [] := by rw [hT]; exact FrC.sI (by decide) (by decide)
    have CT : CS T := C2.fr fT (by simp) (by simp)
    have aT : m_at T 34 12 := CT.at 34 (by decide) (by decide)
    have lT : m_L T 34 = 5 := (CT.2.1 34 (by decide) (by decide)).2
    have iT : m_I T 34 = upd (m_I S2 34) j (pn n v) := by rw [hT, mI_same]
    refine ⟨(20, nI o, nI n, nI (tk cC o n (j + 1)), nI (j + 1), T), ?_, T, rfl, f2.tr fT, fun a ha => ?_, fun f hf => ?_⟩
    · show bX4_setPartners_5 S2 20 (nI o) (nI n) (nI (tk cC o n j)) (nI j) = _
      have hn1 : nI j + 1 = nI (j + 1) := nI_1 j
      have ht1 : tk cC o n (j + 1) = if v < n then tk cC o n j ||| 2 ^ v else tk cC o n j := by
        rw [hv]; rfl
      unfold bX4_setPartners_5 bX4_setPartners_50
      rw [if_neg (nI_ge hj (by omega)), cP20_2 C2, Option.bind_some, cIs20 C2, Option.bind_some, e1, Option.bind_some, at_st a34 l34 (by decide) rfl (by omega), Option.bind_some, ← hT, cP20_2 CT, Option.bind_some, at_ld aT lT (by decide) rfl (by omega), iT, upd_s, Option.bind_some, hn1, Option.bind_some, ht1]
      by_cases hvn : v < n
      · have hp : pn n v = nI v := if_pos hvn
        rw [hp, if_neg (show ¬ nI v = -9 from fun q => by
          rw [i_eq, nI_toInt (by omega)] at q
          have : (-9 : Int32).toInt = -9 := rfl
          omega), if_pos hvn]
        simp only [Option.bind_some]
        rw [at_ld aT lT (by decide) rfl (by omega), iT, upd_s, hp, Option.bind_some, sh1 v (by omega), nI_or]
      · have hp : pn n v = -9 := if_neg hvn
        rw [hp, if_pos rfl, if_neg hvn]
    · rw [hT, mI_ne ha]; exact g2 a ha
    · rw [iT]
      by_cases q : f = j
      · rw [q, upd_s, hv]
      · rw [upd_n q]; exact k2 f (by omega))
  refine ⟨S2, ?_, f2, g2, k2⟩
  unfold fX4_setPartners bX4_setPartners_0
  rw [fin_l, show lim sX4_setPartners (20, nI o, nI n, 0, 0, S) = _ from he, hs]
  apply lim_end
  show bX4_setPartners_5 S2 20 (nI o) (nI n) (nI (tk cC o n o)) (nI o) = _
  unfold bX4_setPartners_5
  rw [if_pos (nI_le (Nat.le_refl _) (by omega))]
/-- the class matches -/
theorem C_match (hC : CS S) (hPC : PC cC cR o n) (ho : o ≤ 5) (hn : n ≤ 5) (hla : la = 14 ∨ la = 15) (hlb : lb = 14 ∨ lb = 15) (La : Lst S la o 4 ea fs0) (Lb : Lst S lb n 4 eb fs1) (hp : ∀ S', FrC S S' mPI [] [] → ∀ f g, f < o → g < n → fX4_pairCost S' (fs0 f) (fs1 g) = some (zI (cC f g))) : ∃ S', fX4_match S 20 la lb = some (zI (Lc cC o n o 0), S') ∧ CS S' ∧ FrC S S' mPI [] [] ∧ ∀ f, f < o → m_I S' 34 f = pn n (fp cC o n (o - f - 1) (tk cC o n f)) := by
  have h2n : 0 < 2 ^ n := Nat.pow_pos (by decide)
  obtain ⟨S1, e1, f1, k1⟩ := mA hC ho hn hla hlb La Lb hp
  have C1 : CS S1 := hC.fr f1 (by simp) (by simp)
  obtain ⟨S2, e2, f2, g2, k2⟩ := mB (cC := cC) C1 ho hn
  have C2 : CS S2 := C1.fr f2 (by simp) (by simp)
  have A2 : KA S2 cC n o := k1.fr ho (fun a ha => g2 a (by omega))
  obtain ⟨S3, e3, f3, g3, k3⟩ := mC C2 hPC ho hn A2 k2
  have C3 : CS S3 := C2.fr f3 (by simp) (by simp)
  obtain ⟨S4, e4, f4, g4, k4⟩ := C_setPartners C3 hPC ho hn (A2.fr ho g3) k3
  have C4 : CS S4 := C3.fr f4 (by simp) (by simp)
  refine ⟨S4, ?_, C4, f1.tr (f2.tr (f3.tr f4)), k4⟩
  unfold fX4_match bX4_match_0
  rw [at_is La.1.1, Option.bind_some, L_size La, Option.bind_some, at_is Lb.1.1, Option.bind_some, L_size Lb, Option.bind_some, fin_l, show lim sX4_match (.inl (20, la, lb, nI o, nI n, 0, S)) = _ from e1, e2, e3]
  apply lim_end
  show bX4_match_116 S3 20 (nI o) (nI n) (zI (-1)) = _
  have h28 : m_I S4 28 0 = zI (Lc cC o n o 0) := by
    rw [g4 28 (by decide)]
    have := k3 o (Nat.le_refl _) 0 h2n
    rw [Nat.sub_self] at this
    exact this
  unfold bX4_match_116
  rw [if_pos (by decide), cIs20 C3, Option.bind_some, e4, Option.bind_some, cP20_1 C4, Option.bind_some, show o_ldP S4 27 16 (0 : Int32) = some 28 from cP27 C4 0 (by decide), Option.bind_some, show o_ld S4 28 12 (0 : Int32) = some (m_I S4 28 0) from at_ld (n := 32) (C4.at 28 (by decide) (by decide)) (C4.2.1 28 (by decide) (by decide)).2 (by decide) (i := 0) (j := 0) rfl (by decide), Option.bind_some, h28]
end MU
