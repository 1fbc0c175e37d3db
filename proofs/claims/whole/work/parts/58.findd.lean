/-! the reference finds the doubted -/
def agb (V : Nat → Bool) (lv pl : Nat → Int32) (st : Int32) (n p q : Nat) : Bool := decide (p < n) && decide (q < n) && !decide (p = q) && V p && V q && !decide (ab (lv p - lv q) ≤ st * stp (pl p) (pl q))
def Fdo (I : Nat → Nat → Int32) (n : Nat) (V : Nat → Bool) (lv pl : Nat → Int32) (st : Int32) : Prop := (n ≤ 12 ∧ I 1 1 = nI n ∧ I 1 17 = st) ∧ ∀ p, p < n → ((V p = true → ∃ w, w < 30 ∧ I 14 p = nI w) ∧ (V p = false → I 14 p = -9)) ∧ I 15 p = pl p ∧ I 16 p = lv p
section FD
variable {I K : Nat → Nat → Int32} {J : Nat → Nat → Int64} {n : Nat} {V : Nat → Bool} {lv pl : Nat → Int32} {st : Int32}
theorem Fdo.fr (h : Fdo I n V lv pl st) (hf : FrR I K [17, 18] [23]) : Fdo K n V lv pl st := by
  obtain ⟨⟨a1, a2, a3⟩, a4⟩ := h
  refine ⟨⟨a1, ?_, ?_⟩, fun p hp => ?_⟩
  · rw [hf.2 1 (by simp)]; exact a2
  · rw [hf.2 17 (by simp)]; exact a3
  · rw [hf.1 14 (by decide) (by simp), hf.1 15 (by decide) (by simp), hf.1 16 (by decide) (by simp)]
    exact a4 p hp
theorem Fdo.v (h : Fdo I n V lv pl st) {p : Nat} (hp : p < n) : (I 14 p < 0) = (V p = false) := by
  cases hv : V p with
  | false => rw [((h.2 p hp).1.2 hv)]; exact propext ⟨fun _ => rfl, fun _ => by decide⟩
  | true =>
    obtain ⟨w, hw, hv⟩ := (h.2 p hp).1.1 hv
    rw [hv]
    exact propext ⟨fun x => absurd x (nI_neg (by omega)), fun x => by cases x⟩
theorem R_doQuarrel (h : Fdo I n V lv pl st) {p q : Nat} (hp : p < n) (hq : q < n) : fX10_doQuarrel (mkR I J) 1 (nI p) (nI q) = some (if ab (lv p - lv q) ≤ st * stp (pl p) (pl q) then 0 else 1) := by
  have hn := h.1.1
  unfold fX10_doQuarrel bX10_doQuarrel_0 bX10_doQuarrel_44
  simp only [rP21, rP22, rI, rL15 rfl (show p < 12 by omega), rL15 rfl (show q < 12 by omega), rL16 rfl (show p < 12 by omega), rL16 rfl (show q < 12 by omega), (h.2 p hp).2.1, (h.2 q hq).2.1, (h.2 p hp).2.2, (h.2 q hq).2.2, h.1.2.2, R_sizeOf, R_steps, Option.bind_some]
  split <;> rfl
theorem agb_n {p q : Nat} (h : ¬ (p < n ∧ q < n ∧ p ≠ q ∧ V p = true ∧ V q = true ∧ ¬ ab (lv p - lv q) ≤ st * stp (pl p) (pl q))) : agb V lv pl st n p q = false := by
  unfold agb
  cases hb : (decide (p < n) && decide (q < n) && !decide (p = q) && V p && V q && !decide (ab (lv p - lv q) ≤ st * stp (pl p) (pl q))) with
  | false => rfl
  | true =>
    simp only [Bool.and_eq_true, decide_eq_true_eq, Bool.not_eq_true', decide_eq_false_iff_not] at hb
    exact absurd ⟨hb.1.1.1.1.1, hb.1.1.1.1.2, hb.1.1.1.2, hb.1.1.2, hb.1.2, hb.2⟩ h
theorem agb_y {p q : Nat} (h : p < n ∧ q < n ∧ p ≠ q ∧ V p = true ∧ V q = true ∧ ¬ ab (lv p - lv q) ≤ st * stp (pl p) (pl q)) : agb V lv pl st n p q = true := by
  unfold agb
  simp [h.1, h.2.1, h.2.2.1, h.2.2.2.1, h.2.2.2.2.1, h.2.2.2.2.2]
theorem agb_e {p q : Nat} (h : agb V lv pl st n p q = true) : p < n ∧ q < n ∧ p ≠ q ∧ V p = true ∧ V q = true ∧ ¬ ab (lv p - lv q) ≤ st * stp (pl p) (pl q) := by
  apply Classical.byContradiction
  intro hx
  rw [agb_n hx] at h
  cases h
/-- the inner walk: whom p quarrels with, up to q -/
theorem R_fd2_step (h : Fdo I n V lv pl st) {K : Nat → Nat → Int32} (hf : FrR I K [17, 18] [23]) {p q : Nat} {x1 : Int32} (hp : p < n) (hq : q < n) (hk : K 18 p = nI (mk (agb V lv pl st n p) q)) : sX10_findDoubted (.inr (.inr (.inl (1, x1, nI p, nI q, mkR K J)))) = some (.inl (.inr (.inr (.inl (1, x1, nI p, nI (q + 1), mkR (va_up K 18 (upd (K 18) p (nI (mk (agb V lv pl st n p) (q + 1))))) J))))) := by
  have hK := h.fr hf
  have hn := h.1.1
  have hp12 : p < 12 := by omega
  have hq12 : q < 12 := by omega
  show bX10_findDoubted_56 (mkR K J) 1 x1 (nI p) (nI q) = _
  unfold bX10_findDoubted_56 bX10_findDoubted_109 bX10_findDoubted_110
  have e1 : ¬ nI n ≤ nI q := nI_ge hq (by omega)
  have epq : (nI p = nI q) = (p = q) := propext (nI_eq (by omega) (by omega))
  simp only [rI, hK.1.2.1, rP25, rP20, rL18 rfl hp12, hk, rL14 rfl hp12, rL14 rfl hq12, hK.v hp, hK.v hq, rIs, R_doQuarrel hK hp hq, Option.bind_some, if_neg e1, epq, rS18 rfl hp12, nI_1, sh1 q hq12, nI_or]
  have no : agb V lv pl st n p q = false → mk (agb V lv pl st n p) (q + 1) = mk (agb V lv pl st n p) q := fun hx => mk_no hx
  have z : nI (mk (agb V lv pl st n p) q) ||| 0 = nI (mk (agb V lv pl st n p) q) := by
    rw [show (0 : Int32) = nI 0 from rfl, nI_or, Nat.or_zero]
  by_cases c1 : p = q
  · rw [no (agb_n (fun x => x.2.2.1 c1))]
    simp only [c1, if_true] at z ⊢
    rw [z]
  · by_cases c2 : V p = false
    · rw [no (agb_n (fun x => by rw [c2] at x; cases x.2.2.2.1))]
      simp only [c1, c2, if_true, if_false, z]
    · by_cases c3 : V q = false
      · rw [no (agb_n (fun x => by rw [c3] at x; cases x.2.2.2.2.1))]
        simp only [c1, c2, c3, Bool.true_eq_false, if_true, if_false, z]
      · by_cases c4 : ab (lv p - lv q) ≤ st * stp (pl p) (pl q)
        · rw [no (agb_n (fun x => x.2.2.2.2.2 c4))]
          simp only [c1, c2, c3, c4, Bool.true_eq_false, if_true, if_false, z]
        · have hy : agb V lv pl st n p q = true := agb_y ⟨hp, hq, c1, by simpa using c2, by simpa using c3, c4⟩
          simp only [c1, c2, c3, c4, Bool.true_eq_false, if_false, e10, mk_or hy]
theorem agb_mk {p : Nat} (hp : p < n) (V' : Nat → Bool) : mk (agb V lv pl st n p) n = mk (agb V lv pl st n p) n := rfl
/-- against whom p is, all of them -/
theorem R_fd2 (h : Fdo I n V lv pl st) {K : Nat → Nat → Int32} (hf : FrR I K [17, 18] [23]) {p : Nat} {x1 : Int32} (hp : p < n) (hk : K 18 p = 0) : ∃ K', hX10_findDoubted_46 (mkR K J) 1 x1 (nI p) = hX10_findDoubted_46 (mkR K' J) 1 x1 (nI (p + 1)) ∧ FrR I K' [17, 18] [23] ∧ K' 18 = upd (K 18) p (nI (mk (agb V lv pl st n p) n)) := by
  have hn := h.1.1
  have hK := h.fr hf
  obtain ⟨s, ⟨K', hs, hf', h18⟩, he⟩ := lim_inv (step := sX10_findDoubted) (K := fun q s => ∃ K', s = .inr (.inr (.inl (1, x1, nI p, nI q, mkR K' J))) ∧ FrR I K' [17, 18] [23] ∧ K' 18 = upd (K 18) p (nI (mk (agb V lv pl st n p) q))) n (s0 := .inr (.inr (.inl (1, x1, nI p, nI 0, mkR K J)))) ⟨K, rfl, hf, by
      funext x
      by_cases hx : x = p
      · subst hx; rw [upd_s, hk]; rfl
      · rw [upd_n hx]⟩ (fun q hq s hs => by
      obtain ⟨K', rfl, hf', h18⟩ := hs
      refine ⟨_, R_fd2_step h hf' hp hq (by rw [h18, upd_s]), _, rfl, hf'.tr (FrR.up (by decide) (by simp)), ?_⟩
      rw [up_s, h18, upd_upd])
  refine ⟨K', ?_, hf', h18⟩
  rw [qX10_findDoubted_46]
  unfold bX10_findDoubted_46
  simp only [rI, hK.1.2.1, Option.bind_some, if_neg (nI_ge hp (show n < 2 ^ 31 by omega)), fin_l]
  rw [show lim sX10_findDoubted (.inr (.inr (.inl (1, x1, nI p, 0, mkR K J)))) = _ from he, hs, lim_eq]
  show fin sX10_findDoubted (bX10_findDoubted_56 (mkR K' J) 1 x1 (nI p) (nI n)) = _
  have hK' := h.fr hf'
  unfold bX10_findDoubted_56
  simp only [rI, hK'.1.2.1, Option.bind_some, if_pos (nI_le (Nat.le_refl n) (show n < 2 ^ 31 by omega)), nI_1, fin_l]
  rfl
theorem R_fd1_step (h : Fdo I n V lv pl st) {K : Nat → Nat → Int32} (hf : FrR I K [17, 18] [23]) {j : Nat} (hj : j < n) : sX10_findDoubted (.inl (1, nI (mk V j), nI j, mkR K J)) = some (.inl (.inl (1, nI (mk V (j + 1)), nI (j + 1), mkR (va_up K 18 (upd (K 18) j 0)) J))) := by
  have hK := h.fr hf
  have hn := h.1.1
  have hj12 : j < 12 := by omega
  have e1 : ¬ nI n ≤ nI j := nI_ge hj (by omega)
  have hv := hK.v hj
  show bX10_findDoubted_4 (mkR K J) 1 (nI (mk V j)) (nI j) = _
  unfold bX10_findDoubted_4 bX10_findDoubted_36
  simp only [rI, hK.1.2.1, rP25, rP20, rS18 rfl hj12, rL14 rfl hj12, up_n (show (14 : Nat) ≠ 18 by decide), hv, Option.bind_some, if_neg e1, nI_1, sh1 j hj12, nI_or]
  by_cases hb : V j = false
  · rw [if_pos hb, mk_no hb, show (0 : Int32) = nI 0 from rfl, nI_or, Nat.or_zero]
  · rw [if_neg hb, mk_or (by simpa using hb)]
def dif (A s : Nat) : Nat := mk (fun k => A.testBit k && !s.testBit k) 12
theorem dif_lt (A s : Nat) : dif A s < 4096 := mk_lt _ 12
theorem dif_bit {A s : Nat} (hA : A < 4096) (k : Nat) : (dif A s).testBit k = (A.testBit k && !s.testBit k) := by
  unfold dif
  rw [mk_bit]
  by_cases hk : k < 12
  · simp [hk]
  · have : A.testBit k = false := hi_bit (n := 12) hA (by omega)
    simp [hk, this]
theorem nI_dif {A s : Nat} (hA : A < 4096) : nI A &&& (nI s ^^^ -1) = nI (dif A s) := bt_ext (fun k hk => by
  rw [bt_and, bt_xor, bt_m1 k hk, bt_nI, bt_nI, bt_nI, dif_bit hA]
  simp only [hk, decide_true, Bool.true_and, Bool.xor_true])
def qt (ag : Nat → Nat → Bool) (n m j : Nat) : Prop := ∀ p, p < j → m.testBit p = true → ∀ q, q < n → ag p q = true → m.testBit q = false
theorem and_0 {a b : Nat} (ha : a < 4096) : (nI a &&& nI b = 0) = (∀ k, k < 12 → a.testBit k = true → b.testBit k = false) := by
  apply propext
  rw [nI_and]
  have hlt : a &&& b < 4096 := Nat.lt_of_le_of_lt Nat.and_le_left ha
  rw [show (nI (a &&& b) = 0) ↔ (a &&& b = 0) from nI_eq (b := 0) (by omega) (by omega)]
  constructor
  · intro h k _ hk
    have := Nat.testBit_and a b k
    rw [h, hk, Nat.zero_testBit, Bool.true_and] at this
    exact this.symm
  · intro h
    apply Nat.eq_of_testBit_eq
    intro k
    rw [Nat.testBit_and, Nat.zero_testBit]
    by_cases hk : a.testBit k = true
    · have hk12 : k < 12 := by
        apply Decidable.byContradiction
        intro hn
        rw [hi_bit (n := 12) ha (by omega)] at hk
        cases hk
      rw [hk, h k hk12 hk]
      rfl
    · have : a.testBit k = false := by simpa using hk
      rw [this]
      rfl
noncomputable def fl (P : Prop) : Int32 := @ite _ P (Classical.propDecidable _) 1 0
theorem fl_t {P : Prop} (h : P) : fl P = 1 := if_pos h
theorem fl_f {P : Prop} (h : ¬ P) : fl P = 0 := if_neg h
theorem fl_zb (P : Prop) : o_zb (fl P) = some (fl P) := by
  by_cases h : P
  · rw [fl_t h]; rfl
  · rw [fl_f h]; rfl
theorem R_isQuiet {ag : Nat → Nat → Bool} (h : Fdo I n V lv pl st) (h18 : ∀ p, p < n → I 18 p = nI (mk (ag p) n)) {m : Nat} : fX10_isQuiet (mkR I J) 1 (nI m) = some (fl (qt ag n m n)) := by
  have hn := h.1.1
  have h12 : ∀ p, mk (ag p) n < 4096 := fun p => Nat.lt_of_lt_of_le (mk_lt _ n) (by
    have : 2 ^ n ≤ 2 ^ 12 := Nat.pow_le_pow_right (by decide) hn
    exact this)
  unfold fX10_isQuiet bX10_isQuiet_0
  rw [fin_l]
  have h0 : fl (qt ag n m 0) = 1 := fl_t (fun p hp => by omega)
  rw [← h0]
  refine lim_it2 (st := fun j => (1, nI m, fl (qt ag n m j), nI j)) n (fun j hj => ?_) ?_
  · show bX10_isQuiet_4 (mkR I J) 1 (nI m) (fl (qt ag n m j)) (nI j) = _
    have hj12 : j < 12 := by omega
    have e1 : ¬ nI n ≤ nI j := nI_ge hj (by omega)
    have one : (∀ k, k < 12 → (mk (ag j) n).testBit k = true → m.testBit k = false) ↔ ∀ q, q < n → ag j q = true → m.testBit q = false := by
      constructor
      · intro h q hq hx
        exact h q (by omega) (by rw [mk_bit]; simp [hq, hx])
      · intro h k hk hx
        rw [mk_bit] at hx
        simp only [Bool.and_eq_true, decide_eq_true_eq] at hx
        exact h k hx.1 hx.2
    unfold bX10_isQuiet_4 bX10_isQuiet_39 bX10_isQuiet_35 bX10_isQuiet_40
    simp only [rI, h.1.2.1, Option.bind_some, if_neg e1, R_hasBit hj12, rP25, rL18 rfl hj12, h18 j hj, and_0 (h12 j), nI_1]
    by_cases c0 : qt ag n m j
    · rw [fl_t c0]
      simp only [e10, if_false]
      by_cases c1 : m.testBit j = true
      · simp only [c1, if_true, e10, if_false]
        by_cases c2 : ∀ k, k < 12 → (mk (ag j) n).testBit k = true → m.testBit k = false
        · rw [if_pos c2, fl_t]
          intro p hp hb
          by_cases hpj : p = j
          · rw [hpj]; exact one.mp c2
          · exact c0 p (by omega) hb
        · rw [if_neg c2, fl_f]
          intro hx
          exact c2 (one.mpr (hx j (by omega) c1))
      · have c1' : m.testBit j = false := by simpa using c1
        simp only [c1', Bool.false_eq_true, if_false, if_true]
        rw [fl_t]
        intro p hp hb
        by_cases hpj : p = j
        · rw [hpj, c1'] at hb; cases hb
        · exact c0 p (by omega) hb
    · rw [fl_f c0, fl_f (fun hx => c0 (fun p hp => hx p (by omega)))]
      simp only [if_true]
  · show bX10_isQuiet_4 (mkR I J) 1 (nI m) (fl (qt ag n m n)) (nI n) = _
    have e1 : nI n ≤ nI n := nI_le (Nat.le_refl _) (by omega)
    unfold bX10_isQuiet_4 bX10_isQuiet_39 bX10_isQuiet_35 bX10_isQuiet_40
    simp only [rI, h.1.2.1, Option.bind_some, if_pos e1, fl_zb]
theorem qt_pcs {ag : Nat → Nat → Bool} {A s : Nat} (hA : A < 4096) (hs : sub s A) (hag : ∀ p q, ag p q = true → A.testBit p = true ∧ A.testBit q = true) : qt ag n (dif A s) n ↔ pcs ag n s := by
  constructor
  · intro h p hp hsp q hq hpq
    have h1 := h p hp (by rw [dif_bit hA, (hag p q hpq).1, hsp]; rfl) q hq hpq
    rw [dif_bit hA, (hag p q hpq).2, Bool.true_and] at h1
    simpa using h1
  · intro h p hp hd q hq hpq
    rw [dif_bit hA, (hag p q hpq).1, Bool.true_and] at hd
    have h1 := h p hp (by simpa using hd) q hq hpq
    rw [dif_bit hA, h1]
    simp
end FD
