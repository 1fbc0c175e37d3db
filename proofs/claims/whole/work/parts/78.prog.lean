/-! values: bounds, carried, counted; prognosis, keep -/
def vB (x : Int32) : Prop := x = -9 ∨ 9000 ≤ x.toInt ∧ x.toInt ≤ 11000
theorem lvl_b {ht x : Int32} (h1 : 0 ≤ ht.toInt ∧ ht.toInt ≤ 3000) (h2 : -9 ≤ x.toInt ∧ x.toInt < 100000) : 9000 ≤ (lvl ht x).toInt ∧ (lvl ht x).toInt ≤ 11000 := by
  have e100 : (100 : Int32).toInt = 100 := rfl
  have e12 : (12 : Int32).toInt = 12 := rfl
  have e500 : (500 : Int32).toInt = 500 := rfl
  have e9000 : (9000 : Int32).toInt = 9000 := rfl
  have e10000 : (10000 : Int32).toInt = 10000 := rfl
  have d1 := i_div (x := x) e100 (by decide)
  have m1 : (12 * ht : Int32).toInt = 12 * ht.toInt := by rw [i_mul, e12] <;> rw [e12] <;> omega
  have d2 := i_byd (v := 12 * ht) e100 (by decide)
  rw [m1] at d2
  have b1 : 0 ≤ (x / 100).toInt ∧ (x / 100).toInt ≤ 999 := by
    rw [d1]
    split <;> omega
  have b2 : 0 ≤ (byd (12 * ht) 100).toInt ∧ (byd (12 * ht) 100).toInt ≤ 360 := by
    rw [d2]
    omega
  unfold lvl
  by_cases h : 500 ≤ x / 100
  · rw [if_pos h]
    rw [i_le, e500] at h
    have a1 : (9000 + x / 100 : Int32).toInt = 9000 + (x / 100).toInt := by rw [i_add, e9000] <;> rw [e9000] <;> omega
    rw [i_add (by rw [a1]; omega) (by rw [a1]; omega), a1]
    omega
  · rw [if_neg h]
    rw [i_le, e500] at h
    have a1 : (10000 + x / 100 : Int32).toInt = 10000 + (x / 100).toInt := by rw [i_add, e10000] <;> rw [e10000] <;> omega
    rw [i_add (by rw [a1]; omega) (by rw [a1]; omega), a1]
    omega
theorem vq_lt {I : Nat → Nat → Int32} {np nw d q : Nat} {x : Int32} (hn : np ≤ 12) (h : vq I np nw d x = some q) : q < np ∧ inV I nw q = true := by
  have hmk : mk (inV I nw) np < 4096 := Nat.lt_of_lt_of_le (mk_lt _ np) (by
    have : 2 ^ np ≤ 2 ^ 12 := Nat.pow_le_pow_right (by decide) hn
    exact this)
  obtain ⟨h1, h2⟩ := nq_lt h
  rw [dif_bit hmk, mk_bit] at h2
  simp only [Bool.and_eq_true] at h2
  exact ⟨h1, h2.1.2⟩
theorem lvn_b {I : Nat → Nat → Int32} {np nw q : Nat} (hp : poR I q) (hv : inV I nw q = true) : 9000 ≤ (lvn I np nw q).toInt ∧ (lvn I np nw q).toInt ≤ 11000 := by
  unfold inV at hv
  unfold lvn
  cases hs : shn I nw q with
  | none => rw [hs] at hv; cases hv
  | some w =>
    refine lvl_b hp.2.2.1 ?_
    cases hm : mnd I np nw w q with
    | none => show -9 ≤ (-9 : Int32).toInt ∧ (-9 : Int32).toInt < 100000; decide
    | some r =>
      have hr : r < 100000 := RD_lt (Nat.le_refl 10000) (near_mem _ _ _ hm)
      show -9 ≤ (nI r).toInt ∧ (nI r).toInt < 100000
      rw [nI_toInt (by omega)]
      omega
theorem val_b {I : Nat → Nat → Int32} {np nw : Nat} (hR : RawOk I np nw) (k : Nat) : vB (val I np nw k) := by
  unfold val
  cases h : vq I np nw (dd I np nw) (nI k) with
  | none => exact .inl rfl
  | some q =>
    have := vq_lt hR.1.1 h
    exact .inr (lvn_b (hR.2.2.1 q this.1) this.2)
/-- a value carried by (u, v) -/
def car (V : Nat → Int32) (u v x y : Int32) : Int32 := if bPl (x - u) (y - v) = 0 then -9 else V (12 * (y - v).toNatClampNeg + (x - u).toNatClampNeg)
theorem car_i {x y u v : Int32} (h : (0 ≤ (x - u).toInt ∧ (x - u).toInt ≤ 11) ∧ 0 ≤ (y - v).toInt ∧ (y - v).toInt ≤ 11) : 12 * (y - v) + x - u = nI (12 * (y - v).toNatClampNeg + (x - u).toNatClampNeg) ∧ 12 * (y - v).toNatClampNeg + (x - u).toNatClampNeg < 144 := by
  obtain ⟨a, ha, ea⟩ := i_nI (x := x - u) (n := 12) h.1.1 (by omega)
  obtain ⟨b, hb, eb⟩ := i_nI (x := y - v) (n := 12) h.2.1 (by omega)
  rw [Int32.sub_eq_add_neg (12 * (y - v) + x) u, Int32.add_assoc, ← Int32.sub_eq_add_neg x u, ea, eb, nI_clamp (by omega), nI_clamp (by omega), show (12 : Int32) = nI 12 from rfl, nI_mul, nI_add]
  exact ⟨rfl, by omega⟩
theorem car_b {V : Nat → Int32} (h : ∀ k, k < 144 → vB (V k)) (u v x y : Int32) : vB (car V u v x y) := by
  unfold car
  by_cases hb : bPl (x - u) (y - v) = 0
  · rw [if_pos hb]; exact .inl rfl
  · rw [if_neg hb]
    unfold bPl at hb
    rw [bz_0, Decidable.not_not] at hb
    exact h _ (car_i hb).2
def cvl (V : Nat → Int32) : Nat → Nat
  | 0 => 0
  | j + 1 => cvl V j + (if V j = -9 then 0 else 1)
section PR
variable {S : MS} {I : Nat → Nat → Int32} {J : Nat → Nat → Int64} {np nw ep ew : Nat} {ps ws : Nat → Nat} {V : Nat → Int32}
theorem C_carried (hC : CS S) (hV : ∀ k, k < 144 → m_I S 11 k = V k) (u v x y : Int32) : fX0_carriedValue S 8 u v x y = some (car V u v x y) := by
  unfold fX0_carriedValue bX0_carriedValue_0 car
  simp only [C_isPlace, Option.bind_some]
  by_cases hb : bPl (x - u) (y - v) = 0
  · rw [if_pos hb, if_pos hb]
  · rw [if_neg hb, if_neg hb]
    unfold bPl at hb
    rw [bz_0, Decidable.not_not] at hb
    obtain ⟨e1, e2⟩ := car_i hb
    simp only [cP8_4 hC, Option.bind_some, cL11 hC e1 e2, hV _ e2]
theorem R_moved (hV : ∀ k, k < 144 → I 17 k = V k) (u v x y : Int32) : fX10_valueMoved (mkR I J) 1 u v x y = some (car V u v x y) := by
  unfold fX10_valueMoved bX10_valueMoved_0 bX10_valueMoved_34 car
  simp only [R_isPlace, Option.bind_some]
  by_cases hb : bPl (x - u) (y - v) = 0
  · rw [if_pos hb, if_pos hb]
  · rw [if_neg hb, if_neg hb]
    unfold bPl at hb
    rw [bz_0, Decidable.not_not] at hb
    obtain ⟨e1, e2⟩ := car_i hb
    simp only [rP24, Option.bind_some, rL17 e1 e2, hV _ e2]
theorem C_countValues (hC : CS S) (hV : ∀ k, k < 144 → m_I S 11 k = V k) : fX0_countValues S 8 = some (nI (cvl V 144)) := by
  unfold fX0_countValues bX0_countValues_0
  rw [fin_l]
  refine lim_it2 (st := fun j => (8, nI (cvl V j), nI j)) 144 (fun j hj => ?_) ?_
  · show bX0_countValues_4 S 8 (nI (cvl V j)) (nI j) = _
    unfold bX0_countValues_4 bX0_countValues_25
    simp only [if_neg (show ¬ (144 : Int32) ≤ nI j from nI_ge (b := 144) hj (by omega)), cP8_4 hC, cL11 hC rfl hj, hV j hj, Option.bind_some, nI_1]
    have hc : cvl V (j + 1) = cvl V j + (if V j = -9 then 0 else 1) := rfl
    rw [hc]
    by_cases h : V j = -9
    · rw [if_pos h, if_pos h]
      rfl
    · rw [if_neg h, if_neg h]
  · show bX0_countValues_4 S 8 (nI (cvl V 144)) (nI 144) = _
    unfold bX0_countValues_4 bX0_countValues_25
    rw [if_pos (by decide)]
def OkJ {α : Type} (S : MS) (I : Nat → Nat → Int32) (np nw ep ew : Nat) (ps ws : Nat → Nat) (c r : Option (α × MS)) (PI Q P QR : List Nat) : Prop :=
  ∃ (x : α) (S' : MS) (I' : Nat → Nat → Int32) (J' : Nat → Nat → Int64), c = some (x, S') ∧ r = some (x, mkR I' J') ∧ Cor S' I' np nw ep ew ps ws ∧ FrC S S' PI Q [] ∧ FrR I I' P QR
theorem R_isShift (x y : Int32) : fX10_isShift x y = some (bz ((-11 ≤ x.toInt ∧ x.toInt ≤ 11) ∧ -11 ≤ y.toInt ∧ y.toInt ≤ 11)) := by
  unfold fX10_isShift bX10_isShift_0 bX10_isShift_32 bX10_isShift_33
  simp only [R_inI x (a := -11) (b := 11) (a' := -11) (b' := 11) rfl rfl, R_inI y (a := -11) (b := 11) (a' := -11) (b' := 11) rfl rfl, Option.bind_some, bz_0, zb0, zb1]
  by_cases h1 : -11 ≤ x.toInt ∧ x.toInt ≤ 11
  · rw [if_neg (by simpa using h1)]
    by_cases h2 : -11 ≤ y.toInt ∧ y.toInt ≤ 11
    · rw [if_neg (by simpa using h2), bz_t ⟨h1, h2⟩]
    · rw [if_pos h2, bz_f (fun h => h2 h.2)]
  · rw [if_pos h1, bz_f (fun h => h1 h.1)]
theorem nm11 : (-11 : Int32).toInt = -11 := rfl
/-- both sides have the chart -/
theorem Cor.both (h : Cor S I np nw ep ew ps ws) : ∃ S' I', fX9_settledChart S 1 = some (8, S') ∧ fX10_layChart (mkR I J) 1 = some (mkR I' J) ∧ Cor S' I' np nw ep ew ps ws ∧ FrC S S' [8, 9, 10, 11] [2] [] ∧ FrR I I' [14, 15, 16, 17, 18] [18, 19, 23] ∧ (∀ k, k < 144 → m_I S' 11 k = val I' np nw k) ∧ (∀ k, k < 144 → I' 17 k = val I' np nw k) ∧ RawOk I' np nw ∧ Stt S' I' np nw ∧ Lai I' np nw := by
  obtain ⟨S', c1, c2, c3, c4, c5, c6⟩ := C_settled h
  obtain ⟨I', r1, r2, r3, r4⟩ := R_laid (J := J) h
  have hr := raw_fr r2 (by simp) (by simp)
  have hc := Cor.CR c2 c3 c4 c5 r2 r3 r4
  have hs := c3.raw hr
  exact ⟨S', I', c1, r1, hc, c6, r2, hs.2.2.2, r4.2.2.2.2, hc.1.raw, hs, r4⟩
theorem prognosis_ok (h : Cor S I np nw ep ew ps ws) (x1 x2 x3 x4 : Int32) : OkC S I J np nw ep ew ps ws (fX9_prognosis S 1 x1 x2 x3 x4) (fX10_prognosis (mkR I J) 1 x1 x2 x3 x4) := by
  have no : ∀ v : Int32, OkC S I J np nw ep ew ps ws (some (v, S)) (some (v, mkR I J)) := fun v => ⟨v, S, I, rfl, rfl, h, FrC.rf, FrR.rf⟩
  unfold fX9_prognosis bX9_prognosis_0 bX9_prognosis_22 fX10_prognosis bX10_prognosis_0
  simp only [C_isWithin, nm11, n11, R_isShift, C_isPlace, R_isPlace, cIs1 h.1.1, rIs, Option.bind_some]
  by_cases h1 : -11 ≤ x1.toInt ∧ x1.toInt ≤ 11
  · by_cases h2 : -11 ≤ x2.toInt ∧ x2.toInt ≤ 11
    · simp only [bz_t h1, bz_t h2, bz_t (show (-11 ≤ x1.toInt ∧ x1.toInt ≤ 11) ∧ -11 ≤ x2.toInt ∧ x2.toInt ≤ 11 from ⟨h1, h2⟩), e10, if_false]
      by_cases h3 : bPl x3 x4 = 0
      · simp only [h3, if_true]
        exact no _
      · simp only [h3, if_false]
        obtain ⟨S', I', c1, r1, hc, f1, f2, v1, v2, -⟩ := h.both (J := J)
        simp only [c1, r1, b2_s, cIs8 hc.1.1, C_carried hc.1.1 v1, R_moved v2, Option.bind_some]
        exact ⟨_, S', I', rfl, rfl, hc, f1, f2⟩
    · simp only [bz_t h1, bz_f h2, bz_f (show ¬ ((-11 ≤ x1.toInt ∧ x1.toInt ≤ 11) ∧ -11 ≤ x2.toInt ∧ x2.toInt ≤ 11) from fun q => h2 q.2), e10, if_false, if_true]
      exact no _
  · simp only [bz_f h1, bz_f (show ¬ ((-11 ≤ x1.toInt ∧ x1.toInt ≤ 11) ∧ -11 ≤ x2.toInt ∧ x2.toInt ≤ 11) from fun q => h1 q.1), if_true]
    exact no _
/-- the kept charts -/
def i_ke (S : MS) (I : Nat → Nat → Int32) : Prop := ∀ k, k < 4 → m_I S 40 k = I 31 k ∧ (I 31 k = 0 ∨ ∀ j, j < 144 → m_I S (36 + k) j = I 32 (144 * k + j) ∧ vB (I 32 (144 * k + j)))
theorem i_ke.fr {S' : MS} {I' : Nat → Nat → Int32} {PI Q PL P QR : List Nat} (h : i_ke S I) (hC : CS S) (hf : FrC S S' PI Q PL) (hr : FrR I I' P QR) (h1 : ∀ a ∈ PI, a < 36 ∨ 40 < a) (h2 : 31 ∉ P ∧ 32 ∉ P) : i_ke S' I' := by
  intro k hk
  rw [hf.row hC (a := 40) (by omega) (by omega) (fun q => by have := h1 _ q; omega), hf.row hC (a := 36 + k) (by omega) (by omega) (fun q => by have := h1 _ q; omega), hr.1 31 (by decide) h2.1, hr.1 32 (by decide) h2.2]
  exact h k hk
theorem cP35 (h : CS S) : ∀ k, k < 4 → o_ldP S 35 16 (nI k) = some (36 + k) :=
  four (at_ldP (n := 4) (h.at 35 (by decide) (by decide)) (h.2.1 35 (by decide) (by decide)).2 (by decide) rfl (by decide) (h.2.2.1 (35, 0, 36) (by decide)))
    (at_ldP (n := 4) (h.at 35 (by decide) (by decide)) (h.2.1 35 (by decide) (by decide)).2 (by decide) rfl (by decide) (h.2.2.1 (35, 1, 37) (by decide)))
    (at_ldP (n := 4) (h.at 35 (by decide) (by decide)) (h.2.1 35 (by decide) (by decide)).2 (by decide) rfl (by decide) (h.2.2.1 (35, 2, 38) (by decide)))
    (at_ldP (n := 4) (h.at 35 (by decide) (by decide)) (h.2.1 35 (by decide) (by decide)).2 (by decide) rfl (by decide) (h.2.2.1 (35, 3, 39) (by decide)))
theorem cAt36 (h : CS S) : ∀ k, k < 4 → m_at S (36 + k) 12 := four (h.at 36 (by decide) (by decide)) (h.at 37 (by decide) (by decide)) (h.at 38 (by decide) (by decide)) (h.at 39 (by decide) (by decide))
theorem cLn36 (h : CS S) : ∀ k, k < 4 → m_L S (36 + k) = 144 := four (h.2.1 36 (by decide) (by decide)).2 (h.2.1 37 (by decide) (by decide)).2 (h.2.1 38 (by decide) (by decide)).2 (h.2.1 39 (by decide) (by decide)).2
theorem n144 (k j : Nat) : (144 : Int32) * nI k + nI j = nI (144 * k + j) := by rw [show (144 : Int32) = nI 144 from rfl, nI_mul, nI_add]
theorem R_keepLoop {k : Nat} (hk : k < 4) (hV : ∀ k, k < 144 → I 17 k = V k) : lim sX10_keep (1, nI k, nI 0, nI 0, mkR I J) = some (nI (cvl V 144), mkR (va_up (va_up I 32 (fil (I 32) (144 * k) 144 V)) 31 (upd (I 31) k 1)) J) := by
  have hz : mkR I J = mkR (va_up I 32 (fil (I 32) (144 * k) 0 V)) J := by rw [fil_0, up_id]
  rw [show lim sX10_keep (1, nI k, nI 0, nI 0, mkR I J) = lim sX10_keep (1, nI k, nI (cvl V 0), nI 0, mkR (va_up I 32 (fil (I 32) (144 * k) 0 V)) J) by rw [← hz]; rfl]
  refine lim_it2 (step := sX10_keep) (st := fun j => (1, nI k, nI (cvl V j), nI j, mkR (va_up I 32 (fil (I 32) (144 * k) j V)) J)) 144 (fun j hj => ?_) ?_
  · show bX10_keep_22 (mkR (va_up I 32 (fil (I 32) (144 * k) j V)) J) 1 (nI k) (nI (cvl V j)) (nI j) = _
    have g17 : ∀ f : Nat → Int32, (va_up I 32 f) 17 = I 17 := fun f => up_n (by decide)
    have g17' : ∀ f g : Nat → Int32, (va_up (va_up I 32 f) 32 g) 17 = I 17 := fun f g => by rw [up_n (by decide), up_n (by decide)]
    unfold bX10_keep_22 bX10_keep_64
    simp only [if_neg (show ¬ (144 : Int32) ≤ nI j from nI_ge (b := 144) hj (by omega)), rP40, rP24, rL17 rfl hj, n144, rS32 rfl (show 144 * k + j < 576 by omega), g17, g17', hV j hj, Option.bind_some, nI_1, up_s, up_up, fil_s]
    have hc : cvl V (j + 1) = cvl V j + (if V j = -9 then 0 else 1) := rfl
    rw [hc]
    by_cases h : V j = -9
    · rw [if_pos h, if_pos h, show (0 : Int32) = nI 0 from rfl, nI_add]
    · rw [if_neg h, if_neg h]
  · show bX10_keep_22 (mkR (va_up I 32 (fil (I 32) (144 * k) 144 V)) J) 1 (nI k) (nI (cvl V 144)) (nI 144) = _
    unfold bX10_keep_22 bX10_keep_64
    simp only [if_pos (show (144 : Int32) ≤ nI 144 by decide), rP39, rS31 rfl hk, Option.bind_some, up_n (show (31 : Nat) ≠ 32 by decide)]
theorem keep_ok (h : Cor S I np nw ep ew ps ws) (hk : i_ke S I) (x1 : Int32) : ∃ (x : Int32) (S' : MS) (I' : Nat → Nat → Int32), fX9_keep S 1 x1 = some (x, S') ∧ fX10_keep (mkR I J) 1 x1 = some (x, mkR I' J) ∧ Cor S' I' np nw ep ew ps ws ∧ i_ke S' I' ∧ FrC S S' [8, 9, 10, 11, 36, 37, 38, 39, 40] [2] [] ∧ FrR I I' [14, 15, 16, 17, 18, 31, 32] [18, 19, 23] := by
  unfold fX9_keep bX9_keep_0 fX10_keep bX10_keep_0
  by_cases h1 : 0 ≤ x1.toInt ∧ x1.toInt < 4
  · rw [C_below_t (n := 4) rfl h1, R_in_t (a' := 0) (b' := 3) rfl rfl (by omega)]
    obtain ⟨k, hk4, rfl⟩ := i_nI (n := 4) h1.1 h1.2
    obtain ⟨S', I', c1, r1, hc, f1, f2, v1, v2, hraw, -⟩ := h.both (J := J)
    have hC := hc.1.1
    have i36 : i_ke S' I' := hk.fr h.1.1 f1 f2 (by simp) (by simp)
    have q1 : o_cpy S' 11 0 (36 + k) 0 144 = some (m_sI S' (36 + k) (fil (m_I S' (36 + k)) 0 144 (m_I S' 11))) := by
      have h00 : (0 : Int32).toNatClampNeg = 0 := rfl
      have h144 : (144 : Int32).toNatClampNeg = 144 := rfl
      unfold o_cpy
      rw [if_pos ⟨⟨hC.at 11 (by decide) (by decide), cAt36 hC k hk4⟩, ⟨by decide, by decide, by decide⟩, by rw [h00, h144, (hC.2.1 11 (by decide) (by decide)).2]; decide, by rw [h00, h144, cLn36 hC k hk4]; decide⟩, h00, h144, cpy_fil]
      simp only [Nat.zero_add]
    simp only [cIs1 h.1.1, rIs, c1, r1, b2_s, cP8_4 hC, cP1_7 hC, cP35 hC k hk4, q1, Option.bind_some, e10, if_false, fin_l]
    generalize hT : m_sI S' (36 + k) (fil (m_I S' (36 + k)) 0 144 (m_I S' 11)) = T
    have fT : FrC S' T [36, 37, 38, 39, 40] [] [] := by rw [← hT]; exact FrC.sI (by omega) (by simp; omega)
    have CT : CS T := by rw [← hT]; exact hC
    have iT : ∀ a, a ≠ 36 + k → m_I T a = m_I S' a := fun a ha => by rw [← hT]; exact mI_ne ha
    have iTk : m_I T (36 + k) = fil (m_I S' (36 + k)) 0 144 (m_I S' 11) := by rw [← hT]; exact mI_same
    simp only [cP1_8 CT, cS40 CT rfl hk4, Option.bind_some]
    generalize hU : m_sI T 40 (upd (m_I T 40) k 1) = U
    have fU : FrC T U [36, 37, 38, 39, 40] [] [] := by rw [← hU]; exact FrC.sI (by omega) (by simp)
    have CU : CS U := by rw [← hU]; exact CT
    have iU : ∀ a, a ≠ 40 → m_I U a = m_I T a := fun a ha => by rw [← hU]; exact mI_ne ha
    have iUk : m_I U 40 = upd (m_I S' 40) k 1 := by rw [← hU, mI_same, iT 40 (by omega)]
    have fSU : FrC S' U [36, 37, 38, 39, 40] [] [] := fT.tr fU
    have vU : ∀ k, k < 144 → m_I U 11 k = val I' np nw k := fun j hj => by rw [iU 11 (by decide), iT 11 (by omega)]; exact v1 j hj
    rw [cIs8 CU, Option.bind_some, C_countValues CU vU]
    have hrk := R_keepLoop (I := I') (J := J) hk4 v2
    rw [show lim sX10_keep (1, nI k, 0, 0, mkR I' J) = _ from hrk]
    have fR : FrR I' (va_up (va_up I' 32 (fil (I' 32) (144 * k) 144 (val I' np nw))) 31 (upd (I' 31) k 1)) [31, 32] [] := by
      have w1 : FrR I' (va_up I' 32 (fil (I' 32) (144 * k) 144 (val I' np nw))) [31, 32] [] := FrR.up (by decide) (by simp)
      have w2 : FrR (va_up I' 32 (fil (I' 32) (144 * k) 144 (val I' np nw))) (va_up (va_up I' 32 (fil (I' 32) (144 * k) 144 (val I' np nw))) 31 (upd (I' 31) k 1)) [31, 32] [] := FrR.up (by decide) (by simp)
      exact w1.tr w2
    refine ⟨_, U, _, rfl, rfl, hc.fr CU fSU ⟨by simp, by simp⟩ (by simp) (by simp) (by simp) (by simp) (.inr (by simp)) (.inr (by simp)) fR (by simp) (by simp), fun m hm => ?_, (f1.mono (by simp) (by simp) (by simp)).tr (fSU.mono (by simp) (by simp) (by simp)), (f2.mono (by simp) (by simp)).tr (fR.mono (by simp) (by simp))⟩
    rw [up_s, up_n (show (32 : Nat) ≠ 31 by decide), up_s, iUk]
    by_cases hmk : m = k
    · subst hmk
      rw [upd_s, upd_s]
      refine ⟨rfl, .inr (fun j hj => ?_)⟩
      rw [iU _ (by omega), iTk, fil_i hj]
      have h2 := fil_i (f := m_I S' (36 + m)) (lo := 0) (n := 144) (i := j) (g := m_I S' 11) hj
      rw [Nat.zero_add] at h2
      rw [h2, v1 j hj]
      exact ⟨rfl, val_b hraw j⟩
    · rw [upd_n hmk, upd_n hmk, iU _ (by omega), iT _ (by omega)]
      obtain ⟨b1, b2⟩ := i36 m hm
      refine ⟨b1, b2.imp_right (fun b j hj => ?_)⟩
      rw [fil_o (by omega)]
      exact b j hj
  · rw [C_below_f (n := 4) rfl h1, R_in_f (a' := 0) (b' := 3) rfl rfl (by omega)]
    exact ⟨_, S, I, rfl, rfl, h, hk, FrC.rf, FrR.rf⟩
end PR
