/-! the reference: gates, what is to come, the best start -/
section RF
variable {I : Nat → Nat → Int32} {J : Nat → Nat → Int64} {lo hi : Nat → Nat}
def gtsR (I : Nat → Nat → Int32) (lo hi : Nat → Nat) : Prop := ∀ x, x < 12 → I 27 x = nI (lo x) ∧ I 28 x = nI (hi x) ∧ lo x < 12 ∧ hi x < 12
/-- a column of what is to come -/
def rtb (I : Nat → Nat → Int32) (lo hi : Nat → Nat) (b x : Nat) : Prop := ∀ y l, y < 12 → l < 5 → I 29 (60 * x + 5 * y + l) = nI (gg lo hi b 1000000 (b - x) y l)
theorem R_areGates {k i n : Nat} {D : Nat → Int32} (hk : k < 4) (hi : i + 3 * n ≤ 60) (hD : ∀ j, j < 3 * n → I 42 (60 * k + i + j) = D j) : (fX10_areGates (mkR I J) 1 (nI (60 * k + i)) (nI n) = some 1 ∧ ∀ g, g < n → gok D g) ∨ (fX10_areGates (mkR I J) 1 (nI (60 * k + i)) (nI n) = some 0 ∧ ¬ ∀ g, g < n → gok D g) := by
  have rd : ∀ j, j < 3 * n → o_ld (mkR I J) 42 12 (nI (60 * k + i + j)) = some (D j) := fun j hj => by rw [rL42 rfl (by omega), hD j hj]
  have e1 : ∀ g, nI (60 * k + i + 3 * g) + 1 = nI (60 * k + i + (3 * g + 1)) := fun g => nI_1 _
  have e2 : ∀ g, nI (60 * k + i + 3 * g) + 2 = nI (60 * k + i + (3 * g + 2)) := fun g => nI_add _ 2
  have e11 : (11 : Int64).toInt = 11 := rfl
  have e0 : (0 : Int64).toInt = 0 := rfl
  have goes : ∀ g, g < n → gok D g → sX10_areGates (mkR I J) (1, nI (60 * k + i), nI n, 1, nI g) = some (.inl (1, nI (60 * k + i), nI n, 1, nI (g + 1))) := fun g hg hok => by
    show bX10_areGates_5 (mkR I J) 1 (nI (60 * k + i)) (nI n) 1 (nI g) = _
    obtain ⟨h1, h2, h3, h4⟩ := hok
    unfold bX10_areGates_5 bX10_areGates_95
    simp only [if_neg (nI_ge hg (show n < 2 ^ 31 by omega)), n3, e1, e2, rP55, rd (3 * g) (by omega), rd (3 * g + 1) (by omega), rd (3 * g + 2) (by omega), R_in, i_l, e11, e0, bz_t h1, bz_t h2, bz_t (show (D (3 * g + 1)).toInt ≤ (D (3 * g + 2)).toInt ∧ (D (3 * g + 2)).toInt ≤ 11 from ⟨h3, h4⟩), e10, if_false, Option.bind_some, nI_1]
  have dead : ∀ g, g < n → sX10_areGates (mkR I J) (1, nI (60 * k + i), nI n, 0, nI g) = some (.inl (1, nI (60 * k + i), nI n, 0, nI (g + 1))) := fun g hg => by
    show bX10_areGates_5 (mkR I J) 1 (nI (60 * k + i)) (nI n) 0 (nI g) = _
    unfold bX10_areGates_5 bX10_areGates_94 bX10_areGates_95
    simp only [if_neg (nI_ge hg (show n < 2 ^ 31 by omega)), if_true, Option.bind_some, nI_1]
  have fell : ∀ g, g < n → ¬ gok D g → sX10_areGates (mkR I J) (1, nI (60 * k + i), nI n, 1, nI g) = some (.inl (1, nI (60 * k + i), nI n, 0, nI (g + 1))) := fun g hg hok => by
    show bX10_areGates_5 (mkR I J) 1 (nI (60 * k + i)) (nI n) 1 (nI g) = _
    unfold bX10_areGates_5 bX10_areGates_94 bX10_areGates_95
    simp only [if_neg (nI_ge hg (show n < 2 ^ 31 by omega)), n3, e1, e2, rP55, rd (3 * g) (by omega), rd (3 * g + 1) (by omega), rd (3 * g + 2) (by omega), R_in, i_l, e11, e0, e10, if_false, Option.bind_some, nI_1, bz_0]
    by_cases h1 : 0 ≤ (D (3 * g)).toInt ∧ (D (3 * g)).toInt ≤ 11
    · rw [if_neg (fun q => q h1)]
      by_cases h2 : 0 ≤ (D (3 * g + 1)).toInt ∧ (D (3 * g + 1)).toInt ≤ 11
      · rw [if_neg (fun q => q h2)]
        rw [if_pos (fun q => hok ⟨h1, h2, q.1, q.2⟩)]
      · rw [if_pos h2]
    · rw [if_pos h1]
  have last : ∀ b : Bool, sX10_areGates (mkR I J) (1, nI (60 * k + i), nI n, b01 b, nI n) = some (.inr (b01 b)) := fun b => by
    show bX10_areGates_5 (mkR I J) 1 (nI (60 * k + i)) (nI n) (b01 b) (nI n) = _
    unfold bX10_areGates_5
    rw [if_pos (nI_le (Nat.le_refl _) (by omega))]
    cases b <;> rfl
  rcases fbad (P := fun g => gok D g) n with hall | ⟨g, hg1, hg2, hg3⟩
  · refine .inl ⟨?_, hall⟩
    unfold fX10_areGates bX10_areGates_0
    rw [fin_l]
    exact lim_it2 (step := sX10_areGates (mkR I J)) (st := fun g => (1, nI (60 * k + i), nI n, 1, nI g)) n (fun g hg => goes g hg (hall g hg)) (last true)
  · refine .inr ⟨?_, fun q => hg2 (q g hg1)⟩
    unfold fX10_areGates bX10_areGates_0
    rw [fin_l]
    refine lim_it2 (step := sX10_areGates (mkR I J)) (st := fun m => (1, nI (60 * k + i), nI n, b01 (decide (m ≤ g)), nI m)) n (fun m hm => ?_) ?_
    · by_cases h1 : m < g
      · have a1 : decide (m ≤ g) = true := by simp; omega
        have a2 : decide (m + 1 ≤ g) = true := by simp; omega
        simp only [a1, a2]
        exact goes m hm (hg3 m h1)
      · by_cases h2 : m = g
        · subst h2
          have a1 : decide (m ≤ m) = true := by simp
          have a2 : decide (m + 1 ≤ m) = false := by simp
          simp only [a1, a2]
          exact fell m hm hg2
        · have a1 : decide (m ≤ g) = false := by simp; omega
          have a2 : decide (m + 1 ≤ g) = false := by simp; omega
          simp only [a1, a2]
          exact dead m hm
    · have a1 : decide (n ≤ g) = false := by simp; omega
      simp only [a1]
      exact last false
theorem R_layGates {k i n : Nat} {D : Nat → Int32} (hk : k < 4) (hi : i + 3 * n ≤ 60) (hD : ∀ j, j < 3 * n → I 42 (60 * k + i + j) = D j) (hok : ∀ g, g < n → gok D g) : ∃ I', fX10_layGates (mkR I J) 1 (nI (60 * k + i)) (nI n) = some (mkR I' J) ∧ FrR I I' [27, 28] [] ∧ gtsR I' (loG D n) (hiG D n) := by
  obtain ⟨s, ⟨I1, hs1, f1, k1⟩, he1⟩ := lim_inv (step := sX10_layGates) (K := fun x s => ∃ I', s = .inl (1, nI (60 * k + i), nI n, nI x, mkR I' J) ∧ FrR I I' [27, 28] [] ∧ ∀ x', x' < x → I' 27 x' = 0 ∧ I' 28 x' = 11) 12 (s0 := .inl (1, nI (60 * k + i), nI n, nI 0, mkR I J)) ⟨I, rfl, FrR.rf, fun x' h => by omega⟩ (fun x hx s hs => by
    obtain ⟨I', rfl, f, kk⟩ := hs
    refine ⟨.inl (1, nI (60 * k + i), nI n, nI (x + 1), mkR (va_up (va_up I' 27 (upd (I' 27) x 0)) 28 (upd (I' 28) x 11)) J), ?_, _, rfl, f.tr ((FrR.up (by decide) (by simp)).tr (FrR.up (by decide) (by simp))), fun x' hx' => ?_⟩
    · show bX10_layGates_2 (mkR I' J) 1 (nI (60 * k + i)) (nI n) (nI x) = _
      unfold bX10_layGates_2
      simp only [if_neg (show ¬ (12 : Int32) ≤ nI x from nI_ge (b := 12) hx (by omega)), rP34, rP35, rS27 rfl hx, rS28 rfl hx, Option.bind_some, nI_1, up_n (show (28 : Nat) ≠ 27 by decide)]
    · rw [up_n (show (27 : Nat) ≠ 28 by decide), up_s, up_s]
      by_cases hxx : x' = x
      · rw [hxx, upd_s, upd_s]
        exact ⟨rfl, rfl⟩
      · rw [upd_n hxx, upd_n hxx]
        exact kk x' (by omega))
  have g0 : gtsR I1 (loG D 0) (hiG D 0) := fun x hx => by
    obtain ⟨a1, a2⟩ := k1 x hx
    exact ⟨a1, a2, by show (0 : Nat) < 12; omega, by show (11 : Nat) < 12; omega⟩
  obtain ⟨s, ⟨I2, hs2, f2, k2⟩, he2⟩ := lim_inv (step := sX10_layGates) (K := fun g s => ∃ I', s = .inr (1, nI (60 * k + i), nI n, nI g, mkR I' J) ∧ FrR I I' [27, 28] [] ∧ gtsR I' (loG D g) (hiG D g)) n (s0 := .inr (1, nI (60 * k + i), nI n, nI 0, mkR I1 J)) ⟨I1, rfl, f1, g0⟩ (fun g hg s hs => by
    obtain ⟨I', rfl, f, kk⟩ := hs
    obtain ⟨x, l, u, hx, hl, hu, hlu, ex, el, eu⟩ := gok_i (hok g hg)
    have hD' : ∀ K : Nat → Nat → Int32, K 42 = I 42 → ∀ j, j < 3 * n → o_ld (mkR K J) 42 12 (nI (60 * k + i + j)) = some (D j) := fun K hK j hj => by rw [rL42 rfl (by omega), hK, hD j hj]
    have h42 : I' 42 = I 42 := f.1 42 (by decide) (by simp)
    have r0 := hD' I' h42 (3 * g) (by omega)
    have r1 := hD' I' h42 (3 * g + 1) (by omega)
    rw [ex] at r0
    rw [el] at r1
    have e1 : nI (60 * k + i + 3 * g) + 1 = nI (60 * k + i + (3 * g + 1)) := nI_1 _
    have e2 : nI (60 * k + i + 3 * g) + 2 = nI (60 * k + i + (3 * g + 2)) := nI_add _ 2
    obtain ⟨a1, a2, a3, a4⟩ := kk x hx
    refine ⟨.inr (1, nI (60 * k + i), nI n, nI (g + 1), mkR (va_up (va_up I' 27 (upd (I' 27) x (nI (max (loG D g x) l)))) 28 (upd (I' 28) x (nI (min (hiG D g x) u)))) J), ?_, _, rfl, f.tr ((FrR.up (by decide) (by simp)).tr (FrR.up (by decide) (by simp))), fun x' hx' => ?_⟩
    · show bX10_layGates_31 (mkR I' J) 1 (nI (60 * k + i)) (nI n) (nI g) = _
      unfold bX10_layGates_31 bX10_layGates_122
      simp only [if_neg (nI_ge hg (show n < 2 ^ 31 by omega)), n3, e1, e2, rP55, rP34, rP35, r0, r1, rL27 rfl hx, a1, R_greater, mx_i (show loG D g x < 2 ^ 31 by omega) (show l < 2 ^ 31 by omega), rS27 rfl hx, Option.bind_some]
      generalize hI3 : va_up I' 27 (upd (I' 27) x (nI (max (loG D g x) l))) = I3
      have h42' : I3 42 = I 42 := by rw [← hI3, up_n (by decide)]; exact h42
      have h28 : I3 28 = I' 28 := by rw [← hI3, up_n (by decide)]
      have r2 := hD' I3 h42' (3 * g + 2) (by omega)
      rw [eu] at r2
      simp only [r2, rL28 rfl hx, h28, a2, Option.bind_some, rS28 rfl hx, nI_1]
      by_cases hc : hiG D g x ≤ u
      · rw [if_pos (nI_le hc (by omega)), Nat.min_eq_left hc]
      · rw [if_neg (nI_ge (by omega) (by omega)), Nat.min_eq_right (by omega)]
    · have cx : (D (3 * g)).toNatClampNeg = x := by rw [ex, nI_clamp (by omega)]
      have cl : (D (3 * g + 1)).toNatClampNeg = l := by rw [el, nI_clamp (by omega)]
      have cu : (D (3 * g + 2)).toNatClampNeg = u := by rw [eu, nI_clamp (by omega)]
      obtain ⟨b1, b2, b3, b4⟩ := kk x' hx'
      rw [up_n (show (27 : Nat) ≠ 28 by decide), up_s, up_s]
      have s1 : loG D (g + 1) x' = if x' = x then max (loG D g x') l else loG D g x' := by
        show (if x' = (D (3 * g)).toNatClampNeg then max (loG D g x') (D (3 * g + 1)).toNatClampNeg else loG D g x') = _
        rw [cx, cl]
      have s2 : hiG D (g + 1) x' = if x' = x then min (hiG D g x') u else hiG D g x' := by
        show (if x' = (D (3 * g)).toNatClampNeg then min (hiG D g x') (D (3 * g + 2)).toNatClampNeg else hiG D g x') = _
        rw [cx, cu]
      rw [s1, s2]
      by_cases hxx : x' = x
      · subst hxx
        rw [if_pos rfl, if_pos rfl, upd_s, upd_s]
        exact ⟨rfl, rfl, by omega, by omega⟩
      · rw [if_neg hxx, if_neg hxx, upd_n hxx, upd_n hxx]
        exact ⟨b1, b2, b3, b4⟩)
  refine ⟨I2, ?_, f2, k2⟩
  unfold fX10_layGates bX10_layGates_0
  rw [fin_l, show lim sX10_layGates (.inl (1, nI (60 * k + i), nI n, 0, mkR I J)) = _ from he1, hs1, lim_eq]
  show fin sX10_layGates (bX10_layGates_2 (mkR I1 J) 1 (nI (60 * k + i)) (nI n) (nI 12)) = _
  unfold bX10_layGates_2
  rw [if_pos (by decide), fin_l, show lim sX10_layGates (.inr (1, nI (60 * k + i), nI n, 0, mkR I1 J)) = _ from he2, hs2]
  apply lim_end
  show bX10_layGates_31 (mkR I2 J) 1 (nI (60 * k + i)) (nI n) (nI n) = _
  unfold bX10_layGates_31
  rw [if_pos (nI_le (Nat.le_refl _) (by omega))]
/-- isLet of any number y -/
theorem R_isLet {x : Nat} {y : Int32} (hg : gtsR I lo hi) (hx : x < 12) : fX10_isLet (mkR I J) 1 (nI x) y = some (if 0 ≤ y.toInt ∧ y.toInt ≤ 11 ∧ letb lo hi x y.toNatClampNeg = true then 1 else 0) := by
  obtain ⟨g1, g2, g3, g4⟩ := hg x hx
  unfold fX10_isLet bX10_isLet_0 bX10_isLet_36 bX10_isLet_37
  rw [R_inI y (a := 0) (b := 11) (a' := 0) (b' := 11) rfl rfl]
  by_cases h : 0 ≤ y.toInt ∧ y.toInt ≤ 11
  · obtain ⟨z, hz, rfl⟩ := i_nI (n := 12) h.1 (by omega)
    rw [bz_t h]
    simp only [Option.bind_some, e10, if_false, rP34, rP35, rL27 rfl hx, rL28 rfl hx, g1, g2, zb0, zb1, nI_ltI (show z < 2 ^ 31 by omega) (show lo x < 2 ^ 31 by omega), nI_ltI (show hi x < 2 ^ 31 by omega) (show z < 2 ^ 31 by omega), nI_clamp (show z < 2 ^ 31 by omega), h, true_and]
    unfold letb
    by_cases h1 : z < lo x
    · have : ¬ lo x ≤ z := by omega
      simp [h1, this]
    · by_cases h2 : hi x < z
      · have : ¬ z ≤ hi x := by omega
        simp [h1, h2, this]
      · have a1 : lo x ≤ z := by omega
        have a2 : z ≤ hi x := by omega
        simp [h1, h2, a1, a2]
  · rw [bz_f h, if_neg (fun q => h ⟨q.1, q.2.1⟩)]
    rfl
/-- the change of a number told from 0 -/
theorem ch_i {ch : Nat} (hc : ch < 6) : (nI ch + (-2) : Int32).toInt = (ch : Int) - 2 := by
  have h2 : (-2 : Int32).toInt = -2 := rfl
  rw [i_add, nI_toInt (by omega), h2]
  · omega
  · rw [nI_toInt (by omega), h2]; omega
  · rw [nI_toInt (by omega), h2]; omega
theorem ych_i {y ch : Nat} (hy : y < 12) (hc : ch < 6) : (nI y + (nI ch + (-2)) : Int32).toInt = ((y + ch : Nat) : Int) - 2 := by
  rw [i_add, ch_i hc, nI_toInt (by omega)]
  · omega
  · rw [ch_i hc, nI_toInt (by omega)]; omega
  · rw [ch_i hc, nI_toInt (by omega)]; omega
theorem R_isOk {x y ch : Nat} (hg : gtsR I lo hi) (hx : x < 12) (hy : y < 12) (hc : ch < 5) : fX10_isLet (mkR I J) 1 (nI x) (nI y + (nI ch + (-2))) = some (b01 (okc lo hi x y ch)) := by
  rw [R_isLet hg hx, ych_i hy (by omega)]
  unfold okc b01
  by_cases h : 2 ≤ y + ch ∧ y + ch < 14
  · have e : (nI y + (nI ch + (-2)) : Int32) = nI (y + ch - 2) := by rw [i_eq, ych_i hy (by omega), nI_toInt (by omega)]; omega
    rw [e, nI_clamp (by omega)]
    by_cases hl : letb lo hi x (y + ch - 2) = true
    · rw [if_pos ⟨by omega, by omega, hl⟩, if_pos (by simp [h.1, h.2, hl])]
    · rw [if_neg (fun q => hl q.2.2), if_neg (by simp [hl])]
  · rw [if_neg (fun q => h ⟨by omega, by omega⟩), if_neg (by simp; omega)]
theorem R_tc {x y ch : Nat} (hy : 2 ≤ y + ch) (hx : x + 1 < 12) (hy2 : y + ch < 14) (hc : ch < 5) : (((60 : Int32) * (nI x + 1) + 5 * (nI y + (nI ch + (-2)))) + (nI ch + (-2))) + 2 = nI (60 * (x + 1) + 5 * (y + ch - 2) + ch) := by
  have e : (nI y + (nI ch + (-2)) : Int32) = nI (y + ch - 2) := by
    have h2 : nI (y + ch) + (-2) = nI (y + ch - 2) := by
      have : nI (y + ch) = nI (y + ch - 2) + 2 := by rw [show (2 : Int32) = nI 2 from rfl, nI_add]; congr 1; omega
      rw [this, Int32.add_assoc, show (2 : Int32) + (-2) = 0 by decide, Int32.add_zero]
    rw [← Int32.add_assoc, nI_add, h2]
  rw [e, nI_1, show (60 : Int32) = nI 60 from rfl, show (5 : Int32) = nI 5 from rfl, nI_mul, nI_mul, nI_add, Int32.add_assoc, Int32.add_assoc, show (-2 : Int32) + 2 = 0 by decide, Int32.add_zero, nI_add]
theorem R_bnd {l ch : Nat} (hl : l < 5) (hc : ch < 5) : fX10_sizeOf ((nI ch + (-2)) + 2 - nI l) = some (nI (bnd l ch)) := by
  rw [R_sizeOf, Int32.add_assoc, show (-2 : Int32) + 2 = 0 by decide, Int32.add_zero, bnd_i hl hc]
theorem R_bendsAt {b x y l : Nat} (hg : gtsR I lo hi) (hxb : x ≤ b) (hb : b < 12) (hy : y < 12) (hl : l < 6) (h : x < b → rtb I lo hi b (x + 1)) : fX10_bendsAt (mkR I J) 1 (nI x) (nI y) (nI l) (nI b) = some (nI (gg lo hi b 1000000 (b - x) y l)) := by
  unfold fX10_bendsAt bX10_bendsAt_0
  by_cases hxe : x = b
  · subst hxe
    rw [if_pos rfl, fin_r, Nat.sub_self]
    rfl
  · rw [if_neg (fun q => hxe ((nI_eq (by omega) (by omega)).mp q)), fin_l]
    obtain ⟨d, hd⟩ : ∃ d, b - x = d + 1 := ⟨b - x - 1, by omega⟩
    have hxd : x + 1 = b - d := by omega
    have hr := h (by omega)
    rw [hd]
    have z : lim (sX10_bendsAt (mkR I J)) (1, nI x, nI y, nI l, 1000000, -2) = lim (sX10_bendsAt (mkR I J)) (1, nI x, nI y, nI l, nI (gfo lo hi 1000000 (b - d) y l (gg lo hi b 1000000 d) 0), nI 0 + (-2)) := rfl
    rw [z]
    refine lim_it2 (step := sX10_bendsAt (mkR I J)) (st := fun c => (1, nI x, nI y, nI l, nI (gfo lo hi 1000000 (b - d) y l (gg lo hi b 1000000 d) c), nI c + (-2))) 5 (fun c hc => ?_) ?_
    · show bX10_bendsAt_17 (mkR I J) 1 (nI x) (nI y) (nI l) (nI (gfo lo hi 1000000 (b - d) y l (gg lo hi b 1000000 d) c)) (nI c + (-2)) = _
      have hle := gfo_le lo hi 1000000 (b - d) y l (gg lo hi b 1000000 d) c
      have hbd := bnd_le (l := l) (ch := c) (by omega) hc
      have hgl := gg_le lo hi b 1000000 d (y + c - 2) c
      have hs : gfo lo hi 1000000 (b - d) y l (gg lo hi b 1000000 d) (c + 1) = gst lo hi (b - d) y l (gg lo hi b 1000000 d) c (gfo lo hi 1000000 (b - d) y l (gg lo hi b 1000000 d) c) := rfl
      have hlt : ¬ (2 : Int32) < nI c + (-2) := by rw [i_lt, ch_i (by omega)]; show ¬ (2 : Int) < _; omega
      have hnx : nI c + (-2) + 1 = nI (c + 1) + (-2) := by rw [Int32.add_assoc, Int32.add_comm (-2) 1, ← Int32.add_assoc, nI_1]
      rw [hs]
      generalize gfo lo hi 1000000 (b - d) y l (gg lo hi b 1000000 d) c = m at hle
      unfold bX10_bendsAt_17 bX10_bendsAt_97 gst
      rw [if_neg hlt, rIs, Option.bind_some, nI_1, hxd, R_isOk hg (by omega) hy hc, Option.bind_some, hnx]
      by_cases ho : okc lo hi (b - d) y c = true
      · obtain ⟨o1, o2, o3⟩ := okc_b ho
        have htc := R_tc (x := x) (y := y) (ch := c) o1 (by omega) o2 hc
        have hld : o_ld (mkR I J) 29 12 ((((60 : Int32) * (nI x + 1) + 5 * (nI y + (nI c + (-2)))) + (nI c + (-2))) + 2) = some (nI (gg lo hi b 1000000 d (y + c - 2) c)) := by
          rw [rL29 htc (by omega), hr _ _ (by omega) hc, show b - (x + 1) = d by omega]
        have B55 : ∀ w : Nat, w ≤ 4 → bX10_bendsAt_55 (mkR I J) 1 (nI x) (nI y) (nI l) (nI m) (nI c + (-2)) (nI w) = some (.inl (1, nI x, nI y, nI l, nI (min m (w + gg lo hi b 1000000 d (y + c - 2) c)), nI (c + 1) + (-2))) := fun w hw => by
          unfold bX10_bendsAt_55 bX10_bendsAt_95 bX10_bendsAt_97
          rw [rP36, Option.bind_some, hld, Option.bind_some, Option.bind_some, nI_add, hnx, Option.bind_some]
          by_cases hm : m ≤ w + gg lo hi b 1000000 d (y + c - 2) c
          · rw [if_pos (nI_le hm (by omega)), Nat.min_eq_left hm]
          · rw [if_neg (nI_ge (by omega) (by omega)), Nat.min_eq_right (by omega)]
            rfl
        rw [ho, if_neg (by decide), if_pos rfl]
        by_cases h5 : l = 5
        · subst h5
          have hb5 : bnd 5 c = 0 := if_pos rfl
          rw [if_pos (show nI 5 = 5 from rfl), hb5]
          exact B55 0 (by omega)
        · rw [if_neg (show ¬ nI l = 5 from fun q => h5 ((nI_eq (b := 5) (by omega) (by omega)).mp q)), R_bnd (by omega) hc, Option.bind_some]
          exact B55 _ hbd
      · have ho' : okc lo hi (b - d) y c = false := by simpa using ho
        rw [ho', if_pos (by decide), if_neg (by decide)]
        rfl
    · show bX10_bendsAt_17 (mkR I J) 1 (nI x) (nI y) (nI l) (nI (gfo lo hi 1000000 (b - d) y l (gg lo hi b 1000000 d) 5)) (nI 5 + (-2)) = _
      unfold bX10_bendsAt_17
      rw [if_pos (by decide)]
      rfl
end RF
