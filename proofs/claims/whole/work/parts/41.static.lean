/-! the static methods of both sides, as numbers -/
def bz (p : Prop) [Decidable p] : Int32 := if p then 1 else 0
theorem bz_t {p : Prop} [Decidable p] (h : p) : bz p = 1 := if_pos h
theorem bz_f {p : Prop} [Decidable p] (h : ¬ p) : bz p = 0 := if_neg h
theorem bz_0 (p : Prop) [Decidable p] : (bz p = 0) = ¬ p := by
  by_cases h : p
  · rw [bz_t h]; simp [h]
  · rw [bz_f h]; simp [h]
theorem bz_1 (p : Prop) [Decidable p] : (bz p = 1) = p := by
  by_cases h : p
  · rw [bz_t h]; simp [h]
  · rw [bz_f h]; simp [h]
theorem bz_zb (p : Prop) [Decidable p] : o_zb (bz p) = some (bz p) := by
  by_cases h : p
  · rw [bz_t h]; rfl
  · rw [bz_f h]; rfl
theorem zb0 : o_zb 0 = some 0 := rfl
theorem zb1 : o_zb 1 = some 1 := rfl
theorem bz_c {p q : Prop} [Decidable p] [Decidable q] (h : p ↔ q) : bz p = bz q := by
  by_cases hp : p
  · rw [bz_t hp, bz_t (h.mp hp)]
  · rw [bz_f hp, bz_f (fun z => hp (h.mpr z))]
theorem n0 : (0 : Int32).toInt = 0 := rfl
theorem n11 : (11 : Int32).toInt = 11 := rfl
theorem R_in (x a b : Int64) : fX10_in x a b = some (bz (a.toInt ≤ x.toInt ∧ x.toInt ≤ b.toInt)) := by
  unfold fX10_in bX10_in_0 bX10_in_17 bX10_in_18
  simp only [lg_lt, lg_gt, zb0, zb1, Option.bind_some]
  by_cases h1 : x.toInt < a.toInt
  · rw [if_pos h1, bz_f (by omega)]
  · rw [if_neg h1]
    by_cases h2 : b.toInt < x.toInt
    · rw [if_pos h2, bz_f (by omega)]
    · rw [if_neg h2, bz_t (by omega)]
/-- within literal bounds -/
theorem R_inI (x : Int32) {a b : Int64} {a' b' : Int} (ha : a.toInt = a') (hb : b.toInt = b') : fX10_in x.toInt64 a b = some (bz (a' ≤ x.toInt ∧ x.toInt ≤ b')) := by
  rw [R_in, i_l, ha, hb]
theorem C_isWithin (x a b : Int32) : fX9_isWithin x a b = some (bz (a.toInt ≤ x.toInt ∧ x.toInt ≤ b.toInt)) := by
  unfold fX9_isWithin bX9_isWithin_0 bX9_isWithin_14 bX9_isWithin_15
  simp only [zb0, zb1, Option.bind_some, i_lt, i_le]
  by_cases h1 : x.toInt < a.toInt
  · rw [if_pos h1, bz_f (by omega)]
  · rw [if_neg h1]
    by_cases h2 : b.toInt < x.toInt
    · rw [if_pos h2, bz_f (by omega)]
    · rw [if_neg h2, bz_t (by omega)]
theorem C_isBelow (x n : Int32) : fX9_isBelow x n = some (bz (0 ≤ x.toInt ∧ x.toInt < n.toInt)) := by
  unfold fX9_isBelow bX9_isBelow_0 bX9_isBelow_13 bX9_isBelow_14
  simp only [zb0, zb1, Option.bind_some, i_lt, i_le, n0]
  by_cases h1 : x.toInt < 0
  · rw [if_pos h1, bz_f (by omega)]
  · rw [if_neg h1]
    by_cases h2 : n.toInt ≤ x.toInt
    · rw [if_pos h2, bz_f (by omega)]
    · rw [if_neg h2, bz_t (by omega)]
def isPl (x y : Int32) : Prop := (0 ≤ x.toInt ∧ x.toInt ≤ 11) ∧ 0 ≤ y.toInt ∧ y.toInt ≤ 11
theorem isPl_iff {x y : Int32} : isPl x y ↔ (0 ≤ x.toInt ∧ x.toInt ≤ 11) ∧ 0 ≤ y.toInt ∧ y.toInt ≤ 11 := Iff.rfl
def dPl (x y : Int32) : Decidable (isPl x y) := by unfold isPl; infer_instance
def bPl (x y : Int32) : Int32 := bz ((0 ≤ x.toInt ∧ x.toInt ≤ 11) ∧ 0 ≤ y.toInt ∧ y.toInt ≤ 11)
theorem R_isPlace (x y : Int32) : fX10_isPlace x y = some (bPl x y) := by
  unfold fX10_isPlace bX10_isPlace_0 bX10_isPlace_28 bX10_isPlace_29 bPl
  simp only [R_inI x (a := 0) (b := 11) (a' := 0) (b' := 11) rfl rfl, R_inI y (a := 0) (b := 11) (a' := 0) (b' := 11) rfl rfl, Option.bind_some, bz_0, zb0, zb1]
  by_cases h1 : 0 ≤ x.toInt ∧ x.toInt ≤ 11
  · rw [if_neg (by simpa using h1)]
    by_cases h2 : 0 ≤ y.toInt ∧ y.toInt ≤ 11
    · rw [if_neg (by simpa using h2), bz_t ⟨h1, h2⟩]
    · rw [if_pos h2, bz_f (fun h => h2 h.2)]
  · rw [if_pos h1, bz_f (fun h => h1 h.1)]
theorem C_isPlace (x y : Int32) : fX9_isPlace x y = some (bPl x y) := by
  unfold fX9_isPlace bX9_isPlace_0 bX9_isPlace_22 bX9_isPlace_23 bPl
  simp only [C_isBelow, Option.bind_some, bz_0, zb0, zb1, show (12 : Int32).toInt = 12 from rfl]
  by_cases h1 : 0 ≤ x.toInt ∧ x.toInt < 12
  · rw [if_neg (by simpa using h1)]
    by_cases h2 : 0 ≤ y.toInt ∧ y.toInt < 12
    · rw [if_neg (by simpa using h2), bz_t (by omega)]
    · rw [if_pos h2, bz_f (by omega)]
  · rw [if_pos h1, bz_f (by omega)]
def ab (x : Int32) : Int32 := if x < 0 then -x else x
theorem R_sizeOf (x : Int32) : fX10_sizeOf x = some (ab x) := by
  unfold fX10_sizeOf bX10_sizeOf_0 bX10_sizeOf_10 ab
  by_cases h : 0 ≤ x
  · have h2 : ¬ x < 0 := by rw [i_lt]; rw [i_le] at h; omega
    simp [h, h2]
  · have h2 : x < 0 := by rw [i_lt]; rw [i_le] at h; omega
    simp [h, h2]
theorem C_abs (x : Int32) : fJ9_abs_0f7a4 x = some (ab x) := by
  unfold fJ9_abs_0f7a4 bJ9_abs_0f7a4_0 bJ9_abs_0f7a4_10 ab
  by_cases h : 0 ≤ x
  · have h2 : ¬ x < 0 := by rw [i_lt]; rw [i_le] at h; omega
    simp [h, h2]
  · have h2 : x < 0 := by rw [i_lt]; rw [i_le] at h; omega
    simp [h, h2]
def mx (x y : Int32) : Int32 := if y < x then x else y
def mn (x y : Int32) : Int32 := if x < y then x else y
theorem R_greater (x y : Int32) : fX10_greater x y = some (mx x y) := by
  unfold fX10_greater bX10_greater_0 bX10_greater_10 mx
  by_cases h : x ≤ y
  · have h2 : ¬ y < x := by rw [i_lt]; rw [i_le] at h; omega
    simp [h, h2]
  · have h2 : y < x := by rw [i_lt]; rw [i_le] at h; omega
    simp [h, h2]
theorem C_max (x y : Int32) : fJ9_max_7cf53 x y = some (mx x y) := by
  unfold fJ9_max_7cf53 bJ9_max_7cf53_0 bJ9_max_7cf53_10 mx
  by_cases h : x < y
  · have h2 : ¬ y < x := by rw [i_lt] at h ⊢; omega
    simp [h, h2]
  · by_cases h2 : y < x
    · simp [h, h2]
    · have : x = y := by rw [i_lt] at h h2; rw [i_eq]; omega
      subst this
      simp
theorem C_min (x y : Int32) : fJ9_min_7cf53 x y = some (mn x y) := by
  unfold fJ9_min_7cf53 bJ9_min_7cf53_0 bJ9_min_7cf53_10 mn
  by_cases h : y < x
  · have h2 : ¬ x < y := by rw [i_lt] at h ⊢; omega
    simp [h, h2]
  · by_cases h2 : x < y
    · simp [h, h2]
    · have : x = y := by rw [i_lt] at h h2; rw [i_eq]; omega
      subst this
      simp
/-- cut down -/
def byd (v n : Int32) : Int32 := if 0 ≤ v - v / n * n then v / n else v / n - 1
theorem R_by {v n : Int32} (h : ¬ n = 0) : fX10_by v n = some (byd v n) := by
  unfold fX10_by bX10_by_0 bX10_by_17 o_nz byd
  simp only [if_neg h, Option.bind_some]
  split <;> rfl
theorem i_fl {v q : Int32} {n : Int} (hn : 0 < n) (h : q.toInt = if 0 ≤ v.toInt then v.toInt / n else -((-v.toInt) / n)) : -2147483648 ≤ q.toInt * n ∧ q.toInt * n < 2147483648 ∧ v.toInt - q.toInt * n = (if 0 ≤ v.toInt then v.toInt % n else -((-v.toInt) % n)) := by
  have h1 := i_lo v
  have h2 := i_hi v
  by_cases h3 : 0 ≤ v.toInt
  · rw [if_pos h3] at h
    rw [if_pos h3, h]
    have e := Int.mul_ediv_add_emod v.toInt n
    have e2 := Int.emod_nonneg v.toInt (by omega : n ≠ 0)
    have e3 : 0 ≤ v.toInt / n * n := Int.mul_nonneg (Int.ediv_nonneg h3 (by omega)) (by omega)
    rw [Int.mul_comm] at e
    omega
  · rw [if_neg h3] at h
    rw [if_neg h3, h]
    have e := Int.mul_ediv_add_emod (-v.toInt) n
    have e2 := Int.emod_nonneg (-v.toInt) (by omega : n ≠ 0)
    have e3 : 0 ≤ (-v.toInt) / n * n := Int.mul_nonneg (Int.ediv_nonneg (by omega) (by omega)) (by omega)
    rw [Int.mul_comm] at e
    rw [Int.neg_mul]
    omega
theorem i_rem {v m : Int32} {n : Int} (hm : m.toInt = n) (hn : 0 < n) : (v - v / m * m).toInt = if 0 ≤ v.toInt then v.toInt % n else -((-v.toInt) % n) := by
  have hq := i_div (x := v) hm hn
  obtain ⟨a1, a2, a3⟩ := i_fl hn hq
  have e : (v / m * m).toInt = (v / m).toInt * n := by
    rw [← hm]
    rw [← hm] at a1 a2
    exact i_mul a1 a2
  have h1 := i_lo v
  have h2 := i_hi v
  have b1 : 0 ≤ v.toInt % n := Int.emod_nonneg _ (by omega)
  have b2 : v.toInt % n < n := Int.emod_lt_of_pos _ hn
  have b3 : 0 ≤ (-v.toInt) % n := Int.emod_nonneg _ (by omega)
  have b5 : 0 ≤ v.toInt → v.toInt % n ≤ v.toInt := fun h => by
    have := Int.mul_ediv_add_emod v.toInt n
    have := Int.mul_nonneg (by omega : 0 ≤ n) (Int.ediv_nonneg h (by omega : 0 ≤ n))
    omega
  have b6 : ¬ 0 ≤ v.toInt → (-v.toInt) % n ≤ -v.toInt := fun h => by
    have := Int.mul_ediv_add_emod (-v.toInt) n
    have := Int.mul_nonneg (by omega : 0 ≤ n) (Int.ediv_nonneg (by omega : 0 ≤ -v.toInt) (by omega : 0 ≤ n))
    omega
  rw [i_sub, e, a3]
  · rw [e, a3]; split <;> omega
  · rw [e, a3]; split <;> omega
/-- cut down, as a number: the floor -/
theorem i_byd {v m : Int32} {n : Int} (hm : m.toInt = n) (hn : 0 < n) : (byd v m).toInt = v.toInt / n := by
  have hr := i_rem (v := v) hm hn
  have hq := i_div (x := v) hm hn
  have h1 := i_lo v
  have h2 := i_hi v
  unfold byd
  by_cases h3 : 0 ≤ v.toInt
  · rw [if_pos h3] at hr hq
    have b1 : 0 ≤ v.toInt % n := Int.emod_nonneg _ (by omega)
    rw [if_pos (by rw [i_le, hr]; exact b1), hq]
  · rw [if_neg h3] at hr hq
    have b3 : 0 ≤ (-v.toInt) % n := Int.emod_nonneg _ (by omega)
    have b4 : (-v.toInt) % n < n := Int.emod_lt_of_pos _ hn
    have e := Int.mul_ediv_add_emod (-v.toInt) n
    have e5 : v.toInt = n * (-((-v.toInt) / n)) - (-v.toInt) % n := by rw [Int.mul_neg]; omega
    by_cases h4 : (-v.toInt) % n = 0
    · rw [if_pos (by rw [i_le, hr, n0]; omega), hq]
      have e6 : v.toInt = n * (-((-v.toInt) / n)) := by omega
      conv => rhs; rw [e6]
      rw [Int.mul_ediv_cancel_left _ (by omega)]
    · have hneg : ¬ (0 : Int32) ≤ v - v / m * m := by rw [i_le, hr, n0]; omega
      rw [if_neg hneg]
      have k1 : 0 ≤ (-v.toInt) / n := Int.ediv_nonneg (by omega) (by omega)
      have k2 : (-v.toInt) / n ≤ -v.toInt := Int.ediv_le_self n (by omega)
      have k3 : (-v.toInt) / n < 2147483648 := by
        rcases Int.lt_or_le ((-v.toInt) / n) 2147483648 with h | h
        · exact h
        · exfalso
          have : (-v.toInt) / n = 2147483648 := by omega
          have hv : v.toInt = -2147483648 := by omega
          rw [this] at e
          have : n * 2147483648 ≤ 2147483648 := by omega
          have : n = 1 := by omega
          subst this
          simp at h4
      rw [i_sub (by rw [hq]; show _ ≤ _ - (1 : Int); omega) (by rw [hq]; show _ - (1 : Int) < _; omega), hq]
      show _ - (1 : Int) = _
      have e6 : v.toInt = (n - (-v.toInt) % n) + n * (-((-v.toInt) / n) - 1) := by rw [Int.mul_sub, Int.mul_neg]; omega
      have e7 : v.toInt / n = -((-v.toInt) / n) - 1 := by
        conv => lhs; rw [e6]
        rw [Int.add_mul_ediv_left _ _ (by omega : n ≠ 0), Int.ediv_eq_zero_of_lt (by omega) (by omega), Int.zero_add]
      omega
