/-! loops; more statics; posts -/
theorem lim_it {σ ρ : Type} {step : σ → Option (σ ⊕ ρ)} (st : Nat → σ) (n : Nat) (hs : ∀ j, j < n → step (st j) = some (.inl (st (j + 1)))) : lim step (st 0) = lim step (st n) := by
  induction n with
  | zero => rfl
  | succ n ih =>
    rw [ih (fun j hj => hs j (by omega)), lim_eq step (st n), hs n (by omega), fin_l]
theorem lim_end {σ ρ : Type} {step : σ → Option (σ ⊕ ρ)} {s : σ} {r : ρ} (h : step s = some (.inr r)) : lim step s = some r := by rw [lim_eq, h, fin_r]
theorem lim_it2 {σ ρ : Type} {step : σ → Option (σ ⊕ ρ)} (st : Nat → σ) (n : Nat) {r : ρ} (hs : ∀ j, j < n → step (st j) = some (.inl (st (j + 1)))) (he : step (st n) = some (.inr r)) : lim step (st 0) = some r := by rw [lim_it st n hs, lim_end he]
theorem i_ms (x : Int32) : x.toBitVec.msb = decide (x.toInt < 0) := by
  rw [BitVec.msb_eq_toInt]
  rfl
theorem i_xor (x y : Int32) : 0 ≤ x ^^^ y ↔ (x.toInt < 0 ↔ y.toInt < 0) := by
  have h : ((x ^^^ y).toInt < 0) ↔ ¬ (x.toInt < 0 ↔ y.toInt < 0) := by
    have h1 := i_ms (x ^^^ y)
    rw [Int32.toBitVec_xor, BitVec.msb_xor, i_ms x, i_ms y] at h1
    by_cases ha : x.toInt < 0 <;> by_cases hb : y.toInt < 0 <;> simp [ha, hb] at h1 ⊢ <;> omega
  rw [i_le, n0]
  omega
theorem C_floorDiv {v m : Int32} {n : Int} (hm : m.toInt = n) (hn : 0 < n) : fJ9_floorDiv_7cf53 v m = some (byd v m) := by
  have hm0 : ¬ m = 0 := by rw [i_eq, hm, n0]; omega
  unfold fJ9_floorDiv_7cf53 bJ9_floorDiv_7cf53_0 bJ9_floorDiv_7cf53_21
  rw [show o_nz m = some m from if_neg hm0]
  simp only [Option.bind_some, i_xor, hm]
  have hr := i_rem (v := v) hm hn
  unfold byd
  by_cases h : 0 ≤ v.toInt
  · rw [if_pos h] at hr
    rw [if_pos (by omega), if_pos (by rw [i_le, n0, hr]; exact Int.emod_nonneg _ (by omega))]
  · rw [if_neg h] at hr
    have hp := Int.emod_nonneg (-v.toInt) (show n ≠ 0 by omega)
    rw [if_neg (by omega)]
    by_cases h2 : v / m * m = v
    · rw [if_pos h2, if_pos (by rw [h2, Int32.sub_self]; decide)]
    · rw [if_neg h2, if_neg]
      rw [i_le, n0, hr]
      intro h3
      apply h2
      have h4 : (v - v / m * m).toInt = 0 := by rw [hr]; omega
      have h5 : v - v / m * m = 0 := by rw [i_eq, h4, n0]
      have h6 := Int32.sub_add_cancel v (v / m * m)
      rw [h5, Int32.zero_add] at h6
      exact h6
/-- the way back at the border -/
def bk (x0 : Int32) : Int32 := if (((x0 - x0 / 22 * 22) + 22) - ((x0 - x0 / 22 * 22) + 22) / 22 * 22) ≤ 11 then (((x0 - x0 / 22 * 22) + 22) - ((x0 - x0 / 22 * 22) + 22) / 22 * 22) else 22 - (((x0 - x0 / 22 * 22) + 22) - ((x0 - x0 / 22 * 22) + 22) / 22 * 22)
theorem R_back (x : Int32) : fX10_back x = some (bk x) := by
  unfold fX10_back bX10_back_0 bX10_back_25 bk
  simp only [Option.bind_some]
  split <;> rfl
theorem n22 : (22 : Int32).toInt = 22 := rfl
theorem md_R (x : Int32) : (((x - x / 22 * 22) + 22) - ((x - x / 22 * 22) + 22) / 22 * 22).toInt = x.toInt % 22 := by
  have h1 := i_rem (v := x) n22 (by decide)
  have h2 : ((x - x / 22 * 22) + 22).toInt = (x - x / 22 * 22).toInt + 22 := by
    rw [i_add, n22] <;> rw [n22, h1] <;> split <;> omega
  rw [i_rem n22 (by decide), h2, h1]
  split <;> split <;> omega
theorem C_floorMod (x : Int32) : fJ9_floorMod_7cf53 x 22 = some (((x - x / 22 * 22) + 22) - ((x - x / 22 * 22) + 22) / 22 * 22) := by
  unfold fJ9_floorMod_7cf53 bJ9_floorMod_7cf53_0 bJ9_floorMod_7cf53_18
  rw [show o_nz 22 = some 22 from rfl]
  simp only [Option.bind_some, i_xor, n22]
  have h1 := i_rem (v := x) n22 (by decide)
  by_cases h : 0 ≤ x.toInt
  · rw [if_pos (by omega)]
    congr 1
    rw [i_eq, md_R, h1, if_pos h]
  · rw [if_neg h] at h1
    rw [if_neg (by omega)]
    by_cases h2 : x - x / 22 * 22 = 0
    · rw [if_pos h2]
      congr 1
      rw [i_eq, md_R, h1]
      rw [i_eq, h1, n0] at h2
      omega
    · rw [if_neg h2]
      congr 1
      rw [i_eq, h1, n0] at h2
      rw [i_eq, md_R, i_add (by rw [n22, h1]; omega) (by rw [n22, h1]; omega), n22, h1]
      omega
theorem bk_b (x : Int32) : 0 ≤ (bk x).toInt ∧ (bk x).toInt ≤ 11 := by
  have h := md_R x
  unfold bk
  generalize (((x - x / 22 * 22) + 22) - ((x - x / 22 * 22) + 22) / 22 * 22) = r at h
  have h11 : (11 : Int32).toInt = 11 := rfl
  by_cases h2 : r ≤ 11
  · rw [if_pos h2]
    rw [i_le, n11] at h2
    omega
  · rw [if_neg h2]
    rw [i_le, n11] at h2
    rw [i_sub (by rw [n22]; omega) (by rw [n22]; omega), n22]
    omega
theorem bPl_t {x y : Int32} (h : (0 ≤ x.toInt ∧ x.toInt ≤ 11) ∧ 0 ≤ y.toInt ∧ y.toInt ≤ 11) : bPl x y = 1 := bz_t h
theorem e12 : ((1 : Int32) = 2) = False := by decide
theorem e20 : ((2 : Int32) = 0) = False := by decide
theorem e21 : ((2 : Int32) = 1) = False := by decide
theorem e01 : ((0 : Int32) = 1) = False := by decide
theorem e02 : ((0 : Int32) = 2) = False := by decide
/-- where post p is at an hour -/
def plc (I : Nat → Nat → Int32) (p : Nat) (h : Int32) : Int32 :=
  if I 2 p = 0 then 12 * I 4 p + I 3 p
  else if I 2 p = 2 then 12 * bk (I 4 p + byd (I 7 p * h) 10) + bk (I 3 p + byd (I 6 p * h) 10)
  else if bPl (I 3 p + byd (I 6 p * h) 10) (I 4 p + byd (I 7 p * h) 10) = 0 then -9
  else 12 * (I 4 p + byd (I 7 p * h) 10) + (I 3 p + byd (I 6 p * h) 10)
/-- a post told -/
def poR (I : Nat → Nat → Int32) (p : Nat) : Prop := (0 ≤ (I 2 p).toInt ∧ (I 2 p).toInt < 3) ∧ ((0 ≤ (I 3 p).toInt ∧ (I 3 p).toInt ≤ 11) ∧ 0 ≤ (I 4 p).toInt ∧ (I 4 p).toInt ≤ 11) ∧ (0 ≤ (I 5 p).toInt ∧ (I 5 p).toInt ≤ 3000) ∧ (-20 ≤ (I 6 p).toInt ∧ (I 6 p).toInt ≤ 20) ∧ -20 ≤ (I 7 p).toInt ∧ (I 7 p).toInt ≤ 20
def poC (S : MS) (I : Nat → Nat → Int32) (a p : Nat) : Prop := 50 < a ∧ m_I S a 0 = I 2 p ∧ m_I S a 1 = I 3 p ∧ m_I S a 2 = I 4 p ∧ m_I S a 3 = I 5 p ∧ m_I S a 4 = I 6 p ∧ m_I S a 5 = I 7 p
def Pos (S : MS) (I : Nat → Nat → Int32) (np ep : Nat) (ps : Nat → Nat) : Prop := np ≤ 12 ∧ I 1 1 = nI np ∧ Lst S 3 np 7 ep ps ∧ ∀ p, p < np → poC S I (ps p) p ∧ poR I p
section PO
variable {S : MS} {I : Nat → Nat → Int32} {J : Nat → Nat → Int64}
theorem R_placeOf {p np : Nat} (hp : p < np) (hn : np ≤ 12) (h : Int32) : fX10_placeOf (mkR I J) 1 (nI p) h = some (plc I p h) := by
  have hp : p < 12 := by omega
  unfold fX10_placeOf bX10_placeOf_0 bX10_placeOf_114 plc
  simp only [rP2, rP3, rP4, rP6, rP7, Option.bind_some, rL2 rfl hp, rL3 rfl hp, rL4 rfl hp, rL6 rfl hp, rL7 rfl hp, R_by (n := 10) (by decide), R_back, R_isPlace]
  split
  · rfl
  · split
    · rfl
    · split <;> rfl
theorem C_along {a p : Nat} (ha : m_at S a 7) (hc : poC S I a p) (x g h : Int32) : fX6_along S a x g h = some (if I 2 p = 0 then x else if I 2 p = 1 then x + byd (g * h) 10 else bk (x + byd (g * h) 10)) := by
  unfold fX6_along bX6_along_0 bX6_along_58
  simp only [at_gI ha, Option.bind_some, hc.2.1, C_floorDiv (m := 10) (n := 10) rfl (by decide), C_floorMod]
  split
  · rfl
  · split
    · rfl
    · unfold bk
      split <;> rfl
theorem k3 {x : Int32} (h : 0 ≤ x.toInt ∧ x.toInt < 3) : x = 0 ∨ x = 1 ∨ x = 2 := by
  obtain ⟨j, hj, rfl⟩ := i_nI (n := 3) h.1 h.2
  match j, hj with
  | 0, _ => exact .inl rfl
  | 1, _ => exact .inr (.inl rfl)
  | 2, _ => exact .inr (.inr rfl)
theorem C_placeAt {a p : Nat} (ha : m_at S a 7) (hc : poC S I a p) (hr : poR I p) (h : Int32) : fX6_placeAt S a h = some (plc I p h) := by
  unfold fX6_placeAt bX6_placeAt_0 bX6_placeAt_47 plc
  simp only [at_gI ha, at_is ha, Option.bind_some, hc.2.2.1, hc.2.2.2.1, hc.2.2.2.2.2.1, hc.2.2.2.2.2.2, C_along ha hc, C_isPlace]
  rcases k3 hr.1 with h0 | h0 | h0
  · simp only [h0, if_true, bPl_t hr.2.1, e10, if_false]
  · simp only [h0, if_true, e10, e12, if_false]
    split <;> rfl
  · simp only [h0, if_true, e20, e21, if_false, bPl_t ⟨bk_b _, bk_b _⟩, e10]
end PO
