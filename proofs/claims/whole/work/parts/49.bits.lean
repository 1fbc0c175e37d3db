/-! sets of numbers below 12 as bits -/
def mk (f : Nat → Bool) : Nat → Nat
  | 0 => 0
  | n + 1 => mk f n + (if f n then 2 ^ n else 0)
theorem mk_lt (f : Nat → Bool) (n : Nat) : mk f n < 2 ^ n := by
  induction n with
  | zero => exact Nat.one_pos
  | succ n ih =>
    show mk f n + (if f n then 2 ^ n else 0) < _
    rw [Nat.pow_succ]
    split <;> omega
theorem mk_bit (f : Nat → Bool) (n k : Nat) : (mk f n).testBit k = (decide (k < n) && f k) := by
  induction n with
  | zero =>
    show Nat.testBit 0 k = _
    simp
  | succ n ih =>
    show (mk f n + (if f n then 2 ^ n else 0)).testBit k = _
    have hlt := mk_lt f n
    by_cases hf : f n = true
    · rw [if_pos hf, Nat.add_comm]
      by_cases hk : k = n
      · subst hk
        rw [Nat.testBit_two_pow_add_eq, Nat.testBit_lt_two_pow hlt]
        simp [hf]
      · by_cases hkn : k < n
        · rw [Nat.testBit_two_pow_add_gt hkn, ih]
          simp [hkn, show k < n + 1 by omega]
        · rw [Nat.testBit_lt_two_pow]
          · simp [show ¬ k < n + 1 by omega]
          · have : 2 ^ (n + 1) ≤ 2 ^ k := Nat.pow_le_pow_right (by decide) (by omega)
            rw [Nat.pow_succ] at this
            omega
    · rw [if_neg hf, Nat.add_zero, ih]
      by_cases hk : k = n
      · subst hk
        simp [hf]
      · by_cases hkn : k < n
        · simp [hkn, show k < n + 1 by omega]
        · simp [hkn, show ¬ k < n + 1 by omega]
theorem mk_ext {a : Nat} {f : Nat → Bool} {n : Nat} (h : ∀ k, a.testBit k = (decide (k < n) && f k)) : a = mk f n := Nat.eq_of_testBit_eq (fun k => by rw [h, mk_bit])
theorem mk_c {f g : Nat → Bool} {n : Nat} (h : ∀ k, k < n → f k = g k) : mk f n = mk g n := mk_ext (fun k => by
  rw [mk_bit]
  by_cases hk : k < n
  · rw [h k hk]
  · simp [hk])
def bt (x : Int32) (k : Nat) : Bool := x.toBitVec.getLsbD k
theorem bt_ext {x y : Int32} (h : ∀ k, k < 32 → bt x k = bt y k) : x = y := by
  apply Int32.toBitVec_inj.mp
  exact BitVec.eq_of_getLsbD_eq (fun k hk => h k hk)
theorem bt_nI (m k : Nat) : bt (nI m) k = (decide (k < 32) && m.testBit k) := by
  show (BitVec.ofNat 32 m).getLsbD k = _
  rw [BitVec.getLsbD_ofNat]
theorem bt_and (x y : Int32) (k : Nat) : bt (x &&& y) k = (bt x k && bt y k) := by
  unfold bt
  rw [Int32.toBitVec_and, BitVec.getLsbD_and]
theorem bt_or (x y : Int32) (k : Nat) : bt (x ||| y) k = (bt x k || bt y k) := by
  unfold bt
  rw [Int32.toBitVec_or, BitVec.getLsbD_or]
theorem bt_xor (x y : Int32) (k : Nat) : bt (x ^^^ y) k = (bt x k ^^ bt y k) := by
  unfold bt
  rw [Int32.toBitVec_xor, BitVec.getLsbD_xor]
theorem bt_m1 : ∀ k, k < 32 → bt (-1) k = true := by decide
theorem nI_and (a b : Nat) : nI a &&& nI b = nI (a &&& b) := bt_ext (fun k hk => by rw [bt_and, bt_nI, bt_nI, bt_nI, Nat.testBit_and]; simp [hk])
theorem nI_or (a b : Nat) : nI a ||| nI b = nI (a ||| b) := bt_ext (fun k hk => by rw [bt_or, bt_nI, bt_nI, bt_nI, Nat.testBit_or]; simp [hk])
theorem sh1 : ∀ p, p < 12 → (1 : Int32) <<< (nI p &&& 31) = nI (2 ^ p) := by decide
theorem bt_1 : ∀ k, k < 32 → bt 1 k = decide (k = 0) := by decide
theorem shr1 (x : Int32) {p : Nat} (hp : p < 12) : (x >>> (nI p &&& 31)) &&& 1 = if bt x p = true then 1 else 0 := by
  have hsm : ∀ p, p < 12 → ((nI p &&& 31).toBitVec.smod 32).toNat = p := by decide
  have h0 : ∀ k, k < 32 → bt ((x >>> (nI p &&& 31)) &&& 1) k = (decide (k = 0) && bt x p) := by
    intro k hk
    rw [bt_and, bt_1 k hk]
    by_cases hk0 : k = 0
    · subst hk0
      simp only [decide_true, Bool.and_true, Bool.true_and]
      unfold bt
      rw [Int32.toBitVec_shiftRight, BitVec.sshiftRight', hsm p hp, BitVec.getLsbD_sshiftRight]
      simp [show p < 32 by omega]
    · simp [hk0]
  apply bt_ext
  intro k hk
  rw [h0 k hk]
  by_cases hb : bt x p = true
  · rw [if_pos hb, hb, bt_1 k hk, Bool.and_true]
  · have hb' : bt x p = false := by simpa using hb
    rw [if_neg hb, hb', Bool.and_false]
    have : ∀ k, k < 32 → false = bt 0 k := by decide
    exact this k hk
theorem C_isIn {m p : Nat} (hp : p < 12) : fX9_isIn (nI m) (nI p) = some (if m.testBit p = true then 1 else 0) := by
  unfold fX9_isIn bX9_isIn_0 bX9_isIn_13
  rw [shr1 _ hp, bt_nI]
  simp only [show p < 32 by omega, decide_true, Bool.true_and]
  by_cases h : m.testBit p = true
  · simp only [h, if_true, e10, if_false]
    rfl
  · simp only [h, if_false, e00, if_true]
    rfl
theorem R_hasBit {m p : Nat} (hp : p < 12) : fX10_hasBit (nI m) (nI p) = some (if m.testBit p = true then 1 else 0) := by
  unfold fX10_hasBit bX10_hasBit_0 bX10_hasBit_14
  rw [shr1 _ hp, bt_nI]
  simp only [show p < 32 by omega, decide_true, Bool.true_and]
  by_cases h : m.testBit p = true
  · simp only [h, if_true]
    rfl
  · simp only [h, e01, if_false]
    rfl
/-- how many -/
def pop (m : Nat) : Nat → Nat
  | 0 => 0
  | n + 1 => pop m n + (if m.testBit n = true then 1 else 0)
theorem pop_le (m n : Nat) : pop m n ≤ n := by
  induction n with
  | zero => exact Nat.le_refl _
  | succ n ih =>
    show pop m n + (if m.testBit n = true then 1 else 0) ≤ _
    split <;> omega
theorem R_count12 (m : Nat) : fX10_count (nI m) = some (nI (pop m 12)) := by
  unfold fX10_count bX10_count_0
  rw [fin_l]
  refine lim_it2 (st := fun j => (nI m, nI (pop m j), nI j)) 12 (fun j hj => ?_) ?_
  · show bX10_count_4 (nI m) (nI (pop m j)) (nI j) = _
    unfold bX10_count_4
    rw [if_neg (show ¬ (12 : Int32) ≤ nI j from nI_ge (b := 12) hj (by omega)), shr1 _ hj, bt_nI]
    simp only [show j < 32 by omega, decide_true, Bool.true_and, Option.bind_some, nI_1]
    have : nI (pop m j) + (if m.testBit j = true then 1 else 0) = nI (pop m (j + 1)) := by
      show _ = nI (pop m j + (if m.testBit j = true then 1 else 0))
      split
      · exact nI_1 _
      · exact nI_add _ 0
    rw [this]
  · show bX10_count_4 (nI m) (nI (pop m 12)) (nI 12) = _
    unfold bX10_count_4
    rw [if_pos (by decide)]
set_option maxRecDepth 100000 in
theorem C_bits : ∀ m, m < 4096 → fJ6_bitCount_0f7a4 (nI m) = some (nI (pop m 12)) := by
  decide +kernel
