/-! wire: cells taken from a sheet; a new wire of the class -/
section TK
variable {S : MS} {I : Nat → Nat → Int32} {J : Nat → Nat → Int64}
theorem C_hasCellsL {k n : Nat} {x : Int32} {y : Int64} {c : Int} (hC : CS S) (hk : k < 4) (hn : n ≤ 60) (he : m_I S (43 + 2 * k) 1 = nI n) (hy : y.toInt = c) (h1 : -1000000000000 ≤ c) (h2 : c ≤ 1000000000000) : fX7_hasCells S (43 + 2 * k) x y = some (bz (0 ≤ x.toInt ∧ 0 ≤ c ∧ x.toInt + c ≤ n)) := by
  unfold fX7_hasCells bX7_hasCells_0 bX7_hasCells_27 bX7_hasCells_28
  rw [cIsh hC 1 k hk, Option.bind_some, he]
  have a1 := i_lo x
  have a2 := i_hi x
  simp only [lg_lt, lg_gt, n0, i_l, show (0 : Int64).toInt = 0 from rfl, nI_toInt (show n < 2 ^ 31 by omega)]
  simp only [i_lt, n0]
  rw [l_add (by rw [i_l, hy]; omega) (by rw [i_l, hy]; omega), i_l, hy]
  by_cases h1 : x.toInt < 0
  · rw [if_pos h1, bz_f (by omega)]
    rfl
  · rw [if_neg h1]
    by_cases h2 : c < 0
    · rw [if_pos h2, bz_f (by omega)]
      rfl
    · rw [if_neg h2]
      by_cases h3 : (n : Int) < x.toInt + c
      · rw [if_pos h3, bz_f (by omega)]
        rfl
      · rw [if_neg h3, bz_t (by omega)]
        rfl
theorem R_beyondL (x z : Int32) {y : Int64} {c : Int} (hy : y.toInt = c) (h1 : -1000000000000 ≤ c) (h2 : c ≤ 1000000000000) : fX10_isBeyond x y z = some (bz (¬ (0 ≤ x.toInt ∧ 0 ≤ c ∧ x.toInt + c ≤ z.toInt))) := by
  unfold fX10_isBeyond bX10_isBeyond_0 bX10_isBeyond_20 bX10_isBeyond_25
  have a1 := i_lo x
  have a2 := i_hi x
  have hle : ∀ u v : Int64, lg_cmp u v ≤ 0 ↔ u.toInt ≤ v.toInt := fun u v => by
    rw [← Int.not_lt, ← lg_gt, i_le, i_lt, Int.not_lt]
  simp only [lg_lt, hle, i_l, show (0 : Int64).toInt = 0 from rfl]
  rw [l_add (by rw [i_l, hy]; omega) (by rw [i_l, hy]; omega), i_l, hy]
  simp only [i_lt, n0]
  by_cases h1 : x.toInt < 0
  · rw [if_pos h1, bz_t (by omega)]
    rfl
  · rw [if_neg h1]
    by_cases h2 : c < 0
    · rw [if_pos h2, bz_t (by omega)]
      rfl
    · rw [if_neg h2]
      by_cases h3 : x.toInt + c ≤ z.toInt
      · rw [if_pos h3, bz_f (by omega)]
        rfl
      · rw [if_neg h3, bz_t (by omega)]
        rfl
/-- what taking a count of cells comes to -/
def tkf (l : Nat) (ln : Int32) (n : Nat) (x : Int32) (c : Int) : Int32 := if nI l = ln then (if c < 0 then 4 else if 0 ≤ x.toInt ∧ x.toInt + c ≤ n then 0 else 3) else 2
theorem C_takingL {k n l : Nat} {ln x : Int32} {y : Int64} {c : Int} (hC : CS S) (hk : k < 4) (hn : n ≤ 60) (hl : l < 3) (he : m_I S (43 + 2 * k) 0 = nI l) (he2 : m_I S (43 + 2 * k) 1 = nI n) (hy : y.toInt = c) (h1 : -1000000000000 ≤ c) (h2 : c ≤ 1000000000000) : fX7_faultOfTaking S (43 + 2 * k) ln x y = some (tkf l ln n x c) := by
  have hge : ∀ u v : Int64, 0 ≤ lg_cmp u v ↔ v.toInt ≤ u.toInt := fun u v => by
    rw [← Int.not_lt, ← lg_lt, i_le, i_lt, Int.not_lt]
  unfold fX7_faultOfTaking bX7_faultOfTaking_0 bX7_faultOfTaking_17 bX7_faultOfTaking_48 tkf
  rw [cIssh hC k hk, Option.bind_some, C_isEmpty_1 hC hk hl he, Option.bind_some, if_pos rfl, cIsh hC 0 k hk, Option.bind_some, he]
  by_cases h : nI l = ln
  · rw [if_pos h, if_pos h, Option.bind_some, Option.bind_some, if_pos rfl]
    simp only [hge, hy, show (0 : Int64).toInt = 0 from rfl]
    by_cases h3 : c < 0
    · rw [if_neg (by omega), if_pos h3]
    · rw [if_pos (by omega), if_neg h3, Option.bind_some, C_hasCellsL hC hk hn he2 hy h1 h2, Option.bind_some]
      simp only [bz_0]
      by_cases h4 : 0 ≤ x.toInt ∧ x.toInt + c ≤ n
      · rw [if_neg (by omega), if_pos h4]
      · rw [if_pos (by omega), if_neg h4]
  · rw [if_neg h, if_neg h]
theorem C_takingL_e {k : Nat} {ln x : Int32} {y : Int64} (hC : CS S) (hk : k < 4) (he : m_I S (43 + 2 * k) 0 = -1) : fX7_faultOfTaking S (43 + 2 * k) ln x y = some 1 := by
  unfold fX7_faultOfTaking bX7_faultOfTaking_0 bX7_faultOfTaking_17 bX7_faultOfTaking_48
  rw [cIssh hC k hk, Option.bind_some, C_isEmpty_0 hC hk he, Option.bind_some, if_neg (by decide), Option.bind_some, Option.bind_some, if_neg (by decide)]
/-- Arrays.copyOfRange: 15 cells into a new row -/
theorem C_copyRange {a i : Nat} (ha : m_at S a 12) (hL : m_L S a = 60) (hb : i + 15 ≤ 60) : ∃ S', fJ7_copyOfRange_feecc S a (nI i) (nI i + 15) = some (m_n S + 1, S') ∧ m_at S' (m_n S + 1) 12 ∧ m_L S' (m_n S + 1) = 15 ∧ (∀ x, x < 15 → m_I S' (m_n S + 1) x = m_I S a (i + x)) ∧ m_n S' = m_n S + 1 ∧ FrC S S' [] [] [] := by
  have e15 : nI i + 15 = nI (i + 15) := nI_add i 15
  have hln : o_ln S a 12 = some (nI 60) := by rw [at_ln ha, hL]
  have key : ∃ S', fJ7_copyOfRangeInt_feecc S a (nI i) (nI (i + 15)) = some (m_n S + 1, S') ∧ m_at S' (m_n S + 1) 12 ∧ m_L S' (m_n S + 1) = 15 ∧ (∀ x, x < 15 → m_I S' (m_n S + 1) x = m_I S a (i + x)) ∧ m_n S' = m_n S + 1 ∧ FrC S S' [] [] [] := by
    have f1 : FrC S (m_new S 12 15) [] [] [] := FrC.new (Nat.lt_of_lt_of_le ha.1 ha.2.1)
    have a1 : m_at (m_new S 12 15) a 12 := ha.fr f1
    have a2 : m_L (m_new S 12 15) a = 60 := by rw [(f1.2.1 a ha.1 ha.2.1).2.1, hL]
    have a4 := ha.2.2
    have hne : a ≠ 1 ∨ a = 1 := by omega
    have a3 : m_I (m_new S 12 15) a = m_I S a := by
      show va_up (m_I S) (S.1 + 1) _ a = _
      rw [up_n]
      have := ha.2.1
      show a ≠ S.1 + 1
      have h2 : m_n S = S.1 := rfl
      omega
    have b1 : m_at (m_new S 12 15) (m_n S + 1) 12 := ⟨by omega, Nat.le_refl _, up_s⟩
    have b2 : m_L (m_new S 12 15) (m_n S + 1) = 15 := up_s
    have hsub : nI (i + 15) - nI i = nI 15 := by rw [← nI_add, Int32.add_comm, Int32.add_sub_cancel]
    have hsub2 : nI 60 - nI i = nI (60 - i) := by
      have : nI 60 = nI (60 - i) + nI i := by rw [nI_add]; congr 1; omega
      rw [this, Int32.add_sub_cancel]
    have hle : o_le 15 (nI 15) = some 15 := by decide
    have hck : fJ7_checkLength_df160 (nI i) (nI (i + 15)) = some () := by
      unfold fJ7_checkLength_df160 bJ7_checkLength_df160_0
      rw [if_pos (nI_le (by omega) (by omega))]
    have hmn : fJ9_min_7cf53 (nI (60 - i)) (nI 15) = some (nI 15) := by
      by_cases hq : 60 - i = 15
      · rw [hq, min_self]
      · rw [C_min]
        unfold mn
        rw [if_neg]
        rw [i_lt, nI_toInt (by omega), nI_toInt (by omega)]
        omega
    have hln2 : o_ln (m_new S 12 15) a 12 = some (nI 60) := by rw [at_ln a1, a2]
    unfold fJ7_copyOfRangeInt_feecc bJ7_copyOfRangeInt_feecc_0
    rw [hck, hsub]
    simp only [Option.bind_some, hle, hln2, hsub2, hmn]
    have q1 : o_cpy (m_new S 12 15) a (nI i) (m_n S + 1) 0 (nI 15) = some (m_sI (m_new S 12 15) (m_n S + 1) (fil (m_I (m_new S 12 15) (m_n S + 1)) 0 15 (fun m => m_I S a (i + m)))) := by
      have h00 : (0 : Int32).toNatClampNeg = 0 := rfl
      unfold o_cpy
      rw [if_pos ⟨⟨a1, b1⟩, ⟨nI_pos (by omega), by decide, nI_pos (by omega)⟩, by rw [nI_clamp (by omega), nI_clamp (by omega), a2]; omega, by rw [h00, nI_clamp (by omega), b2]; omega⟩]
      rw [nI_clamp (by omega), nI_clamp (by omega), h00, cpy_fil, a3]
    rw [q1]
    simp only [Option.bind_some]
    refine ⟨_, rfl, b1, b2, fun x hx => ?_, rfl, ?_⟩
    · rw [mI_same]
      have := fil_i (f := m_I (m_new S 12 15) (m_n S + 1)) (lo := 0) (n := 15) (i := x) (g := fun m => m_I S a (i + m)) hx
      rw [Nat.zero_add] at this
      exact this
    · refine FrC.bigI (b := m_n S + 1) ((f1.mono (by simp) (by simp) (by simp)).tr (FrC.sI ?_ (by simp))) (by omega)
      have h1 := ha.1
      have h2 := ha.2.1
      omega
  obtain ⟨S', k1, k2⟩ := key
  refine ⟨S', ?_, k2⟩
  unfold fJ7_copyOfRange_feecc bJ7_copyOfRange_feecc_0 bJ7_copyOfRange_feecc_10
  rw [e15, k1]
  by_cases h0 : nI i = 0
  · rw [if_pos h0, hln, Option.bind_some]
    have hi0 : i = 0 := (nI_eq (b := 0) (by omega) (by omega)).mp h0
    by_cases h1 : nI (i + 15) = nI 60
    · have := (nI_eq (a := i + 15) (b := 60) (by omega) (by omega)).mp h1; omega
    · rw [if_neg h1]; rfl
  · rw [if_neg h0]; rfl
end TK
