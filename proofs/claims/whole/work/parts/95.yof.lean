/-! yOf, what front tells but its partner -/
section YO
variable {S S' : MS} {I I' : Nat → Nat → Int32} {J : Nat → Nat → Int64} {np nw ep ew la lb na nb ea eb : Nat} {ps ws fs0 fs1 : Nat → Nat}
theorem R_noFront {d n : Nat} (hd : d < 2) (hn : n ≤ 5) (h : I 21 d = nI n) (x : Int32) : fX10_noFront (mkR I J) 1 (nI d) x = some (bz (¬ (0 ≤ x.toInt ∧ x.toInt < n))) := by
  unfold fX10_noFront bX10_noFront_0 bX10_noFront_23
  simp only [rP28, rL21 rfl hd, h, Option.bind_some]
  rw [R_in, i_l, l_n1 (by omega), show (0 : Int64).toInt = 0 from rfl]
  simp only [Option.bind_some, bz_0]
  by_cases h : 0 ≤ x.toInt ∧ x.toInt < n
  · rw [if_neg (by omega), bz_f (by omega)]; rfl
  · rw [if_pos (by omega), bz_t h]; rfl
/-- the fronts of a day -/
theorem i_fr.day (h : i_fr S I la lb na nb ea eb fs0 fs1) (hC : CS S) {d : Nat} (hd : d < 2) : ∃ l n e fs, fX9_frontsOf S 1 (nI d) = some l ∧ Frs S I d n l e fs := by
  obtain ⟨⟨pa, pb⟩, -, h0, h1⟩ := h
  match d, hd with
  | 0, _ => exact ⟨la, na, ea, fs0, C_fronts (d := 0) hC (by omega) (fun _ => pa) (fun z => by omega), h0⟩
  | 1, _ => exact ⟨lb, nb, eb, fs1, C_fronts (d := 1) hC (by omega) (fun z => by omega) (fun _ => pb), h1⟩
theorem yOf_ok (hC : CS S) (hf : i_fr S I la lb na nb ea eb fs0 fs1) (x1 x2 x3 : Int32) : ∃ r, fX9_yOf S 1 x1 x2 x3 = some r ∧ fX10_yOf (mkR I J) 1 x1 x2 x3 = some r := by
  unfold fX9_yOf bX9_yOf_0 fX10_yOf bX10_yOf_0 bX10_yOf_52
  by_cases h1 : 0 ≤ x1.toInt ∧ x1.toInt < 2
  · rw [C_below_t (n := 2) rfl h1, R_in_t (a' := 0) (b' := 1) rfl rfl (by omega)]
    obtain ⟨d, hd, rfl⟩ := i_nI (n := 2) h1.1 h1.2
    obtain ⟨l, n, e, fs, q1, q2, q3, q4, q5⟩ := hf.day hC hd
    simp only [Option.bind_some, e10, if_false, cIs1 hC, rIs, q1, at_is q4.1.1, L_size q4, C_isBelow, nI_toInt (show n < 2 ^ 31 by omega), R_noFront (J := J) hd q2 q3]
    by_cases h2 : 0 ≤ x2.toInt ∧ x2.toInt < n
    · have z1 := bz_t h2
      have z0 := bz_f (fun q => q h2 : ¬ ¬ (0 ≤ x2.toInt ∧ x2.toInt < n))
      obtain ⟨f, hfn, rfl⟩ := i_nI h2.1 h2.2
      obtain ⟨q, -, c1, c2, c3, c4, ⟨-, c6, c7, -⟩, a, b, hab, hb, d1, d2, d3⟩ := q5 f hfn
      have e1 : (5 : Int32) * nI d + nI f = nI (5 * d + f) := n5i d f
      simp only [z1, z0, e10, if_false, if_true, L_get q4 hfn, at_is c1, at_gI c1, c6, c7, e1, rP30, rP31, rP33, rL23 rfl (show 5 * d + f < 10 by omega), rL24 rfl (show 5 * d + f < 10 by omega), d1, d2, C_isWithin, R_in, i_l, nI_toInt (show a < 2 ^ 31 by omega), nI_toInt (show b < 2 ^ 31 by omega), Option.bind_some]
      by_cases h3 : (a : Int) ≤ x3.toInt ∧ x3.toInt ≤ b
      · obtain ⟨x, hx, rfl⟩ := i_nI (x := x3) (n := 12) (by omega) (by omega)
        rw [nI_toInt (by omega)] at h3
        have e2 : (12 : Int32) * nI (5 * d + f) + nI x = nI (12 * (5 * d + f) + x) := by rw [show (12 : Int32) = nI 12 from rfl, nI_mul, nI_add]
        have h3' : (a : Int) ≤ (nI x).toInt ∧ (nI x).toInt ≤ b := by rw [nI_toInt (by omega)]; exact h3
        obtain ⟨y1, -⟩ := d3 x (by omega) (by omega)
        simp only [bz_t h3', e10, if_false, at_gP c1 c2, at_ld c3 c4 (show 12 < 2 ^ 31 by decide) (show nI x = nI x from rfl) hx, y1, e2, rL26 rfl (show 12 * (5 * d + f) + x < 120 by omega), Option.bind_some]
        exact ⟨_, rfl, rfl⟩
      · simp only [bz_f h3, if_true]
        exact ⟨_, rfl, rfl⟩
    · simp only [bz_f h2, bz_t h2, e10, if_false, if_true]
      exact ⟨_, rfl, rfl⟩
  · rw [C_below_f (n := 2) rfl h1, R_in_f (a' := 0) (b' := 1) rfl rfl (by omega)]
    exact ⟨_, rfl, rfl⟩
def ckp (I : Nat → Nat → Int32) : Nat → Nat
  | 0 => 0
  | k + 1 => ckp I k + (if I 31 k = 0 then 0 else 1)
theorem C_countKept (hC : CS S) (h : ∀ k, k < 4 → m_I S 40 k = I 31 k) : fX9_countKept S 1 = some (nI (ckp I 4)) := by
  unfold fX9_countKept bX9_countKept_0
  rw [fin_l]
  refine lim_it2 (step := sX9_countKept S) (st := fun j => (1, nI (ckp I j), nI j)) 4 (fun j hj => ?_) ?_
  · show bX9_countKept_4 S 1 (nI (ckp I j)) (nI j) = _
    unfold bX9_countKept_4 bX9_countKept_21
    have hs : ckp I (j + 1) = ckp I j + (if I 31 j = 0 then 0 else 1) := rfl
    rw [if_neg (show ¬ (4 : Int32) ≤ nI j from nI_ge (b := 4) hj (by omega)), cP1_8 hC, Option.bind_some, cL40 hC rfl hj, Option.bind_some, h j hj, Option.bind_some, Option.bind_some, nI_1, hs, nI_1, Option.bind_some]
    by_cases hk : I 31 j = 0
    · rw [if_pos hk, if_pos hk]
      rfl
    · rw [if_neg hk, if_neg hk]
  · show bX9_countKept_4 S 1 (nI (ckp I 4)) (nI 4) = _
    unfold bX9_countKept_4
    rw [if_pos (by decide)]
theorem R_countKept : lim sX10_many (1, 0, 0, mkR I J) = some (nI (ckp I 4), mkR I J) := by
  refine lim_it2 (step := sX10_many) (st := fun j => (1, nI (ckp I j), nI j, mkR I J)) 4 (fun j hj => ?_) ?_
  · show bX10_many_102 (mkR I J) 1 (nI (ckp I j)) (nI j) = _
    unfold bX10_many_102 bX10_many_122
    have hs : ckp I (j + 1) = ckp I j + (if I 31 j = 0 then 0 else 1) := rfl
    rw [if_neg (show ¬ (4 : Int32) ≤ nI j from nI_ge (b := 4) hj (by omega)), rP39, Option.bind_some, rL31 rfl hj, Option.bind_some, Option.bind_some, Option.bind_some, Option.bind_some, Option.bind_some, nI_1, hs, nI_1]
    by_cases hk : I 31 j = 0
    · rw [if_pos hk, if_pos hk, show (0 : Int32) = nI 0 from rfl, nI_add]
    · rw [if_neg hk, if_neg hk]
  · show bX10_many_102 (mkR I J) 1 (nI (ckp I 4)) (nI 4) = _
    unfold bX10_many_102
    rw [if_pos (by decide)]
theorem many_ok (h : Cor S I np nw ep ew ps ws) (hf : i_fr S I la lb na nb ea eb fs0 fs1) (hk : i_ke S I) {nf ef : Nat} {fs : Nat → Nat} (hnf : nf ≤ 8) (hL : Lst S 41 nf 3 ef fs) (h44 : I 1 44 = nI nf) (x1 : Int32) : OkA S I J np nw ep ew ps ws (fX9_many S 1 x1) (fX10_many (mkR I J) 1 x1) := by
  obtain ⟨I', r1, r2, r3, r4⟩ := R_laid (J := J) h
  have h' := h.R r2 r3 r4
  obtain ⟨hC, hP, hW, hD⟩ := h'.1
  obtain ⟨⟨pa, pb⟩, hll, hfa, hfb⟩ := hf
  have i21 : I' 21 = I 21 := r2.1 21 (by decide) (by simp)
  have i31 : I' 31 = I 31 := r2.1 31 (by decide) (by simp)
  have i44 : I' 1 44 = nI nf := by rw [r2.2 44 (by simp)]; exact h44
  have a1 : m_at S 1 10 := hC.at 1 (by decide) (by decide)
  have fn : ∀ x : Int32, OkA S I J np nw ep ew ps ws (some x) (some (x, mkR I' J)) := fun x => ⟨x, I', rfl, rfl, h', r2⟩
  have hlt : mk (inV I' nw) np < 4096 := Nat.lt_of_lt_of_le (mk_lt _ np) (by
    have : 2 ^ np ≤ 2 ^ 12 := Nat.pow_le_pow_right (by decide) hP.1
    exact this)
  have ck : fX9_countKept S 1 = some (nI (ckp I' 4)) := C_countKept hC (fun k hk4 => by rw [i31]; exact (hk k hk4).1)
  have l0 : o_ld (mkR I' J) 21 12 0 = some (nI na) := by rw [rL21 (show (0 : Int32) = nI 0 from rfl) (by omega), i21, hfa.2.1]
  have l1 : o_ld (mkR I' J) 21 12 1 = some (nI nb) := by rw [rL21 (show (1 : Int32) = nI 1 from rfl) (by omega), i21, hfb.2.1]
  unfold fX9_many bX9_many_0 fX10_many bX10_many_0
  simp only [cP1_0 hC, cP1_9 hC, cP2_0 hC, cP2_1 hC, cIs1 hC, at_is hP.2.2.1.1.1, L_size hP.2.2.1, at_is hW.2.2.1.1.1, L_size hW.2.2.1, cI2 hC, hD.2.1.1, hD.1.1, hD.1.2, C_bits _ hlt, pop_mk hP.1, at_gP a1 pa, at_gP a1 pb, at_is hfa.2.2.1.1.1, L_size hfa.2.2.1, at_is hfb.2.2.1.1.1, L_size hfb.2.2.1, at_is hL.1.1, L_size hL, ck, rIs, r1, rI, hP.2.1, hW.2.1, r4.1, rP28, l0, l1, i44, Option.bind_some]
  by_cases e0 : x1 = 0
  · rw [if_pos e0, if_pos e0, fin_r]; exact fn _
  rw [if_neg e0, if_neg e0]
  by_cases e1 : x1 = 1
  · rw [if_pos e1, if_pos e1, fin_r]; exact fn _
  rw [if_neg e1, if_neg e1]
  by_cases e2 : x1 = 2
  · rw [if_pos e2, if_pos e2, fin_r]; exact fn _
  rw [if_neg e2, if_neg e2]
  by_cases e3 : x1 = 3
  · rw [if_pos e3, if_pos e3, fin_r]; exact fn _
  rw [if_neg e3, if_neg e3]
  by_cases e4 : x1 = 4
  · rw [if_pos e4, if_pos e4, fin_r]; exact fn _
  rw [if_neg e4, if_neg e4]
  by_cases e5 : x1 = 5
  · rw [if_pos e5, if_pos e5, fin_r]; exact fn _
  rw [if_neg e5, if_neg e5]
  by_cases e6 : x1 = 6
  · rw [if_pos e6, if_pos e6, fin_r]; exact fn _
  rw [if_neg e6, if_neg e6]
  by_cases e7 : x1 = 7
  · rw [if_pos e7, if_pos e7, fin_r]; exact fn _
  rw [if_neg e7, if_neg e7]
  by_cases e8 : x1 = 8
  · rw [if_pos e8, if_pos e8, fin_l, R_countKept]; exact fn _
  rw [if_neg e8, if_neg e8, fin_r]
  exact fn _
end YO
