/-! verified, the call -/
section VF
variable {S S' : MS} {I I' : Nat → Nat → Int32} {J : Nat → Nat → Int64} {np nw ep ew nf ef c i r f : Nat} {ps ws ff : Nat → Nat} {V : Nat → Int32} {z nn : Int32}
noncomputable def tb (I : Nat → Nat → Int32) (V : Nat → Int32) (f i : Nat) : Bool := @decide (snP V (I 34 (5 * f + i)).toNatClampNeg 144 ∧ gdP V (I 34 (5 * f + i)).toNatClampNeg (I 35 (5 * f + i)) (I 36 (5 * f + i)) 144) (Classical.propDecidable _)
theorem tb_fl : fl (snP V (I 34 (5 * f + i)).toNatClampNeg 144 ∧ gdP V (I 34 (5 * f + i)).toNatClampNeg (I 35 (5 * f + i)) (I 36 (5 * f + i)) 144) = if tb I V f i = true then 1 else 0 := by
  unfold tb
  by_cases h : (snP V (I 34 (5 * f + i)).toNatClampNeg 144 ∧ gdP V (I 34 (5 * f + i)).toNatClampNeg (I 35 (5 * f + i)) (I 36 (5 * f + i)) 144)
  · rw [fl_t h, if_pos ((@decide_eq_true_iff _ (Classical.propDecidable _)).mpr h)]
  · rw [fl_f h, if_neg (fun q => h ((@decide_eq_true_iff _ (Classical.propDecidable _)).mp q))]
theorem C_trueClauses (hC : CS S) (h : fcR S I c f) (hV : ∀ k, k < 144 → m_I S 11 k = V k) {n : Nat} (h33 : I 33 f = nI n) (hn : n ≤ 5) : fX2_trueClauses S c 11 = some (nI (mk (tb I V f) n)) := by
  obtain ⟨q1, q2, q3, n', g, hn', h0, h3, hj⟩ := h
  have hnn : n' = n := (nI_eq (by omega) (by omega)).mp (h3.symm.trans h33)
  subst hnn
  have ac := g.2.2.1
  unfold fX2_trueClauses bX2_trueClauses_0
  rw [fin_l]
  refine lim_it2 (step := sX2_trueClauses S) (st := fun j => (c, 11, nI (mk (tb I V f) j), nI j)) n' (fun j hjn => ?_) ?_
  · show bX2_trueClauses_4 S c 11 (nI (mk (tb I V f) j)) (nI j) = _
    obtain ⟨⟨k, hk, e1, e2⟩, e3, e4⟩ := hj j hjn
    have hc : (I 34 (5 * f + j)).toNatClampNeg = k := by rw [e2]; exact nI_clamp (by omega)
    have ht := C_isTrue hC g (show j < 5 by omega) hk e1 e3 e4 hV
    rw [← hc, tb_fl] at ht
    unfold bX2_trueClauses_4 bX2_trueClauses_27
    rw [at_gI ac, Option.bind_some, h0, if_neg (nI_ge hjn (by omega)), at_is ac, Option.bind_some, ht, Option.bind_some, nI_1, Option.bind_some, Option.bind_some]
    by_cases hb : tb I V f j = true
    · rw [if_pos hb, if_neg (by decide), sh1 j (by omega), nI_or, mk_or hb]
      rfl
    · rw [if_neg hb, if_pos rfl, mk_no (by simpa using hb)]
  · show bX2_trueClauses_4 S c 11 (nI (mk (tb I V f) n')) (nI n') = _
    unfold bX2_trueClauses_4
    rw [at_gI ac, Option.bind_some, h0, if_pos (nI_le (Nat.le_refl _) (by omega))]
theorem R_trueLoop (h : fcR S I c f) (hf : f < 8) (hV : ∀ k, k < 144 → I 17 k = V k) {n : Nat} (h33 : I 33 f = nI n) (hn : n ≤ 5) (x2 : Int32) : lim sX10_verified (1, nI f, x2, nI 0, nI 0, mkR I J) = some (if x2 = 0 then nI n else if x2 = 1 then nI (pop (mk (tb I V f) n) 12) else nI (mk (tb I V f) n), mkR I J) := by
  obtain ⟨q1, q2, q3, n', g, hn', h0, h3, hj⟩ := h
  have hnn : n' = n := (nI_eq (by omega) (by omega)).mp (h3.symm.trans h33)
  subst hnn
  have n5 : ∀ j, (5 : Int32) * nI f + nI j = nI (5 * f + j) := fun j => by rw [show (5 : Int32) = nI 5 from rfl, nI_mul, nI_add]
  refine lim_it2 (step := sX10_verified) (st := fun j => (1, nI f, x2, nI (mk (tb I V f) j), nI j, mkR I J)) n' (fun j hjn => ?_) ?_
  · show bX10_verified_42 (mkR I J) 1 (nI f) x2 (nI (mk (tb I V f) j)) (nI j) = _
    obtain ⟨⟨k, hk, e1, e2⟩, e3, e4⟩ := hj j hjn
    have hc : (I 34 (5 * f + j)).toNatClampNeg = k := by rw [e2]; exact nI_clamp (by omega)
    have ht := R_isTrue (J := J) (f5 := 5 * f + j) (by omega) hk e2 rfl rfl hV
    rw [← hc, tb_fl] at ht
    unfold bX10_verified_42 bX10_verified_75
    rw [rP45, Option.bind_some, rL33 rfl hf, h33, Option.bind_some, if_neg (nI_ge hjn (by omega)), rIs, Option.bind_some, n5, ht, Option.bind_some, nI_1, Option.bind_some, Option.bind_some, Option.bind_some, Option.bind_some]
    by_cases hb : tb I V f j = true
    · rw [if_pos hb, if_neg (by decide), sh1 j (by omega), nI_or, mk_or hb]
    · rw [if_neg hb, if_pos rfl, show (0 : Int32) = nI 0 from rfl, nI_or, mk_no (by simpa using hb), Nat.or_zero]
  · show bX10_verified_42 (mkR I J) 1 (nI f) x2 (nI (mk (tb I V f) n')) (nI n') = _
    unfold bX10_verified_42 bX10_verified_109
    rw [rP45, Option.bind_some, rL33 rfl hf, h33, Option.bind_some, if_pos (nI_le (Nat.le_refl _) (by omega)), R_count12, Option.bind_some, Option.bind_some]
    by_cases e0 : x2 = 0
    · rw [if_pos e0, if_pos e0, rL33 rfl hf, h33]
      rfl
    · rw [if_neg e0, if_neg e0]
      by_cases e1 : x2 = 1
      · rw [if_pos e1, if_pos e1]
      · rw [if_neg e1, if_neg e1]
theorem verified_ok (h : Cor S I np nw ep ew ps ws) (hf : i_fo S I nf ef ff) (x1 x2 : Int32) : OkC S I J np nw ep ew ps ws (fX9_verified S 1 x1 x2) (fX10_verified (mkR I J) 1 x1 x2) := by
  have hC := h.1.1
  have hf' := hf
  obtain ⟨hnf, h44, hL, hfc⟩ := hf
  have no : ∀ v : Int32, OkC S I J np nw ep ew ps ws (some (v, S)) (some (v, mkR I J)) := fun v => ⟨v, S, I, rfl, rfl, h, FrC.rf, FrR.rf⟩
  unfold fX9_verified bX9_verified_0 fX10_verified bX10_verified_0
  rw [cP1_9 hC, Option.bind_some, at_is hL.1.1, Option.bind_some, L_size hL, Option.bind_some, C_isBelow, rI, h44, Option.bind_some, Option.bind_some, Option.bind_some, show fX10_in x1.toInt64 0 ((nI nf).toInt64 - 1) = some (bz (0 ≤ x1.toInt ∧ x1.toInt ≤ (nf : Int) - 1)) from by rw [R_in, i_l, l_n1 (by omega)]; rfl, Option.bind_some, nI_toInt (show nf < 2 ^ 31 by omega)]
  by_cases h1 : 0 ≤ x1.toInt ∧ x1.toInt < nf
  · rw [bz_t h1, bz_t (show 0 ≤ x1.toInt ∧ x1.toInt ≤ (nf : Int) - 1 by omega), if_neg (by decide), if_neg (by decide)]
    obtain ⟨f, hfn, rfl⟩ := i_nI h1.1 h1.2
    have ha := (hL.2.2 f hfn).2
    rw [at_is hL.1.1, Option.bind_some, L_get hL hfn, Option.bind_some, at_is ha, Option.bind_some]
    obtain ⟨I2, r1, r2, r3, r4⟩ := R_laid (J := J) h
    have hcor2 := h.R r2 r3 r4
    obtain ⟨S', I', c1, r1', hc, f1, f2, v1, v2, -⟩ := h.both (J := J)
    have hI : I2 = I' := by
      have e := r1.symm.trans r1'
      have e2 := Option.some.inj e
      have e3 : (mkR I2 J).2.2.2.1 = (mkR I' J).2.2.2.1 := by rw [e2]
      exact e3
    subst hI
    have fr2 := (hfc f hfn).fr (I' := I2) (FrC.rf (S := S) (PI := []) (Q := []) (PL := [])) ⟨by simp, by simp⟩ (by rw [r2.1 33 (by decide) (by simp)]) (fun j _ => by rw [r2.1 34 (by decide) (by simp), r2.1 35 (by decide) (by simp), r2.1 36 (by decide) (by simp)]; exact ⟨rfl, rfl, rfl⟩)
    have fr3 := (hfc f hfn).fr (I' := I2) f1 ⟨by simp, by simp⟩ (by rw [r2.1 33 (by decide) (by simp)]) (fun j _ => by rw [r2.1 34 (by decide) (by simp), r2.1 35 (by decide) (by simp), r2.1 36 (by decide) (by simp)]; exact ⟨rfl, rfl, rfl⟩)
    obtain ⟨n, hn, h33, h0⟩ : ∃ n, n ≤ 5 ∧ I2 33 f = nI n ∧ m_I S (ff f) 0 = nI n := by
      obtain ⟨q1, q2, q3, n, g, hn, h0, h3, hj⟩ := fr2
      exact ⟨n, hn, h3, h0⟩
    have rl := R_trueLoop (J := J) (V := val I2 np nw) fr2 (show f < 8 by omega) v2 h33 hn x2
    have cl := C_trueClauses (V := val I2 np nw) hc.1.1 fr3 v1 h33 hn
    have a3 : m_at S' (ff f) 3 := ha.fr f1
    have hlt : mk (tb I2 (val I2 np nw) f) n < 4096 := Nat.lt_of_lt_of_le (mk_lt _ n) (by
      have : 2 ^ n ≤ 2 ^ 12 := Nat.pow_le_pow_right (by decide) (by omega)
      exact this)
    by_cases e0 : x2 = 0
    · rw [if_pos e0] at rl
      rw [if_pos e0, at_gI ha, Option.bind_some, h0, R_in_t (a' := 0) (b' := 2) rfl rfl (by rw [e0]; decide), Option.bind_some, if_neg (by decide), rIs, Option.bind_some, r1', Option.bind_some, fin_l, show lim sX10_verified (1, nI f, x2, 0, 0, mkR I2 J) = _ from rl]
      exact ⟨_, S, I2, rfl, rfl, hcor2, FrC.rf, r2⟩
    · rw [if_neg e0] at rl
      rw [if_neg e0]
      by_cases e1 : x2 = 1
      · rw [if_pos e1] at rl
        rw [if_pos e1, cIs1 hC, Option.bind_some, c1, b2_s, cP8_4 hc.1.1, Option.bind_some, at_is a3, Option.bind_some, cl, Option.bind_some, C_bits _ hlt, Option.bind_some, R_in_t (a' := 0) (b' := 2) rfl rfl (by rw [e1]; decide), Option.bind_some, if_neg (by decide), rIs, Option.bind_some, r1', Option.bind_some, fin_l, show lim sX10_verified (1, nI f, x2, 0, 0, mkR I2 J) = _ from rl]
        exact ⟨_, S', I2, rfl, rfl, hc, f1, f2⟩
      · rw [if_neg e1] at rl
        rw [if_neg e1]
        by_cases e2 : x2 = 2
        · rw [if_pos e2, cIs1 hC, Option.bind_some, c1, b2_s, cP8_4 hc.1.1, Option.bind_some, at_is a3, Option.bind_some, cl, Option.bind_some, R_in_t (a' := 0) (b' := 2) rfl rfl (by rw [e2]; decide), Option.bind_some, if_neg (by decide), rIs, Option.bind_some, r1', Option.bind_some, fin_l, show lim sX10_verified (1, nI f, x2, 0, 0, mkR I2 J) = _ from rl]
          exact ⟨_, S', I2, rfl, rfl, hc, f1, f2⟩
        · have hn2 : ¬ (0 ≤ x2.toInt ∧ x2.toInt ≤ 2) := fun q => by
            obtain ⟨k, hk, rfl⟩ := i_nI (x := x2) (n := 3) q.1 (by omega)
            match k, hk with
            | 0, _ => exact e0 rfl
            | 1, _ => exact e1 rfl
            | 2, _ => exact e2 rfl
          rw [if_neg e2, R_in_f (a' := 0) (b' := 2) rfl rfl hn2, Option.bind_some, if_pos rfl, fin_r]
          exact no _
  · rw [bz_f h1, bz_f (show ¬ (0 ≤ x1.toInt ∧ x1.toInt ≤ (nf : Int) - 1) by omega), if_pos rfl, if_pos rfl, fin_r]
    exact no _
end VF
