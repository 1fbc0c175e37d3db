/-! forecasts: comma and digit, both sides -/
section FP
variable {S S' : MS} {I I' : Nat → Nat → Int32} {J : Nat → Nat → Int64} {c q1 q2 q3 m w : Nat}
theorem nw_eq {w a : Nat} (hw : w ≤ 7) (ha : a ≤ 9) : (nI w = nI a) = (w = a) := propext (nI_eq (by omega) (by omega))
theorem tl_2 (hw : 2 ≤ w) (hw7 : w ≤ 7) (x x1 x2 x4 : Int32) : tl (mkR I J) x1 x2 (nI w) x4 x = bX10_read_127 (mkR I J) 1 x1 x2 (nI w) x4 x (bz (48 ≤ x.toInt ∧ x.toInt ≤ 57)) := by
  have z0 : ¬ nI w = 0 := fun q => by have := (nI_eq (a := w) (b := 0) (by omega) (by omega)).mp q; omega
  have z1 : ¬ nI w = 1 := fun q => by have := (nI_eq (a := w) (b := 1) (by omega) (by omega)).mp q; omega
  unfold tl bX10_read_82
  rw [R_inI x (show (48 : Int64).toInt = 48 from rfl) (show (57 : Int64).toInt = 57 from rfl), Option.bind_some, if_neg z0, if_neg z1]
theorem rd176 (hw : 2 ≤ w) (hw7 : w ≤ 7) (hm : m ≤ 4) (h49 : I 1 49 = nI m) (x x1 x2 x4 : Int32) (hf : ¬ (x = 44 ∧ 3 ≤ w ∧ m < 4)) : bX10_read_176 (mkR I J) 1 x1 x2 (nI w) x4 x = some (.inr (x4, mkR I J)) := by
  unfold bX10_read_176 bX10_read_211
  by_cases h2 : nI w ≤ 2
  · rw [if_pos h2]
  · rw [if_neg h2]
    have h3 : 3 ≤ w := by
      rw [i_le, nI_toInt (by omega)] at h2
      have : ¬ (w : Int) ≤ 2 := h2
      omega
    by_cases h44 : x = 44
    · have h4 : m = 4 := by
        rcases Nat.lt_or_ge m 4 with q | q
        · exact absurd ⟨h44, h3, q⟩ hf
        · omega
      rw [if_pos h44, rI, h49, Option.bind_some, if_pos (show (4 : Int32) ≤ nI m by rw [h4]; decide)]
    · rw [if_neg h44]
theorem tk_com (hw : 2 ≤ w) (h : Rm S I c q1 q2 q3 m w) : Tk S I J c q1 q2 q3 w 44 := by
  obtain ⟨g, ⟨hm, hw7⟩, h0, h4, h5, h49, hj⟩ := h
  have g' := g
  obtain ⟨⟨b0, b1, b2', b3⟩, ⟨n1, n2, n3, n12, n13, n23⟩, ac, ⟨p1, p2, p3⟩, ⟨a1, l1⟩, ⟨a2, l2⟩, ⟨a3, l3⟩⟩ := g
  unfold Tk
  have v4 : m_I S c 4 = nI 2 ∧ w = 2 ∨ m_I S c 4 = nI 3 ∧ 3 ≤ w := by
    by_cases q : w < 3
    · rw [if_pos q] at h4; exact .inl ⟨by rw [h4, show w = 2 by omega], by omega⟩
    · rw [if_neg q] at h4; exact .inr ⟨h4, by omega⟩
  have to : fX2_takes S c 44 = b2 (fX2_takesComma S c) fun v51 S51 => bX2_takes_62 S51 v51 := by
    unfold fX2_takes bX2_takes_0
    rw [at_gI ac, Option.bind_some]
    rcases v4 with ⟨q, -⟩ | ⟨q, -⟩
    · rw [q, if_neg (by decide), if_neg (by decide), if_pos rfl, at_is ac, Option.bind_some]
    · rw [q, if_neg (by decide), if_neg (by decide), if_pos rfl, at_is ac, Option.bind_some]
  have r127 : ∀ x1 x2 x4, tl (mkR I J) x1 x2 (nI w) x4 44 = bX10_read_176 (mkR I J) 1 x1 x2 (nI w) x4 44 := fun x1 x2 x4 => by
    rw [tl_2 hw hw7, bz_f (by decide)]
    unfold bX10_read_127
    rw [if_neg (show ¬ nI w < 2 by rw [i_lt, nI_toInt (by omega)]; show ¬ (w : Int) < 2; omega)]
    by_cases q : (7 : Int32) ≤ nI w
    · rw [if_pos q]
    · rw [if_neg q, if_pos rfl]
  rw [to]
  simp only [r127]
  unfold fX2_takesComma bX2_takesComma_0 bX2_takesComma_16 bX2_takes_62
  rw [at_gI ac, Option.bind_some]
  rcases v4 with ⟨q, hw2⟩ | ⟨q, hw3⟩
  · left
    refine ⟨by rw [q, if_neg (by decide), b2_s, zb0, Option.bind_some], fun x1 x2 x4 => rd176 hw hw7 hm h49 _ _ _ _ (by omega)⟩
  · have e0 : m_I S c 0 = nI (m + 1) := by rw [h0, if_neg (by omega)]
    rw [q, if_pos (show nI 3 = 3 from rfl), at_gI ac, Option.bind_some, e0]
    by_cases hm4 : m < 4
    · right
      rw [if_pos (show nI (m + 1) < 5 by rw [i_lt, nI_toInt (by omega)]; show ((m + 1 : Nat) : Int) < 5; omega), at_sI ac, Option.bind_some, b2_s, zb1, Option.bind_some]
      refine ⟨_, va_up I 1 (upd (I 1) 49 (nI (m + 1))), m + 1, 0, rfl, fun x1 x2 x4 => ?_, ⟨g', ⟨by omega, by omega⟩, ?_, ?_, fun q => by omega, ?_, fun j hj5 => ?_⟩, FrC.sI (by omega) (by simp), FrR.up1 (by simp)⟩
      · unfold bX10_read_176 bX10_read_214
        rw [if_neg (show ¬ nI w ≤ 2 by rw [i_le, nI_toInt (by omega)]; show ¬ (w : Int) ≤ 2; omega), if_pos rfl, rI, h49, Option.bind_some, if_neg (show ¬ (4 : Int32) ≤ nI m from nI_ge (b := 4) hm4 (by omega)), Option.bind_some, nI_1, rSI, Option.bind_some, Option.bind_some]
        rfl
      · rw [mI_same, upd_n (by decide)]; exact e0
      · rw [mI_same, upd_s]; rfl
      · rw [up_s, upd_s]
      · obtain ⟨j1, j2, j3, j4⟩ := hj j hj5
        rw [mI_ne (Ne.symm n1), mI_ne (Ne.symm n2), mI_ne (Ne.symm n3), up_n (show (37 : Nat) ≠ 1 by decide), up_n (show (38 : Nat) ≠ 1 by decide), up_n (show (39 : Nat) ≠ 1 by decide)]
        exact ⟨fun q => j1 (by omega), fun q => j2 (by omega), fun q => j3 (by omega), fun q => j4 (by omega)⟩
    · left
      refine ⟨by rw [if_neg (show ¬ nI (m + 1) < 5 by rw [i_lt, nI_toInt (by omega)]; show ¬ ((m + 1 : Nat) : Int) < 5; omega), b2_s, zb0, Option.bind_some], fun x1 x2 x4 => rd176 hw hw7 hm h49 _ _ _ _ (by omega)⟩
theorem tk39 (g : fcG S c q1 q2 q3) (hm : m ≤ 4) (e0 : m_I S c 0 = nI (m + 1)) (x : Int32) : bX2_takesDigit_39 S c x = some (1, m_sI (m_sI S q3 (upd (m_I S q3) m (10 * m_I S q3 m + x - 48))) c (upd (upd (m_I S c) 5 (m_I S c 5 + 1)) 4 3)) := by
  obtain ⟨⟨b0, b1, b2', b3⟩, ⟨n1, n2, n3, n12, n13, n23⟩, ac, ⟨p1, p2, p3⟩, ⟨a1, l1⟩, ⟨a2, l2⟩, ⟨a3, l3⟩⟩ := g
  have ac' : ∀ f, m_at (m_sI S q3 f) c 3 := fun f => ac
  have ac'' : ∀ f f', m_at (m_sI (m_sI S q3 f) c f') c 3 := fun f f' => ac
  unfold bX2_takesDigit_39
  rw [at_gP ac p3, Option.bind_some, at_gI ac, Option.bind_some, Option.bind_some, Option.bind_some, e0, nI_pred, at_ld a3 l3 (by decide) rfl (by omega), Option.bind_some, at_st a3 l3 (by decide) rfl (by omega), Option.bind_some, at_gI (ac' _), Option.bind_some, mI_ne n3, at_sI (ac' _), Option.bind_some, at_sI (ac'' _ _), Option.bind_some, mI_same, sI_sI, mI_ne n3]
theorem tk_dig (hw : 2 ≤ w) (h : Rm S I c q1 q2 q3 m w) {x : Int32} (hx : x ≠ 44) : Tk S I J c q1 q2 q3 w x := by
  obtain ⟨g, ⟨hm, hw7⟩, h0, h4, h5, h49, hj⟩ := h
  have g' := g
  obtain ⟨⟨b0, b1, b2', b3⟩, ⟨n1, n2, n3, n12, n13, n23⟩, ac, ⟨p1, p2, p3⟩, ⟨a1, l1⟩, ⟨a2, l2⟩, ⟨a3, l3⟩⟩ := g
  have e5 : m_I S c 5 = nI (w - 2) := h5 (by omega)
  have v4 : m_I S c 4 = nI 2 ∧ w = 2 ∨ m_I S c 4 = nI 3 ∧ 3 ≤ w := by
    by_cases q : w < 3
    · rw [if_pos q] at h4; exact .inl ⟨by rw [h4, show w = 2 by omega], by omega⟩
    · rw [if_neg q] at h4; exact .inr ⟨h4, by omega⟩
  unfold Tk
  have to : fX2_takes S c x = b2 (fX2_takesDigit S c x) fun v51 S51 => bX2_takes_62 S51 v51 := by
    unfold fX2_takes bX2_takes_0
    rw [at_gI ac, Option.bind_some]
    rcases v4 with ⟨q, -⟩ | ⟨q, -⟩
    · rw [q, if_neg (by decide), if_neg (by decide), if_neg hx, at_is ac, Option.bind_some]
    · rw [q, if_neg (by decide), if_neg (by decide), if_neg hx, at_is ac, Option.bind_some]
  rw [to]
  simp only [tl_2 hw hw7]
  unfold fX2_takesDigit bX2_takesDigit_0 bX2_takesDigit_19
  have e48 : (48 : Int32).toInt = 48 := rfl
  have e57 : (57 : Int32).toInt = 57 := rfl
  rw [C_isWithin, e48, e57]
  have w2 : ¬ nI w < 2 := by rw [i_lt, nI_toInt (by omega)]; show ¬ (w : Int) < 2; omega
  by_cases hd : 48 ≤ x.toInt ∧ x.toInt ≤ 57
  · rw [bz_t hd, Option.bind_some, if_neg (by decide), at_gI ac, Option.bind_some, e5]
    by_cases h7 : w < 7
    · right
      rw [if_pos (show nI (w - 2) < 5 by rw [i_lt, nI_toInt (by omega)]; show ((w - 2 : Nat) : Int) < 5; omega)]
      have key : ∀ T, T = S ∧ 3 ≤ w ∨ T = m_sI S c (upd (m_I S c) 0 (nI (m + 1))) ∧ w = 2 → bX2_takesDigit_39 T c x = some (1, m_sI (m_sI T q3 (upd (m_I S q3) m (10 * I 39 m + x - 48))) c (upd (upd (m_I T c) 5 (nI (w - 1))) 4 3)) ∧ Rm (m_sI (m_sI T q3 (upd (m_I S q3) m (10 * I 39 m + x - 48))) c (upd (upd (m_I T c) 5 (nI (w - 1))) 4 3)) (va_up I 39 (upd (I 39) m (10 * I 39 m + x - 48))) c q1 q2 q3 m (w + 1) ∧ FrC S (m_sI (m_sI T q3 (upd (m_I S q3) m (10 * I 39 m + x - 48))) c (upd (upd (m_I T c) 5 (nI (w - 1))) 4 3)) [c, q1, q2, q3] [] [] := fun T hT => by
        have gT : fcG T c q1 q2 q3 := by rcases hT with ⟨q, -⟩ | ⟨q, -⟩ <;> rw [q] <;> exact g'
        have t0 : m_I T c 0 = nI (m + 1) := by
          rcases hT with ⟨q, q'⟩ | ⟨q, -⟩
          · rw [q, h0, if_neg (by omega)]
          · rw [q, mI_same, upd_s]
        have t5 : m_I T c 5 = nI (w - 2) := by
          rcases hT with ⟨q, q'⟩ | ⟨q, -⟩
          · rw [q, e5]
          · rw [q, mI_same, upd_n (by decide), e5]
        have tq : ∀ b, b ≠ c → m_I T b = m_I S b := fun b hb => by
          rcases hT with ⟨q, q'⟩ | ⟨q, -⟩
          · rw [q]
          · rw [q, mI_ne hb]
        have fT : FrC S T [c, q1, q2, q3] [] [] := by
          rcases hT with ⟨q, q'⟩ | ⟨q, -⟩
          · rw [q]; exact FrC.rf
          · rw [q]; exact FrC.sI (by omega) (by simp)
        have q3m : m_I T q3 m = I 39 m := by
          rw [tq q3 (Ne.symm n3)]
          exact (hj m (by omega)).2.2.1 (by omega)
        refine ⟨?_, ⟨gT, ⟨hm, by omega⟩, ?_, ?_, fun _ => ?_, ?_, fun j hj5 => ?_⟩, fT.tr ((FrC.sI (by omega) (by simp)).tr (FrC.sI (by omega) (by simp)))⟩
        · rw [tk39 gT hm t0 x, q3m, t5, tq q3 (Ne.symm n3), nI_1, show w - 2 + 1 = w - 1 by omega]
        · rw [mI_same, upd_n (by decide), upd_n (by decide), t0, if_neg (by omega)]
        · rw [mI_same, upd_s, if_neg (by omega)]; rfl
        · rw [mI_same, upd_n (by decide), upd_s, show w + 1 - 2 = w - 1 by omega]
        · rw [up_n (by decide)]; exact h49
        · obtain ⟨j1, j2, j3, j4⟩ := hj j hj5
          rw [mI_ne (Ne.symm n1), mI_ne n13, mI_ne (Ne.symm n2), mI_ne n23, mI_ne (Ne.symm n3), mI_same, tq q1 (Ne.symm n1), tq q2 (Ne.symm n2), up_n (show (37 : Nat) ≠ 39 by decide), up_n (show (38 : Nat) ≠ 39 by decide), up_s]
          refine ⟨fun q => j1 (by omega), fun q => j2 (by omega), fun q => ?_, fun q => ?_⟩
          · by_cases hjm : j = m
            · rw [hjm, upd_s, upd_s]
            · rw [upd_n hjm, upd_n hjm]; exact j3 (by omega)
          · rw [upd_n (by omega)]; exact j4 (by omega)
      have rr : ∀ x1 x2 x4, bX10_read_127 (mkR I J) 1 x1 x2 (nI w) x4 x 1 = some (.inl (1, x1, x2, nI (w + 1), x4 + 1, mkR (va_up I 39 (upd (I 39) m (10 * I 39 m + x - 48))) J)) := fun x1 x2 x4 => by
        unfold bX10_read_127 bX10_read_214
        rw [if_neg w2, if_neg (show ¬ (7 : Int32) ≤ nI w from nI_ge (b := 7) h7 (by omega)), if_neg (by decide), rP52, Option.bind_some, rI, h49, Option.bind_some, Option.bind_some, Option.bind_some, rL39 rfl (by omega), Option.bind_some, rS39 rfl (by omega), Option.bind_some, nI_1, Option.bind_some, Option.bind_some]
      have fR : FrR I (va_up I 39 (upd (I 39) m (10 * I 39 m + x - 48))) [37, 38, 39] [49] := FrR.up (by decide) (by simp)
      rw [at_gI ac, Option.bind_some]
      rcases v4 with ⟨q, hw2⟩ | ⟨q, hw3⟩
      · have e0 : m_I S c 0 = nI m := by rw [h0, if_pos (by omega)]
        obtain ⟨k1, k2, k3⟩ := key _ (.inr ⟨rfl, hw2⟩)
        refine ⟨_, _, m, w + 1, ?_, rr, k2, k3, fR⟩
        rw [q, if_pos (show nI 2 = 2 from rfl), at_gI ac, Option.bind_some, e0, nI_1, at_sI ac, Option.bind_some, k1, b2_s]
        rfl
      · obtain ⟨k1, k2, k3⟩ := key _ (.inl ⟨rfl, hw3⟩)
        refine ⟨_, _, m, w + 1, ?_, rr, k2, k3, fR⟩
        rw [q, if_neg (show ¬ nI 3 = 2 by decide), k1, b2_s]
        rfl
    · left
      have hw77 : w = 7 := by omega
      refine ⟨by rw [hw77, if_neg (by decide), b2_s]; rfl, fun x1 x2 x4 => ?_⟩
      unfold bX10_read_127
      rw [if_neg w2, if_pos (show (7 : Int32) ≤ nI w by rw [hw77]; decide)]
      exact rd176 hw hw7 hm h49 _ _ _ _ (fun q => hx q.1)
  · left
    refine ⟨by rw [bz_f hd, Option.bind_some, if_pos rfl, b2_s]; rfl, fun x1 x2 x4 => ?_⟩
    unfold bX10_read_127
    rw [if_neg w2, bz_f hd]
    by_cases q : (7 : Int32) ≤ nI w
    · rw [if_pos q]
      exact rd176 hw hw7 hm h49 _ _ _ _ (fun q => hx q.1)
    · rw [if_neg q, if_pos rfl]
      exact rd176 hw hw7 hm h49 _ _ _ _ (fun q => hx q.1)
theorem tk_any (h : Rm S I c q1 q2 q3 m w) (x : Int32) : Tk S I J c q1 q2 q3 w x := by
  by_cases h0 : w = 0
  · subst h0; exact tk_reg h x
  · by_cases h1 : w = 1
    · subst h1; exact tk_sgn h x
    · by_cases hx : x = 44
      · subst hx; exact tk_com (by omega) h
      · exact tk_dig (by omega) h hx
end FP
