/-! value, steep, view -/
/-- what was told and the view, without the steepest -/
def rawN (I : Nat → Nat → Int32) : Nat → Nat → Int32 := fun r k => if 2 ≤ r ∧ r ≤ 13 then I r k else if r = 1 ∧ (k = 1 ∨ k = 8 ∨ k = 15 ∨ k = 16) then I 1 k else 0
theorem rawN_c {α : Type} {I I' : Nat → Nat → Int32} (f : (Nat → Nat → Int32) → α) (hf : ∀ I, f (rawN I) = f I) (h : rawN I' = rawN I) : f I' = f I := by rw [← hf I', h, hf I]
theorem rawN_fr {I I' : Nat → Nat → Int32} {P QR : List Nat} (h : FrR I I' P QR) (h1 : ∀ r ∈ P, 13 < r) (h2 : ∀ k ∈ QR, k ≠ 1 ∧ k ≠ 8 ∧ k ≠ 15 ∧ k ≠ 16) : rawN I' = rawN I := by
  funext r k
  unfold rawN
  by_cases hr : 2 ≤ r ∧ r ≤ 13
  · rw [if_pos hr, if_pos hr, h.1 r (by omega) (fun q => by have := h1 r q; omega)]
  · rw [if_neg hr, if_neg hr]
    by_cases hk : r = 1 ∧ (k = 1 ∨ k = 8 ∨ k = 15 ∨ k = 16)
    · rw [if_pos hk, if_pos hk, h.2 k (fun q => by have := h2 k q; omega)]
    · rw [if_neg hk, if_neg hk]
theorem lw_N (I : Nat → Nat → Int32) (p n : Nat) : lw (rawN I) p n = lw I p n := by
  induction n with
  | zero => rfl
  | succ n ih =>
    have ha : ask (rawN I) p n ↔ ask I p n := Iff.rfl
    by_cases h : ask I p n
    · rw [lw_t h, lw_t (ha.mpr h), ih]
      rfl
    · rw [lw_f h, lw_f (fun q => h (ha.mp q)), ih]
theorem Dig_N (I : Nat → Nat → Int32) (w g : Nat) : Dig (rawN I) w g = Dig I w g := rfl
theorem rf1_N (I : Nat → Nat → Int32) (w : Nat) : rf1 (rawN I) w = rf1 I w := by
  unfold rf1
  rw [Dig_N]
theorem rmy_N (I : Nat → Nat → Int32) (w : Nat) : rmy (rawN I) w = rmy I w := by
  unfold rmy
  rw [Dig_N]
theorem sw_N (I : Nat → Nat → Int32) (nw p : Nat) : sw (rawN I) nw p = sw I nw p := by
  unfold sw
  rw [lw_N]
  simp only [rmy_N]
theorem shn_N (I : Nat → Nat → Int32) (nw p : Nat) : shn (rawN I) nw p = shn I nw p := by
  unfold shn
  rw [sw_N]
  rfl
theorem inV_N (I : Nat → Nat → Int32) (nw : Nat) : inV (rawN I) nw = inV I nw := by
  funext p
  unfold inV
  rw [shn_N]
theorem sur_N (I : Nat → Nat → Int32) (nw : Nat) : sur (rawN I) nw = sur I nw := by
  funext p
  unfold sur
  rw [shn_N]
  simp only [rmy_N]
theorem slv_N (I : Nat → Nat → Int32) (nw : Nat) : slv (rawN I) nw = slv I nw := by
  funext p
  unfold slv
  rw [shn_N]
  simp only [rf1_N]
  rfl
section VW
variable {S S' : MS} {I I' : Nat → Nat → Int32} {J : Nat → Nat → Int64} {np nw ep ew : Nat} {ps ws : Nat → Nat}
theorem Dsk.rawN (h : Dsk S I np nw) (hr : rawN I' = rawN I) : Dsk S I' np nw := by
  have h15 : I' 1 15 = I 1 15 := rawN_c (fun I => I 1 15) (fun _ => rfl) hr
  have h16 : I' 1 16 = I 1 16 := rawN_c (fun I => I 1 16) (fun _ => rfl) hr
  have hin : inV I' nw = inV I nw := rawN_c (fun I => inV I nw) (fun I => inV_N I nw) hr
  have hsu : sur I' nw = sur I nw := rawN_c (fun I => sur I nw) (fun I => sur_N I nw) hr
  have hsl : slv I' nw = slv I nw := rawN_c (fun I => slv I nw) (fun I => slv_N I nw) hr
  have hsh : ∀ p, shn I' nw p = shn I nw p := fun p => rawN_c (fun I => shn I nw p) (fun I => shn_N I nw p) hr
  have hpl : ∀ p, plc I' p (I 1 15) = plc I p (I 1 15) := fun p => congrFun (rawN_c (fun I => plc I p) (fun _ => rfl) hr) (I 1 15)
  unfold Dsk
  rw [h15, h16, hin, hsu, hsl]
  refine ⟨h.1, h.2.1, fun p hp => ?_⟩
  rw [hsh, hpl]
  exact h.2.2 p hp
theorem value_ok (h : Cor S I np nw ep ew ps ws) (x1 x2 : Int32) : OkC S I J np nw ep ew ps ws (fX9_value S 1 x1 x2) (fX10_value (mkR I J) 1 x1 x2) := by
  unfold fX9_value bX9_value_0 fX10_value bX10_value_0
  simp only [C_isPlace, R_isPlace, cIs1 h.1.1, rIs, Option.bind_some]
  by_cases h1 : (0 ≤ x1.toInt ∧ x1.toInt ≤ 11) ∧ 0 ≤ x2.toInt ∧ x2.toInt ≤ 11
  · simp only [bPl_t h1, e10, if_false]
    obtain ⟨i, hi, rfl⟩ := i_nI (x := x1) (n := 12) h1.1.1 (by omega)
    obtain ⟨j, hj, rfl⟩ := i_nI (x := x2) (n := 12) h1.2.1 (by omega)
    have e : (12 : Int32) * nI j + nI i = nI (12 * j + i) := by rw [show (12 : Int32) = nI 12 from rfl, nI_mul, nI_add]
    obtain ⟨I', r1, r2, r3, r4⟩ := R_laid (J := J) h
    have h' := h.R r2 r3 r4
    obtain ⟨S', s1, s2, s3, s4, s5, s6⟩ := C_settled h'
    have hcor : Cor S' I' np nw ep ew ps ws := Cor.CR s2 s3 s4 s5 FrR.rf r3 r4
    simp only [s1, r1, b2_s, cP8_4 s2.1, e, cL11 s2.1 rfl (show 12 * j + i < 144 by omega), s3.2.2.2 _ (show 12 * j + i < 144 by omega), rP24, rL17 rfl (show 12 * j + i < 144 by omega), r4.2.2.2.2 _ (show 12 * j + i < 144 by omega), Option.bind_some]
    exact ⟨_, S', I', rfl, rfl, hcor, s6, r2⟩
  · have z : bPl x1 x2 = 0 := bz_f h1
    simp only [z, if_true]
    exact ⟨_, S, I, rfl, rfl, h, FrC.rf, FrR.rf⟩
theorem steep_ok (h : Cor S I np nw ep ew ps ws) (x1 : Int32) : ∃ (x : Int32) (S' : MS) (I' : Nat → Nat → Int32), fX9_steep S 1 x1 = some (x, S') ∧ fX10_steep (mkR I J) 1 x1 = some (x, mkR I' J) ∧ Cor S' I' np nw ep ew ps ws ∧ FrC S S' [8] [2] [] ∧ FrR I I' [] [17, 18] := by
  obtain ⟨hB, ⟨hc, h80⟩, hl⟩ := h
  have hC := hB.1
  unfold fX9_steep bX9_steep_0 fX10_steep bX10_steep_0
  have e500 : (500 : Int32).toInt = 500 := rfl
  have e1 : (1 : Int32).toInt = 1 := rfl
  rw [C_isWithin, e500, e1, R_inI x1 (a := 1) (b := 500) (a' := 1) (b' := 500) rfl rfl, Option.bind_some, Option.bind_some]
  by_cases h1 : 1 ≤ x1.toInt ∧ x1.toInt ≤ 500
  · rw [bz_t h1, if_neg (by decide), if_neg (by decide)]
    have hC1 : CS (m_sI S 8 (upd (m_I S 8) 0 x1)) := hC
    have hs : ∀ (K : Nat → Nat → Int32) (k : Nat) (v : Int32), o_sI (mkR K J) 1 11 k v = some (mkR (va_up K 1 (upd (K 1) k v)) J) := fun K k v => rSI k v
    simp only [cP1_1 hC, cI8 hC, cSI8 hC, cSI1 hC1, rI, hs, h80, Option.bind_some]
    have fC : FrC S (m_sI (m_sI S 8 (upd (m_I S 8) 0 x1)) 1 (upd (m_I (m_sI S 8 (upd (m_I S 8) 0 x1)) 1) 2 1)) [8] [2] [] := (FrC.sI (by decide) (by simp)).tr (FrC.sI1 (by simp))
    have fR : FrR I (va_up (va_up I 1 (upd (I 1) 17 x1)) 1 (upd (va_up I 1 (upd (I 1) 17 x1) 1) 18 0)) [] [17, 18] := (FrR.up1 (by simp)).tr (FrR.up1 (by simp))
    have B1 := hB.fr fC (by simp) rfl
    refine ⟨_, _, _, rfl, rfl, ⟨⟨B1.1, ?_, ?_, B1.2.2.2.rawN (rawN_fr fR (by simp) (by simp))⟩, ⟨.inl ?_, ?_⟩, .inl ?_⟩, fC, fR⟩
    · exact B1.2.1.fr (FrC.rf (PI := []) (Q := []) (PL := [])) ⟨by simp, by simp⟩ (by simp) (by simp) (.inr (by simp)) (fR.2 1 (by simp)) (fun r h1 h2 => fR.1 r (by omega) (by simp))
    · exact B1.2.2.1.fr (FrC.rf (PI := []) (Q := []) (PL := [])) ⟨by simp, by simp⟩ (by simp) (by simp) (.inr (by simp)) (fR.2 8 (by simp)) (fun p _ => by rw [fR.1 5 (by decide) (by simp)]) (Nat.le_refl _) (fun r h1 h2 => fR.1 r (by omega) (by simp))
    · rw [mI_same, upd_s]
    · rw [mI_ne (by decide), mI_same, upd_s, up_s, upd_n (by decide), up_s, upd_s]
    · rw [up_s, upd_s]
  · rw [bz_f h1, if_pos rfl, if_pos rfl]
    exact ⟨_, S, I, rfl, rfl, ⟨hB, ⟨hc, h80⟩, hl⟩, FrC.rf, FrR.rf⟩
end VW
