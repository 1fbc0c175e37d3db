/-! calls that ask of posts, wires and the chart -/
section AK
variable {S S' : MS} {I I' : Nat → Nat → Int32} {J : Nat → Nat → Int64} {np nw ep ew : Nat} {ps ws : Nat → Nat}
theorem Dsk.raw (h : Dsk S I np nw) (hr : rawI I' = rawI I) : Dsk S I' np nw := by
  have h15 : I' 1 15 = I 1 15 := raw_c (fun I => I 1 15) (fun _ => rfl) hr
  have h16 : I' 1 16 = I 1 16 := raw_c (fun I => I 1 16) (fun _ => rfl) hr
  have hin : inV I' nw = inV I nw := raw_c (fun I => inV I nw) (fun I => inV_raw I nw) hr
  have hsu : sur I' nw = sur I nw := raw_c (fun I => sur I nw) (fun I => sur_raw I nw) hr
  have hsl : slv I' nw = slv I nw := raw_c (fun I => slv I nw) (fun I => slv_raw I nw) hr
  have hsh : ∀ p, shn I' nw p = shn I nw p := fun p => raw_c (fun I => shn I nw p) (fun I => shn_raw I nw p) hr
  have hpl : ∀ p, plc I' p (I 1 15) = plc I p (I 1 15) := fun p => congrFun (raw_c (fun I => plc I p) (fun _ => rfl) hr) (I 1 15)
  unfold Dsk
  rw [h15, h16, hin, hsu, hsl]
  refine ⟨h.1, h.2.1, fun p hp => ?_⟩
  rw [hsh, hpl]
  exact h.2.2 p hp
theorem Stt.raw (h : Stt S I np nw) (hr : rawI I' = rawI I) : Stt S I' np nw := by
  have h15 : I' 1 15 = I 1 15 := raw_c (fun I => I 1 15) (fun _ => rfl) hr
  have h17 : I' 1 17 = I 1 17 := raw_c (fun I => I 1 17) (fun _ => rfl) hr
  have hin : inV I' nw = inV I nw := raw_c (fun I => inV I nw) (fun I => inV_raw I nw) hr
  have hlv : lvn I' np nw = lvn I np nw := raw_c (fun I => lvn I np nw) (fun I => lvn_raw I np nw) hr
  have hdd : dd I' np nw = dd I np nw := raw_c (fun I => dd I np nw) (fun I => dd_raw I np nw) hr
  have hva : val I' np nw = val I np nw := raw_c (fun I => val I np nw) (fun I => val_raw I np nw) hr
  have hpl : (fun p => plc I' p (I 1 15)) = fun p => plc I p (I 1 15) := by
    funext p
    exact congrFun (raw_c (fun I => plc I p) (fun _ => rfl) hr) (I 1 15)
  unfold Stt
  rw [h15, h17, hin, hlv, hdd, hva, hpl]
  exact h
theorem Bas.rawR (h : Bas S I np nw ep ew ps ws) (hf : FrR I I' [14, 15, 16, 17, 18] [18, 19, 23]) : Bas S I' np nw ep ew ps ws := by
  have hr := raw_fr hf (by simp) (by simp)
  obtain ⟨hC, hP, hW, hD⟩ := h
  have fx : Fx S S [] [] := ⟨by simp, by simp⟩
  refine ⟨hC, hP.fr (FrC.rf (PI := []) (Q := []) (PL := [])) fx (by simp) (by simp) (.inr (by simp)) (hf.2 1 (by simp)) (fun r h1 h2 => hf.1 r (by omega) (by simp; omega)), hW.fr (FrC.rf (PI := []) (Q := []) (PL := [])) fx (by simp) (by simp) (.inr (by simp)) (hf.2 8 (by simp)) (fun p _ => by rw [hf.1 5 (by decide) (by simp)]) (Nat.le_refl _) (fun r h1 h2 => hf.1 r (by omega) (by simp; omega)), hD.raw hr⟩
/-- the reference has laid -/
theorem Cor.R (h : Cor S I np nw ep ew ps ws) (hf : FrR I I' [14, 15, 16, 17, 18] [18, 19, 23]) (h18 : I' 1 18 = 1) (hl : Lai I' np nw) : Cor S I' np nw ep ew ps ws := by
  have hr := raw_fr hf (by simp) (by simp)
  obtain ⟨hB, ⟨hc, h80⟩, -⟩ := h
  refine ⟨hB.rawR hf, ⟨hc.imp_right (fun x => ⟨x.1, x.2.raw hr⟩), ?_⟩, .inr ⟨h18, hl⟩⟩
  rw [hf.2 17 (by simp)]
  exact h80
/-- both have -/
theorem Cor.CR (hB : Bas S' I np nw ep ew ps ws) (hs : Stt S' I np nw) (h2 : m_I S' 1 2 = 0) (h80 : m_I S' 8 0 = I 1 17) (hf : FrR I I' [14, 15, 16, 17, 18] [18, 19, 23]) (h18 : I' 1 18 = 1) (hl : Lai I' np nw) : Cor S' I' np nw ep ew ps ws := by
  have hr := raw_fr hf (by simp) (by simp)
  refine ⟨hB.rawR hf, ⟨.inr ⟨h2, hs.raw hr⟩, ?_⟩, .inr ⟨h18, hl⟩⟩
  rw [hf.2 17 (by simp)]
  exact h80
def OkC {α : Type} (S : MS) (I : Nat → Nat → Int32) (J : Nat → Nat → Int64) (np nw ep ew : Nat) (ps ws : Nat → Nat) (c r : Option (α × MS)) : Prop :=
  ∃ (x : α) (S' : MS) (I' : Nat → Nat → Int32), c = some (x, S') ∧ r = some (x, mkR I' J) ∧ Cor S' I' np nw ep ew ps ws ∧ FrC S S' [8, 9, 10, 11] [2] [] ∧ FrR I I' [14, 15, 16, 17, 18] [18, 19, 23]
def OkA {α : Type} (S : MS) (I : Nat → Nat → Int32) (J : Nat → Nat → Int64) (np nw ep ew : Nat) (ps ws : Nat → Nat) (c : Option α) (r : Option (α × MS)) : Prop :=
  ∃ (x : α) (I' : Nat → Nat → Int32), c = some x ∧ r = some (x, mkR I' J) ∧ Cor S I' np nw ep ew ps ws ∧ FrR I I' [14, 15, 16, 17, 18] [18, 19, 23]
theorem doubted_ok (h : Cor S I np nw ep ew ps ws) : OkC S I J np nw ep ew ps ws (fX9_doubted S 1) (fX10_doubted (mkR I J) 1) := by
  obtain ⟨S', c1, c2, c3, c4, c5, c6⟩ := C_settled h
  obtain ⟨I', r1, r2, r3, r4⟩ := R_laid (J := J) h
  have hr := raw_fr r2 (by simp) (by simp)
  have hdd : dd I' np nw = dd I np nw := raw_c (fun I => dd I np nw) (fun I => dd_raw I np nw) hr
  unfold fX9_doubted bX9_doubted_0 fX10_doubted bX10_doubted_0
  simp only [cIs1 h.1.1, c1, b2_s, cI8 c2.1, c3.2.2.1, rIs, r1, rI, r4.2.2.2.1, hdd, Option.bind_some]
  exact ⟨_, S', I', rfl, rfl, Cor.CR c2 c3 c4 c5 r2 r3 r4, c6, r2⟩
theorem place_ok (h : Cor S I np nw ep ew ps ws) (x1 x2 : Int32) : ∃ r, fX9_place S 1 x1 x2 = some r ∧ fX10_place (mkR I J) 1 x1 x2 = some r := by
  obtain ⟨hC, hP, hW, hD⟩ := h.1
  have hn := hP.1
  unfold fX9_place bX9_place_0 fX10_place bX10_place_0 bX10_place_33
  rw [cIs1 hC, rIs, Option.bind_some, Option.bind_some, C_isPost hC hP, R_noPost hn hP.2.1, Option.bind_some, Option.bind_some]
  by_cases h1 : 0 ≤ x1.toInt ∧ x1.toInt < np
  · obtain ⟨p, hp, rfl⟩ := i_nI h1.1 h1.2
    rw [bz_t h1, bz_f (fun q => q h1), if_neg (by decide), if_pos rfl, C_isWithin, R_inI x2 (a := 0) (b := 99) (a' := 0) (b' := 99) rfl rfl]
    have e99 : (99 : Int32).toInt = 99 := rfl
    rw [n0, e99]
    simp only [Option.bind_some]
    by_cases h2 : 0 ≤ x2.toInt ∧ x2.toInt ≤ 99
    · rw [bz_t h2, if_neg (by decide), if_neg (by decide)]
      have hc := (hP.2.2.1.2.2 p hp).2
      simp only [cP1_0 hC, cP2_0 hC, at_is hP.2.2.1.1.1, L_get hP.2.2.1 hp, at_is hc, C_placeAt hc (hP.2.2.2 p hp).1 (hP.2.2.2 p hp).2, R_placeOf (J := J) hp hn, rIs, Option.bind_some]
      exact ⟨_, rfl, rfl⟩
    · rw [bz_f h2, if_pos rfl, if_pos rfl]
      exact ⟨_, rfl, rfl⟩
  · rw [bz_f h1, bz_t h1, if_pos rfl, if_neg (by decide)]
    exact ⟨_, rfl, rfl⟩
end AK
