/-! forecast, the call -/
section FR4
variable {S S' : MS} {I I' : Nat → Nat → Int32} {J : Nat → Nat → Int64} {c q1 q2 q3 m w nf ef : Nat} {ff : Nat → Nat} {PI Q PL P QR : List Nat}
/-- cell c is forecast f -/
def fcR (S : MS) (I : Nat → Nat → Int32) (c f : Nat) : Prop := ∃ q1 q2 q3 n, fcG S c q1 q2 q3 ∧ n ≤ 5 ∧ m_I S c 0 = nI n ∧ I 33 f = nI n ∧ ∀ j, j < n → rg (m_I S q1 j) (I 34 (5 * f + j)) ∧ sg (m_I S q2 j) (I 35 (5 * f + j)) ∧ m_I S q3 j = I 36 (5 * f + j)
def i_fo (S : MS) (I : Nat → Nat → Int32) (nf ef : Nat) (ff : Nat → Nat) : Prop := nf ≤ 8 ∧ I 1 44 = nI nf ∧ Lst S 41 nf 3 ef ff ∧ ∀ f, f < nf → fcR S I (ff f) f
theorem fcG.fr (h : fcG S c q1 q2 q3) (hf : FrC S S' PI Q PL) (hx : Fx S S' PI PL) : fcG S' c q1 q2 q3 := by
  obtain ⟨b, n, a0, ⟨p1, p2, p3⟩, ⟨a1, l1⟩, ⟨a2, l2⟩, ⟨a3, l3⟩⟩ := h
  have hp := hf.hiP hx a0 (by omega) (by omega)
  exact ⟨b, n, a0.fr hf, ⟨by rw [hp]; exact p1, by rw [hp]; exact p2, by rw [hp]; exact p3⟩, ⟨a1.fr hf, by rw [(hf.2.1 _ a1.1 a1.2.1).2.1]; exact l1⟩, ⟨a2.fr hf, by rw [(hf.2.1 _ a2.1 a2.2.1).2.1]; exact l2⟩, ⟨a3.fr hf, by rw [(hf.2.1 _ a3.1 a3.2.1).2.1]; exact l3⟩⟩
theorem fcR.fr {f : Nat} (h : fcR S I c f) (hf : FrC S S' PI Q PL) (hx : Fx S S' PI PL) (h33 : I' 33 f = I 33 f) (hr : ∀ j, j < 5 → I' 34 (5 * f + j) = I 34 (5 * f + j) ∧ I' 35 (5 * f + j) = I 35 (5 * f + j) ∧ I' 36 (5 * f + j) = I 36 (5 * f + j)) : fcR S' I' c f := by
  obtain ⟨q1, q2, q3, n, g, hn, h0, h3, hj⟩ := h
  have g' := g
  obtain ⟨⟨b0, b1, b2', b3⟩, -, a0, -, ⟨a1, -⟩, ⟨a2, -⟩, ⟨a3, -⟩⟩ := g
  refine ⟨q1, q2, q3, n, g'.fr hf hx, hn, by rw [hf.hi hx a0 b0]; exact h0, by rw [h33]; exact h3, fun j hjn => ?_⟩
  obtain ⟨r1, r2, r3⟩ := hr j (by omega)
  rw [hf.hi hx a1 b1, hf.hi hx a2 b2', hf.hi hx a3 b3, r1, r2, r3]
  exact hj j hjn
theorem i_fo.fr (h : i_fo S I nf ef ff) (hf : FrC S S' PI Q PL) (hx : Fx S S' PI PL) (h41 : 41 ∉ PI ∧ 41 ∉ PL) (he : ef = 0 ∨ ef ∉ PL) (hr : FrR I I' P QR) (hP : ∀ r ∈ P, r < 33 ∨ 36 < r) (hq : 44 ∉ QR) : i_fo S' I' nf ef ff := by
  obtain ⟨h1, h2, h3, h4⟩ := h
  have no : ∀ r, 33 ≤ r → r ≤ 36 → I' r = I r := fun r h2 h3 => hr.1 r (by omega) (fun q => by have := hP r q; omega)
  refine ⟨h1, by rw [hr.2 44 hq]; exact h2, h3.fr hf (by decide) h41.1 h41.2 he, fun f hfn => (h4 f hfn).fr hf hx (by rw [no 33 (by omega) (by omega)]) (fun j _ => ?_)⟩
  rw [no 34 (by omega) (by omega), no 35 (by omega) (by omega), no 36 (by omega) (by omega)]
  exact ⟨rfl, rfl, rfl⟩
def OkG (S : MS) (I : Nat → Nat → Int32) (J : Nat → Nat → Int64) (ef : Nat) (c r : Option (Int32 × MS)) : Prop := ∃ (x : Int32) (S' : MS) (I' : Nat → Nat → Int32) (nf' ef' : Nat) (ff' : Nat → Nat), c = some (x, S') ∧ r = some (x, mkR I' J) ∧ CS S' ∧ KSh S' I' ∧ i_fo S' I' nf' ef' ff' ∧ (ef' = ef ∨ m_n S < ef') ∧ FrC S S' [41] [12] [41, ef] ∧ FrR I I' [33, 34, 35, 36, 37, 38, 39] [0, 44, 49]
/-- the reference files the forecast it has read -/
theorem R_file {N : Nat} (hnf : nf < 8) (h44 : I 1 44 = nI nf) (hN : 1 ≤ N ∧ N ≤ 5) (h49 : I 1 49 = nI N) (hsg : ∀ j, j < N → I 38 j = 0 ∨ I 38 j = 1) : ∃ I2, lim sX10_forecast (1, nI 0, mkR (va_up I 33 (upd (I 33) nf (nI N))) J) = some (nI nf, mkR (rF (va_up I2 1 (upd (I2 1) 44 (nI (nf + 1)))) 0) J) ∧ FrR (va_up I 33 (upd (I 33) nf (nI N))) I2 [34, 35, 36] [] ∧ (∀ j, j < N → I2 34 (5 * nf + j) = I 37 j ∧ I2 35 (5 * nf + j) = I 38 j ∧ I2 36 (5 * nf + j) = I 39 j) ∧ ∀ i, i < 5 * nf → I2 34 i = I 34 i ∧ I2 35 i = I 35 i ∧ I2 36 i = I 36 i := by
  have q33 : ∀ r, r ≠ 33 → va_up I 33 (upd (I 33) nf (nI N)) r = I r := fun r hr => up_n hr
  have n5 : ∀ j, (5 : Int32) * nI nf + nI j = nI (5 * nf + j) := fun j => by rw [show (5 : Int32) = nI 5 from rfl, nI_mul, nI_add]
  obtain ⟨s, ⟨I2, rfl, f1, j1, o1⟩, he⟩ := lim_inv (step := sX10_forecast) (K := fun j s => ∃ I2, s = (1, nI j, mkR I2 J) ∧ FrR (va_up I 33 (upd (I 33) nf (nI N))) I2 [34, 35, 36] [] ∧ (∀ i, i < j → I2 34 (5 * nf + i) = I 37 i ∧ I2 35 (5 * nf + i) = I 38 i ∧ I2 36 (5 * nf + i) = I 39 i) ∧ ∀ i, i < 5 * nf → I2 34 i = I 34 i ∧ I2 35 i = I 35 i ∧ I2 36 i = I 36 i) N (s0 := (1, nI 0, mkR (va_up I 33 (upd (I 33) nf (nI N))) J)) ⟨_, rfl, FrR.rf, fun i hi => by omega, fun i hi => by rw [q33 34 (by decide), q33 35 (by decide), q33 36 (by decide)]; exact ⟨rfl, rfl, rfl⟩⟩ (fun j hj s hs => by
    obtain ⟨I2, rfl, f1, j1, o1⟩ := hs
    have k1 : ∀ k, I2 1 k = I 1 k := fun k => (f1.2 k (by simp)).trans (by rw [q33 1 (by decide)])
    have k37 : I2 37 = I 37 := (f1.1 37 (by decide) (by simp)).trans (q33 37 (by decide))
    have k38 : I2 38 = I 38 := (f1.1 38 (by decide) (by simp)).trans (q33 38 (by decide))
    have k39 : I2 39 = I 39 := (f1.1 39 (by decide) (by simp)).trans (q33 39 (by decide))
    have zb : o_zb (I 38 j) = some (I 38 j) := by rcases hsg j hj with e | e <;> rw [e] <;> rfl
    refine ⟨(1, nI (j + 1), mkR (va_up (va_up (va_up I2 34 (upd (I2 34) (5 * nf + j) (I 37 j))) 35 (upd (I2 35) (5 * nf + j) (I 38 j))) 36 (upd (I2 36) (5 * nf + j) (I 39 j))) J), ?_, _, rfl, ?_, fun i hi => ?_, fun i hi => ?_⟩
    · show bX10_forecast_166 (mkR I2 J) 1 (nI j) = _
      unfold bX10_forecast_166
      rw [rI, k1, h49, Option.bind_some, if_neg (nI_ge hj (by omega)), rP46, Option.bind_some, rI, k1, h44, Option.bind_some, rP50, Option.bind_some, rL37 rfl (by omega), k37, Option.bind_some, n5, rS34 rfl (by omega), Option.bind_some, rP47, Option.bind_some, rI, up_n (show (1 : Nat) ≠ 34 by decide), k1, h44, Option.bind_some, rP51, Option.bind_some, rL38 rfl (by omega), up_n (show (38 : Nat) ≠ 34 by decide), k38, Option.bind_some, zb, Option.bind_some, n5, rS35 rfl (by omega), up_n (show (35 : Nat) ≠ 34 by decide), Option.bind_some, rP48, Option.bind_some, rI, up_n (show (1 : Nat) ≠ 35 by decide), up_n (show (1 : Nat) ≠ 34 by decide), k1, h44, Option.bind_some, rP52, Option.bind_some, rL39 rfl (by omega), up_n (show (39 : Nat) ≠ 35 by decide), up_n (show (39 : Nat) ≠ 34 by decide), k39, Option.bind_some, n5, rS36 rfl (by omega), up_n (show (36 : Nat) ≠ 35 by decide), up_n (show (36 : Nat) ≠ 34 by decide), Option.bind_some, nI_1, Option.bind_some]
    · exact f1.tr (((FrR.up (P := [34, 35, 36]) (Q := []) (by decide) (by simp)).tr (FrR.up (by decide) (by simp))).tr (FrR.up (by decide) (by simp)))
    · rw [up_n (show (34 : Nat) ≠ 36 by decide), up_n (show (34 : Nat) ≠ 35 by decide), up_s, up_n (show (35 : Nat) ≠ 36 by decide), up_s, up_s]
      by_cases hij : i = j
      · rw [hij, upd_s, upd_s, upd_s]; exact ⟨rfl, rfl, rfl⟩
      · rw [upd_n (by omega), upd_n (by omega), upd_n (by omega)]; exact j1 i (by omega)
    · rw [up_n (show (34 : Nat) ≠ 36 by decide), up_n (show (34 : Nat) ≠ 35 by decide), up_s, up_n (show (35 : Nat) ≠ 36 by decide), up_s, up_s, upd_n (by omega), upd_n (by omega), upd_n (by omega)]
      exact o1 i hi)
  have k1 : ∀ k, I2 1 k = I 1 k := fun k => (f1.2 k (by simp)).trans (by rw [q33 1 (by decide)])
  refine ⟨I2, ?_, f1, j1, o1⟩
  rw [he]
  apply lim_end
  show bX10_forecast_166 (mkR I2 J) 1 (nI N) = _
  unfold bX10_forecast_166
  rw [rI, k1, h49, Option.bind_some, if_pos (nI_le (Nat.le_refl _) (by omega)), rI, k1, h44, Option.bind_some, nI_1, rSI, Option.bind_some, rI, up_s, upd_s, Option.bind_some, rIs, Option.bind_some, R_refused, b2_s, nI_pred]
end FR4
