/-! forecasts: a new one read, both sides -/
section FQ
variable {S S' : MS} {I I' : Nat → Nat → Int32} {J : Nat → Nat → Int64} {c q1 q2 q3 m w : Nat} {PI Q PL P QR : List Nat}
theorem al {T : MS} {c k : Nat} (hc : m_at T c 3) : ∃ T2, o_sP (m_new T 12 5) c 3 k (m_n T + 1) = some T2 ∧ FrC T T2 [] [] [c] ∧ m_at T2 (m_n T + 1) 12 ∧ m_L T2 (m_n T + 1) = 5 ∧ (∀ j, m_I T2 (m_n T + 1) j = 0) ∧ m_P T2 c = va_up (m_P T c) k (some (m_n T + 1)) ∧ m_I T2 c = m_I T c ∧ m_n T2 = m_n T + 1 := by
  have h1 := hc.1
  have h2 := hc.2.1
  have f1 : FrC T (m_new T 12 5) [] [] [c] := FrC.new (by omega)
  have a1 : m_at (m_new T 12 5) c 3 := hc.fr f1
  have hPc : m_P (m_new T 12 5) c = m_P T c := up_n (show c ≠ m_n T + 1 by omega)
  have hIc : m_I (m_new T 12 5) c = m_I T c := up_n (show c ≠ m_n T + 1 by omega)
  refine ⟨_, at_sP a1, f1.tr (FrC.sP (by simp)), ⟨by omega, Nat.le_refl _, up_s⟩, up_s, fun j => ?_, ?_, hIc, rfl⟩
  · show (va_up _ (m_n T + 1) (fun _ => (0 : Int32)) (m_n T + 1) : Nat → Int32) j = 0
    rw [up_s]
  · show va_up _ c _ c = _
    rw [up_s, hPc]
theorem C_foreInit (h50 : 50 ≤ m_n S) : ∃ S', fX2_init (m_new S 3 0) (m_n S + 1) = some S' ∧ FrC S S' [] [] [] ∧ fcG S' (m_n S + 1) (m_n S + 2) (m_n S + 3) (m_n S + 4) ∧ m_I S' (m_n S + 1) 0 = 0 ∧ m_I S' (m_n S + 1) 4 = 0 ∧ ∀ j, m_I S' (m_n S + 4) j = 0 := by
  have hle : o_le 5 (5 : Int32) = some 5 := by decide
  obtain ⟨c, hc⟩ : ∃ c, c = m_n S + 1 := ⟨_, rfl⟩
  rw [← hc]
  have fN : FrC S (m_new S 3 0) [] [] [] := FrC.new (by omega)
  have aN : m_at (m_new S 3 0) c 3 := ⟨by omega, by rw [hc]; exact Nat.le_refl _, by rw [hc]; exact up_s⟩
  have nN : m_n (m_new S 3 0) = c := hc.symm
  generalize m_new S 3 0 = N at fN aN nN
  unfold fX2_init bX2_init_0
  rw [at_sI aN, Option.bind_some]
  generalize hT0 : m_sI N c (upd (m_I N c) 0 0) = T0
  have f0 : FrC N T0 [c] [] [c] := by rw [← hT0]; exact FrC.sI (by omega) (by simp)
  have a0 : m_at T0 c 3 := aN.fr f0
  have n0 : m_n T0 = c := by rw [← hT0]; exact nN
  have i0 : m_I T0 c 0 = 0 := by rw [← hT0, mI_same, upd_s]
  obtain ⟨T1, e1, f1, b1, l1, z1, p1, j1, k1⟩ := al (k := 1) a0
  obtain ⟨T2, e2, f2, b2', l2, z2, p2, j2, k2⟩ := al (k := 2) (a0.fr f1)
  obtain ⟨T3, e3, f3, b3, l3, z3, p3, j3, k3⟩ := al (k := 3) ((a0.fr f1).fr f2)
  have a3 := ((a0.fr f1).fr f2).fr f3
  rw [hle, Option.bind_some, Option.bind_some, Option.bind_some, e1, Option.bind_some, Option.bind_some, Option.bind_some, Option.bind_some, e2, Option.bind_some, Option.bind_some, Option.bind_some, Option.bind_some, e3, Option.bind_some, at_sI a3, Option.bind_some, at_sI (show m_at (m_sI T3 c _) c 3 from a3), Option.bind_some, mI_same, sI_sI]
  have q1 : m_n T0 + 1 = m_n S + 2 := by omega
  have q2 : m_n T1 + 1 = m_n S + 3 := by omega
  have q3 : m_n T2 + 1 = m_n S + 4 := by omega
  rw [q1] at b1 l1 z1 p1
  rw [q2] at b2' l2 z2 p2
  rw [q3] at b3 l3 z3 p3
  have f03 : FrC T0 T3 [c] [] [c] := (f1.tr (f2.tr f3)).mono (by simp) (by simp) (by simp)
  generalize hT4 : m_sI T3 c (upd (upd (m_I T3 c) 4 0) 5 0) = T4
  have f4 : FrC T3 T4 [c] [] [c] := by rw [← hT4]; exact FrC.sI (by omega) (by simp)
  have fA : FrC S T4 [c] [] [c] := (fN.mono (by simp) (by simp) (by simp)).tr (f0.tr (f03.tr f4))
  have g4 : ∀ b, b ≠ c → m_I T4 b = m_I T3 b := fun b hb => by rw [← hT4, mI_ne hb]
  have gc : m_I T4 c = upd (upd (m_I T3 c) 4 0) 5 0 := by rw [← hT4, mI_same]
  have pc : m_P T4 c = m_P T3 c := by rw [← hT4]; rfl
  refine ⟨T4, rfl, (fA.bigI (by omega)).big (by omega), ⟨⟨by omega, by omega, by omega, by omega⟩, ⟨by omega, by omega, by omega, by omega, by omega, by omega⟩, a3.fr f4, ⟨?_, ?_, ?_⟩, ⟨((b1.fr f2).fr f3).fr f4, ?_⟩, ⟨(b2'.fr f3).fr f4, ?_⟩, ⟨b3.fr f4, ?_⟩⟩, ?_, ?_, fun j => ?_⟩
  · rw [pc, p3, up_n (by decide), p2, up_n (by decide), p1, up_s]
  · rw [pc, p3, up_n (by decide), p2, up_s]
  · rw [pc, p3, up_s]
  · rw [(f4.2.1 _ ((b1.fr f2).fr f3).1 ((b1.fr f2).fr f3).2.1).2.1, (f3.2.1 _ (b1.fr f2).1 (b1.fr f2).2.1).2.1, (f2.2.1 _ b1.1 b1.2.1).2.1]; exact l1
  · rw [(f4.2.1 _ (b2'.fr f3).1 (b2'.fr f3).2.1).2.1, (f3.2.1 _ b2'.1 b2'.2.1).2.1]; exact l2
  · rw [(f4.2.1 _ b3.1 b3.2.1).2.1]; exact l3
  · rw [gc, upd_n (by decide), upd_n (by decide), j3, j2, j1]; exact i0
  · rw [gc, upd_n (by decide), upd_s]
  · rw [g4 _ (by omega)]; exact z3 j
/-- the whole sheet part, read -/
def Dn (S : MS) (I : Nat → Nat → Int32) (c q1 q2 q3 n : Nat) : Prop := fcG S c q1 q2 q3 ∧ (1 ≤ n ∧ n ≤ 5) ∧ m_I S c 0 = nI n ∧ I 1 49 = nI n ∧ ∀ j, j < n → rg (m_I S q1 j) (I 37 j) ∧ sg (m_I S q2 j) (I 38 j) ∧ m_I S q3 j = I 39 j
theorem parse {k x n : Nat} (hk : k < 4) (hx : x + n ≤ 60) (d : Nat) : ∀ {S : MS} {I : Nat → Nat → Int32} {m w i : Nat}, CS S → Rm S I c q1 q2 q3 m w → (∀ j, j < n → m_I S (44 + 2 * k) (x + j) = I 42 (60 * k + x + j)) → i + d = n → ∃ r' r S' I', lim sX2_firstFaultOf (c, 44 + 2 * k, nI x, nI n, nI i, S) = some (r', S') ∧ lim sX10_read (1, nI (60 * k + x), nI n, nI w, nI i, mkR I J) = some (r, mkR I' J) ∧ FrC S S' [c, q1, q2, q3] [] [] ∧ FrR I I' [37, 38, 39] [49] ∧ (r' = -9 ∧ r = -1 ∧ (∃ N, Dn S' I' c q1 q2 q3 N) ∨ ∃ t, t ≤ n ∧ r' = nI t ∧ r = nI t) := by
  induction d with
  | zero =>
    intro S I m w i hC h hj hi
    have hin : i = n := by omega
    subst hin
    obtain ⟨g, ⟨hm, hw⟩, h0, h4, h5, h49, hh⟩ := h
    have ac := g.2.2.1
    have hf : FrR I (va_up I 1 (upd (I 1) 49 (nI (m + 1)))) [37, 38, 39] [49] := FrR.up1 (by simp)
    have hge : nI i ≤ nI i := nI_le (Nat.le_refl _) (by omega)
    by_cases hw3 : w < 3
    · refine ⟨nI i, nI i, S, va_up I 1 (upd (I 1) 49 (nI (m + 1))), ?_, ?_, FrC.rf, hf, .inr ⟨i, Nat.le_refl _, rfl, rfl⟩⟩
      · apply lim_end
        show bX2_firstFaultOf_3 S c (44 + 2 * k) (nI x) (nI i) (nI i) = _
        unfold bX2_firstFaultOf_3 bX2_firstFaultOf_45
        rw [if_pos hge, at_gI ac, Option.bind_some, h4, if_pos hw3, if_neg (show ¬ nI w = 3 from fun q => by have := (nI_eq (a := w) (b := 3) (by omega) (by omega)).mp q; omega)]
      · apply lim_end
        show bX10_read_10 (mkR I J) 1 (nI (60 * k + x)) (nI i) (nI w) (nI i) = _
        unfold bX10_read_10 bX10_read_240
        rw [if_pos hge, rI, h49, Option.bind_some, nI_1, rSI, Option.bind_some, if_pos (show nI w ≤ 2 from nI_le (a := w) (b := 2) (by omega) (by omega))]
    · refine ⟨-9, -1, S, va_up I 1 (upd (I 1) 49 (nI (m + 1))), ?_, ?_, FrC.rf, hf, .inl ⟨rfl, rfl, m + 1, g, ⟨by omega, by omega⟩, ?_, ?_, fun j hjm => ?_⟩⟩
      · apply lim_end
        show bX2_firstFaultOf_3 S c (44 + 2 * k) (nI x) (nI i) (nI i) = _
        unfold bX2_firstFaultOf_3 bX2_firstFaultOf_45
        rw [if_pos hge, at_gI ac, Option.bind_some, h4, if_neg hw3, if_pos (show nI 3 = 3 from rfl)]
      · apply lim_end
        show bX10_read_10 (mkR I J) 1 (nI (60 * k + x)) (nI i) (nI w) (nI i) = _
        unfold bX10_read_10 bX10_read_240
        rw [if_pos hge, rI, h49, Option.bind_some, nI_1, rSI, Option.bind_some, if_neg (show ¬ nI w ≤ 2 from nI_ge (b := w) (a := 2) (by omega) (by omega))]
      · rw [h0, if_neg hw3]
      · rw [up_s, upd_s]
      · obtain ⟨j1, j2, j3, -⟩ := hh j (by omega)
        rw [up_n (show (37 : Nat) ≠ 1 by decide), up_n (show (38 : Nat) ≠ 1 by decide), up_n (show (39 : Nat) ≠ 1 by decide)]
        exact ⟨j1 (by omega), j2 (by omega), j3 (by omega)⟩
  | succ d ih =>
    intro S I m w i hC h hj hi
    have ac := h.1.2.2.1
    have hbig := h.1.1
    have hin : i < n := by omega
    have e1 : nI x + nI i = nI (x + i) := nI_add x i
    have e2 : nI (60 * k + x) + nI i = nI (60 * k + x + i) := nI_add _ i
    have sc : bX2_firstFaultOf_3 S c (44 + 2 * k) (nI x) (nI n) (nI i) = b2 (fX2_takes S c (I 42 (60 * k + x + i))) fun v16 S16 => if v16 = 0 then some (.inr (nI i, S16)) else (some (nI i + 1)).bind fun v25 => some (.inl (c, 44 + 2 * k, nI x, nI n, v25, S16)) := by
      unfold bX2_firstFaultOf_3
      rw [if_neg (nI_ge hin (by omega)), e1, at_ld (cAt44 hC k hk) (cLn44 hC k hk) (by decide) rfl (by omega), Option.bind_some, hj i hin, at_is ac, Option.bind_some]
    have sr : bX10_read_10 (mkR I J) 1 (nI (60 * k + x)) (nI n) (nI w) (nI i) = tl (mkR I J) (nI (60 * k + x)) (nI n) (nI w) (nI i) (I 42 (60 * k + x + i)) := by
      unfold bX10_read_10 tl
      rw [if_neg (nI_ge hin (by omega)), rP55, Option.bind_some, e2, rL42 rfl (by omega), Option.bind_some]
    rcases tk_any h (J := J) (I 42 (60 * k + x + i)) with ⟨t1, t2⟩ | ⟨S1, I1, m', w', t1, t2, t3, t4, t5⟩
    · refine ⟨nI i, nI i, S, I, ?_, ?_, FrC.rf, FrR.rf, .inr ⟨i, by omega, rfl, rfl⟩⟩
      · apply lim_end
        show bX2_firstFaultOf_3 S c (44 + 2 * k) (nI x) (nI n) (nI i) = _
        rw [sc, t1, b2_s, if_pos rfl]
      · apply lim_end
        show bX10_read_10 (mkR I J) 1 (nI (60 * k + x)) (nI n) (nI w) (nI i) = _
        rw [sr, t2]
    · have C1 : CS S1 := hC.fr t4 (by simp) (by simp)
      have hj' : ∀ j, j < n → m_I S1 (44 + 2 * k) (x + j) = I1 42 (60 * k + x + j) := fun j hjn => by
        rw [t4.row hC (by omega) (by omega) (by simp; omega), t5.1 42 (by decide) (by simp)]
        exact hj j hjn
      obtain ⟨r', r, S2, I2, u1, u2, u3, u4, u5⟩ := ih (i := i + 1) C1 t3 hj' (by omega)
      refine ⟨r', r, S2, I2, ?_, ?_, t4.tr u3, t5.tr u4, u5⟩
      · rw [← u1, lim_eq]
        show fin sX2_firstFaultOf (bX2_firstFaultOf_3 S c (44 + 2 * k) (nI x) (nI n) (nI i)) = _
        rw [sc, t1, b2_s, if_neg (by decide), Option.bind_some, nI_1, fin_l]
      · rw [← u2, lim_eq]
        show fin sX10_read (bX10_read_10 (mkR I J) 1 (nI (60 * k + x)) (nI n) (nI w) (nI i)) = _
        rw [sr, t2, fin_l, nI_1]
end FQ
