/-! post -/
section PP
variable {S S' : MS} {I I' : Nat → Nat → Int32} {J : Nat → Nat → Int64} {np nw ep ew : Nat} {ps ws : Nat → Nat}
/-- a new post -/
theorem C_newPost (hC : CS S) (x1 x2 x3 x4 x5 x6 : Int32) : ∃ S', fX6_init (m_new S 7 0) (m_n S + 1) x1 x2 x3 x4 x5 x6 = some S' ∧ FrC S S' [] [] [] ∧ m_at S' (m_n S + 1) 7 ∧ m_I S' (m_n S + 1) 0 = x1 ∧ m_I S' (m_n S + 1) 1 = x2 ∧ m_I S' (m_n S + 1) 2 = x3 ∧ m_I S' (m_n S + 1) 3 = x4 ∧ m_I S' (m_n S + 1) 4 = x5 ∧ m_I S' (m_n S + 1) 5 = x6 := by
  have h50 := hC.1
  have f0 : FrC S (m_new S 7 0) [] [] [] := FrC.new (by omega)
  have a0 : m_at (m_new S 7 0) (m_n S + 1) 7 := ⟨by omega, Nat.le_refl _, up_s⟩
  have key : ∀ (T : MS) (k : Nat) (v : Int32), m_at T (m_n S + 1) 7 → o_sI T (m_n S + 1) 7 k v = some (m_sI T (m_n S + 1) (upd (m_I T (m_n S + 1)) k v)) := fun T k v h => at_sI h
  have a1 : ∀ (T : MS) (f : Nat → Int32), m_at T (m_n S + 1) 7 → m_at (m_sI T (m_n S + 1) f) (m_n S + 1) 7 := fun T f h => h
  unfold fX6_init bX6_init_0
  rw [key _ _ _ a0, Option.bind_some, key _ _ _ (a1 _ _ a0), Option.bind_some, key _ _ _ (a1 _ _ (a1 _ _ a0)), Option.bind_some, key _ _ _ (a1 _ _ (a1 _ _ (a1 _ _ a0))), Option.bind_some, key _ _ _ (a1 _ _ (a1 _ _ (a1 _ _ (a1 _ _ a0)))), Option.bind_some, key _ _ _ (a1 _ _ (a1 _ _ (a1 _ _ (a1 _ _ (a1 _ _ a0))))), Option.bind_some]
  simp only [mI_same, sI_sI]
  refine ⟨_, rfl, FrC.bigI (b := m_n S + 1) ((f0.mono (by simp) (by simp) (by simp)).tr (FrC.sI (by omega) (by simp))) (by omega), a0, ?_, ?_, ?_, ?_, ?_, ?_⟩
  · rw [mI_same, upd_n (by decide), upd_n (by decide), upd_n (by decide), upd_n (by decide), upd_n (by decide), upd_s]
  · rw [mI_same, upd_n (by decide), upd_n (by decide), upd_n (by decide), upd_n (by decide), upd_s]
  · rw [mI_same, upd_n (by decide), upd_n (by decide), upd_n (by decide), upd_s]
  · rw [mI_same, upd_n (by decide), upd_n (by decide), upd_s]
  · rw [mI_same, upd_n (by decide), upd_s]
  · rw [mI_same, upd_s]
/-- the reference's rows with one more post -/
def addP (I : Nat → Nat → Int32) (np : Nat) (x1 x2 x3 x4 x5 x6 : Int32) : Nat → Nat → Int32 :=
  let I1 := va_up I 2 (upd (I 2) np x1)
  let I2 := va_up I1 3 (upd (I1 3) np x2)
  let I3 := va_up I2 4 (upd (I2 4) np x3)
  let I4 := va_up I3 5 (upd (I3 5) np x4)
  let I5 := va_up I4 6 (upd (I4 6) np x5)
  let I6 := va_up I5 7 (upd (I5 7) np x6)
  va_up I6 1 (upd (upd (I6 1) 1 (nI (np + 1))) 18 0)
section AP
variable {x1 x2 x3 x4 x5 x6 : Int32}
theorem addP_2 : addP I np x1 x2 x3 x4 x5 x6 2 = upd (I 2) np x1 := by
  unfold addP
  simp only [up_n (show (2 : Nat) ≠ 1 by decide), up_n (show (2 : Nat) ≠ 7 by decide), up_n (show (2 : Nat) ≠ 6 by decide), up_n (show (2 : Nat) ≠ 5 by decide), up_n (show (2 : Nat) ≠ 4 by decide), up_n (show (2 : Nat) ≠ 3 by decide), up_s]
theorem addP_3 : addP I np x1 x2 x3 x4 x5 x6 3 = upd (I 3) np x2 := by
  unfold addP
  simp only [up_n (show (3 : Nat) ≠ 1 by decide), up_n (show (3 : Nat) ≠ 7 by decide), up_n (show (3 : Nat) ≠ 6 by decide), up_n (show (3 : Nat) ≠ 5 by decide), up_n (show (3 : Nat) ≠ 4 by decide), up_n (show (3 : Nat) ≠ 2 by decide), up_s]
theorem addP_4 : addP I np x1 x2 x3 x4 x5 x6 4 = upd (I 4) np x3 := by
  unfold addP
  simp only [up_n (show (4 : Nat) ≠ 1 by decide), up_n (show (4 : Nat) ≠ 7 by decide), up_n (show (4 : Nat) ≠ 6 by decide), up_n (show (4 : Nat) ≠ 5 by decide), up_n (show (4 : Nat) ≠ 3 by decide), up_n (show (4 : Nat) ≠ 2 by decide), up_s]
theorem addP_5 : addP I np x1 x2 x3 x4 x5 x6 5 = upd (I 5) np x4 := by
  unfold addP
  simp only [up_n (show (5 : Nat) ≠ 1 by decide), up_n (show (5 : Nat) ≠ 7 by decide), up_n (show (5 : Nat) ≠ 6 by decide), up_n (show (5 : Nat) ≠ 4 by decide), up_n (show (5 : Nat) ≠ 3 by decide), up_n (show (5 : Nat) ≠ 2 by decide), up_s]
theorem addP_6 : addP I np x1 x2 x3 x4 x5 x6 6 = upd (I 6) np x5 := by
  unfold addP
  simp only [up_n (show (6 : Nat) ≠ 1 by decide), up_n (show (6 : Nat) ≠ 7 by decide), up_n (show (6 : Nat) ≠ 5 by decide), up_n (show (6 : Nat) ≠ 4 by decide), up_n (show (6 : Nat) ≠ 3 by decide), up_n (show (6 : Nat) ≠ 2 by decide), up_s]
theorem addP_7 : addP I np x1 x2 x3 x4 x5 x6 7 = upd (I 7) np x6 := by
  unfold addP
  simp only [up_n (show (7 : Nat) ≠ 1 by decide), up_n (show (7 : Nat) ≠ 6 by decide), up_n (show (7 : Nat) ≠ 5 by decide), up_n (show (7 : Nat) ≠ 4 by decide), up_n (show (7 : Nat) ≠ 3 by decide), up_n (show (7 : Nat) ≠ 2 by decide), up_s]
theorem addP_1 : addP I np x1 x2 x3 x4 x5 x6 1 = upd (upd (I 1) 1 (nI (np + 1))) 18 0 := by
  unfold addP
  simp only [up_n (show (1 : Nat) ≠ 7 by decide), up_n (show (1 : Nat) ≠ 6 by decide), up_n (show (1 : Nat) ≠ 5 by decide), up_n (show (1 : Nat) ≠ 4 by decide), up_n (show (1 : Nat) ≠ 3 by decide), up_n (show (1 : Nat) ≠ 2 by decide), up_s]
theorem addP_o {r : Nat} (h : 7 < r) : addP I np x1 x2 x3 x4 x5 x6 r = I r := by
  unfold addP
  simp only [up_n (show r ≠ 1 by omega), up_n (show r ≠ 7 by omega), up_n (show r ≠ 6 by omega), up_n (show r ≠ 5 by omega), up_n (show r ≠ 4 by omega), up_n (show r ≠ 3 by omega), up_n (show r ≠ 2 by omega)]
theorem addP_f : FrR I (addP I np x1 x2 x3 x4 x5 x6) [2, 3, 4, 5, 6, 7] [1, 18] := by
  refine ⟨fun a h1 h2 => ?_, fun k hk => ?_⟩
  · simp only [List.mem_cons, List.not_mem_nil, or_false, not_or] at h2
    by_cases h7 : 7 < a
    · exact addP_o h7
    · have : a = 0 := by omega
      subst this
      unfold addP
      simp only [up_n (show (0 : Nat) ≠ 1 by decide), up_n (show (0 : Nat) ≠ 7 by decide), up_n (show (0 : Nat) ≠ 6 by decide), up_n (show (0 : Nat) ≠ 5 by decide), up_n (show (0 : Nat) ≠ 4 by decide), up_n (show (0 : Nat) ≠ 3 by decide), up_n (show (0 : Nat) ≠ 2 by decide)]
  · simp only [List.mem_cons, List.not_mem_nil, or_false, not_or] at hk
    rw [addP_1, upd_n hk.2, upd_n hk.1]
theorem pos_add {S1 S2 : MS} {o e' : Nat} (hP : Pos S I np ep ps) (hn : np < 12) (h50 : 50 ≤ m_n S) (ho : m_n S < o) (f1 : FrC S S1 [] [] []) (f2 : FrC S1 S2 [3] [] [3, ep]) (ha : m_at S1 o 7) (i0 : m_I S1 o 0 = x1) (i1 : m_I S1 o 1 = x2) (i2 : m_I S1 o 2 = x3) (i3 : m_I S1 o 3 = x4) (i4 : m_I S1 o 4 = x5) (i5 : m_I S1 o 5 = x6) (hL : Lst S2 3 (np + 1) 7 e' (va_up ps np o)) (r : (0 ≤ x1.toInt ∧ x1.toInt < 3) ∧ ((0 ≤ x2.toInt ∧ x2.toInt ≤ 11) ∧ 0 ≤ x3.toInt ∧ x3.toInt ≤ 11) ∧ (0 ≤ x4.toInt ∧ x4.toInt ≤ 3000) ∧ (-20 ≤ x5.toInt ∧ x5.toInt ≤ 20) ∧ -20 ≤ x6.toInt ∧ x6.toInt ≤ 20) : Pos S2 (addP I np x1 x2 x3 x4 x5 x6) (np + 1) e' (va_up ps np o) := by
  refine ⟨by omega, by rw [addP_1, upd_n (by decide), upd_s], hL, fun p hp => ?_⟩
  have ho2 : m_I S2 o = m_I S1 o := (f2.2.1 o ha.1 ha.2.1).2.2.1 (by omega) (by simp; omega)
  unfold poC poR
  rw [addP_2, addP_3, addP_4, addP_5, addP_6, addP_7]
  by_cases hpn : p = np
  · subst hpn
    rw [up_s, upd_s, upd_s, upd_s, upd_s, upd_s, upd_s, ho2]
    exact ⟨⟨by omega, i0, i1, i2, i3, i4, i5⟩, r⟩
  · rw [up_n hpn, upd_n hpn, upd_n hpn, upd_n hpn, upd_n hpn, upd_n hpn, upd_n hpn]
    obtain ⟨b1, b2⟩ := hP.2.2.2 p (by omega)
    have hc := (hP.2.2.1.2.2 p (by omega)).2
    have e1 : m_I S1 (ps p) = m_I S (ps p) := (f1.2.1 _ hc.1 hc.2.1).2.2.1 (by have := b1.1; omega) (by simp)
    have hc1 := hc.fr f1
    have e2 : m_I S2 (ps p) = m_I S1 (ps p) := (f2.2.1 _ hc1.1 hc1.2.1).2.2.1 (by have := b1.1; omega) (by have := b1.1; simp; omega)
    rw [e2, e1]
    exact ⟨b1, b2⟩
end AP
end PP
