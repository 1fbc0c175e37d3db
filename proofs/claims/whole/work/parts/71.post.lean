/-! post -/
section PP
variable {S S' : MS} {I I' : Nat → Nat → Int32} {J : Nat → Nat → Int64} {np nw ep ew : Nat} {ps ws : Nat → Nat}
/-- a new post -/
theorem C_newPost (hC : CS S) (x1 x2 x3 x4 x5 x6 : Int32) : ∃ S', fX6_init (m_new S 7 0) (m_n S + 1) x1 x2 x3 x4 x5 x6 = some S' ∧ FrC S S' [] [] [] ∧ m_at S' (m_n S + 1) 7 ∧ m_I S' (m_n S + 1) 0 = x1 ∧ m_I S' (m_n S + 1) 1 = x2 ∧ m_I S' (m_n S + 1) 2 = x3 ∧ m_I S' (m_n S + 1) 3 = x4 ∧ m_I S' (m_n S + 1) 4 = x5 ∧ m_I S' (m_n S + 1) 5 = x6 := by
  have h50 := hC.1
  have f0 : FrC S (m_new S 7 0) [] [] [] := FrC.new (by omega)
  have a0 : m_at (m_new S 7 0) (m_n S + 1) 7 := ⟨by omega, Nat.le_refl _, up_s⟩
  have key : ∀ (T : MS) (k : Nat) (v : Int32), m_at T (m_n S + 1) 7 → o_sI T (m_n S + 1) 7 k v = some (m_sI T (m_n S + 1) (upd (m_I T (m_n S + 1)) k v)) := fun T k v h => at_sI h
  have a1 : ∀ (T : MS) (f : Nat → Int32), m_at T (m_n S + 1) 7 → m_at (m_sI T (m_n S + 1) f) (m_n S + 1) 7 := fun T f h => h
  unfold fX6_init bX6_init_0
  rw [key _ _ _ a0, Option.bind_some, key _ _ _ (a1 _ _ a0), Option.bind_some, key _ _ _ (a1 _ _ (a1 _ _ a0)), Option.bind_some, key _ _ _ (a1 _ _ (a1 _ _ (a1 _ _ a0))), Option.bind_some, key _ _ _ (a1 _ _ (a1 _ _ (a1 _ _ (a1 _ _ a0)))), Option.bind_some, key _ _ _ (a1 _ _ (a1 _ _ (a1 _ _ (a1 _ _ (a1 _ _ a0))))), Option.bind_some]
  simp only [mI_same, sI_sI]
  refine ⟨_, rfl, FrC.bigI (b := m_n S + 1) ((f0.mono (by simp) (by simp) (by simp)).tr (FrC.sI (by omega) (by simp))) (by omega), a0, ?_, ?_, ?_, ?_, ?_, ?_⟩
  · rw [mI_same, upd_n (by decide), upd_n (by decide), upd_n (by decide), upd_n (by decide), upd_n (by decide), upd_s]
  · rw [mI_same, upd_n (by decide), upd_n (by decide), upd_n (by decide), upd_n (by decide), upd_s]
  · rw [mI_same, upd_n (by decide), upd_n (by decide), upd_n (by decide), upd_s]
  · rw [mI_same, upd_n (by decide), upd_n (by decide), upd_s]
  · rw [mI_same, upd_n (by decide), upd_s]
  · rw [mI_same, upd_s]
/-- the reference's rows with one more post -/
def addP (I : Nat → Nat → Int32) (np : Nat) (x1 x2 x3 x4 x5 x6 : Int32) : Nat → Nat → Int32 :=
  let I1 := va_up I 2 (upd (I 2) np x1)
  let I2 := va_up I1 3 (upd (I1 3) np x2)
  let I3 := va_up I2 4 (upd (I2 4) np x3)
  let I4 := va_up I3 5 (upd (I3 5) np x4)
  let I5 := va_up I4 6 (upd (I4 6) np x5)
  let I6 := va_up I5 7 (upd (I5 7) np x6)
  va_up I6 1 (upd (upd (I6 1) 1 (nI (np + 1))) 18 0)
end PP
