/-! what holds at the start -/
section IS
theorem ap_0 {S : MS} {k ln v : Nat} {x : Int32} : ap S (0, k, ln, v, x) = m_new S k ln := rfl
theorem run_n {b : MS} (h : 1 ≤ m_n b) (L : List (Nat × Nat × Nat × Nat × Int32)) : 1 ≤ m_n (run b L) := by
  induction L with
  | nil => exact h
  | cons o L ih =>
    show 1 ≤ m_n (ap (run b L) o)
    unfold ap
    split
    · show 1 ≤ m_n (run b L) + 1; omega
    · split
      · exact ih
      · split
        · exact ih
        · show 1 ≤ m_n (run b L) + 1 + _; omega
theorem run_out {b : MS} (h : ∀ a, m_n b < a → m_K b a = 0 ∧ m_L b a = 0) (L : List (Nat × Nat × Nat × Nat × Int32)) : ∀ a, m_n (run b L) < a → m_K (run b L) a = 0 ∧ m_L (run b L) a = 0 := by
  induction L with
  | nil => exact h
  | cons o L ih =>
    intro a
    show m_n (ap (run b L) o) < a → m_K (ap (run b L) o) a = 0 ∧ m_L (ap (run b L) o) a = 0
    unfold ap
    split
    · intro ha
      have ha' : m_n (run b L) + 1 < a := ha
      have h1 := ih a (by omega)
      refine ⟨?_, ?_⟩
      · show va_up _ (m_n (run b L) + 1) _ a = 0
        rw [up_n (by omega)]; exact h1.1
      · show va_up _ (m_n (run b L) + 1) _ a = 0
        rw [up_n (by omega)]; exact h1.2
    · split
      · exact ih a
      · split
        · exact ih a
        · intro ha
          have ha' : m_n (run b L) + 1 + o.2.1 < a := ha
          have h1 := ih a (by omega)
          have n1 : ¬ a = (run b L).1 + 1 := fun q => by have : m_n (run b L) = (run b L).1 := rfl; omega
          have n2 : ¬ ((run b L).1 < a ∧ a ≤ (run b L).1 + 1 + o.2.1) := fun q => by have : m_n (run b L) = (run b L).1 := rfl; omega
          refine ⟨?_, ?_⟩
          · show (if a = (run b L).1 + 1 then 16 else if (run b L).1 < a ∧ a ≤ (run b L).1 + 1 + o.2.1 then 12 else (run b L).2.1 a) = 0
            rw [if_neg n1, if_neg n2]; exact h1.1
          · show (if a = (run b L).1 + 1 then o.2.1 else if (run b L).1 < a ∧ a ≤ (run b L).1 + 1 + o.2.1 then o.2.2.1 else (run b L).2.2.1 a) = 0
            rw [if_neg n1, if_neg n2]; exact h1.2
def okO (o : Nat × Nat × Nat × Nat × Int32) : Bool := decide (o.1 = 0 ∨ o.1 = 1 ∨ o.1 = 2 ∧ o.2.1 = 1 ∧ o.2.2.1 < 58)
theorem run_P {b : MS} (hn : 1 ≤ m_n b) (h : ∀ a, m_P b a = fun _ => none) (L : List (Nat × Nat × Nat × Nat × Int32)) : L.all okO = true → (∀ a, a ≠ 1 → m_P (run b L) a = fun _ => none) ∧ ∀ k, 58 ≤ k → m_P (run b L) 1 k = none := by
  induction L with
  | nil => exact fun _ => ⟨fun a _ => h a, fun k _ => by show m_P b 1 k = none; rw [h 1]⟩
  | cons o L ih =>
    intro hl
    rw [List.all_cons, Bool.and_eq_true] at hl
    obtain ⟨i1, i2⟩ := ih hl.2
    have ho := of_decide_eq_true hl.1
    have hn1 := run_n hn L
    show (∀ a, a ≠ 1 → m_P (ap (run b L) o) a = fun _ => none) ∧ ∀ k, 58 ≤ k → m_P (ap (run b L) o) 1 k = none
    unfold ap
    rcases ho with h0 | h1 | ⟨h2, h3, h4⟩
    · rw [if_pos h0]
      refine ⟨fun a ha => ?_, fun k hk => ?_⟩
      · show va_up _ (m_n (run b L) + 1) _ a = _
        by_cases q : a = m_n (run b L) + 1
        · rw [q, up_s]
        · rw [up_n q]; exact i1 a ha
      · show (va_up _ (m_n (run b L) + 1) _ 1 : Nat → Option Nat) k = _
        rw [up_n (by omega)]; exact i2 k hk
    · rw [if_neg (by omega), if_pos h1]
      exact ⟨i1, i2⟩
    · rw [if_neg (by omega), if_neg (by omega), if_pos h2, h3]
      refine ⟨fun a ha => ?_, fun k hk => ?_⟩
      · show va_up _ 1 _ a = _
        rw [up_n ha]; exact i1 a ha
      · show (va_up (m_P (run b L)) 1 (va_up (m_P (run b L) 1) o.2.2.1 (some o.2.2.2.1)) 1 : Nat → Option Nat) k = _
        rw [up_s, up_n (by omega)]; exact i2 k hk
def clo (b : MS) : List (Nat × Nat × Nat × Nat × Int32) → Bool
  | [] => true
  | o :: L => clo b L && decide (o.1 ≠ 2 ∨ o.2.2.2.1 ≤ m_n (run b L))
theorem run_closed {b : MS} (h : m_closed b) (L : List (Nat × Nat × Nat × Nat × Int32)) : clo b L = true → m_closed (run b L) := by
  induction L with
  | nil => exact fun _ => h
  | cons o L ih =>
    intro hl
    have hl' : (clo b L && decide (o.1 ≠ 2 ∨ o.2.2.2.1 ≤ m_n (run b L))) = true := hl
    rw [Bool.and_eq_true] at hl'
    have i1 := ih hl'.1
    have ho := of_decide_eq_true hl'.2
    show m_closed (ap (run b L) o)
    unfold ap
    intro a j q
    split
    · intro hq
      have hq' : (va_up (m_P (run b L)) (m_n (run b L) + 1) (fun _ => none) a : Nat → Option Nat) j = some q := hq
      show q ≤ m_n (run b L) + 1
      by_cases e : a = m_n (run b L) + 1
      · rw [e, up_s] at hq'; cases hq'
      · rw [up_n e] at hq'
        have := i1 a j q hq'
        omega
    · split
      · exact i1 a j q
      · split
        · intro hq
          have hq' : (va_up (m_P (run b L)) o.2.1 (va_up (m_P (run b L) o.2.1) o.2.2.1 (some o.2.2.2.1)) a : Nat → Option Nat) j = some q := hq
          show q ≤ m_n (run b L)
          by_cases e : a = o.2.1
          · rw [e, up_s] at hq'
            by_cases e2 : j = o.2.2.1
            · rw [e2, up_s] at hq'
              have := Option.some.inj hq'
              omega
            · rw [up_n e2] at hq'
              exact i1 _ j q hq'
          · rw [up_n e] at hq'
            exact i1 a j q hq'
        · intro hq
          have hq' : (if a = (run b L).1 + 1 then (fun j => if j < o.2.1 then some ((run b L).1 + 2 + j) else none) else if (run b L).1 < a ∧ a ≤ (run b L).1 + 1 + o.2.1 then (fun _ => none) else (run b L).2.2.2.2.2 a) j = some q := hq
          show q ≤ (run b L).1 + 1 + o.2.1
          by_cases e : a = (run b L).1 + 1
          · rw [if_pos e] at hq'
            by_cases e2 : j < o.2.1
            · have hq2 : (if j < o.2.1 then some ((run b L).1 + 2 + j) else none) = some q := hq'
              rw [if_pos e2] at hq2
              have := Option.some.inj hq2
              omega
            · have hq2 : (if j < o.2.1 then some ((run b L).1 + 2 + j) else none) = some q := hq'
              rw [if_neg e2] at hq2
              cases hq2
          · rw [if_neg e] at hq'
            by_cases e2 : (run b L).1 < a ∧ a ≤ (run b L).1 + 1 + o.2.1
            · rw [if_pos e2] at hq'; cases hq'
            · rw [if_neg e2] at hq'
              have : q ≤ (run b L).1 := i1 a j q hq'
              omega
theorem kR_o {a : Nat} (h : 43 < a) : kR a = 0 := by
  unfold kR
  split <;> first | omega | rfl
theorem lR_o {a : Nat} (h : 43 < a) : lR a = 0 := by
  unfold lR
  split <;> first | omega | rfl
theorem pR_o {a : Nat} (h : 58 ≤ a) : pR1 a = none := by
  unfold pR1
  split <;> first | omega | rfl
theorem bR_o : ∀ a, m_n bR < a → m_K bR a = 0 ∧ m_L bR a = 0 := fun a ha => by
  have ha' : 1 < a := ha
  refine ⟨?_, ?_⟩
  · show va_up _ 1 _ a = 0
    rw [up_n (by omega)]; rfl
  · show va_up _ 1 _ a = 0
    rw [up_n (by omega)]; rfl
theorem bR_P : ∀ a, m_P bR a = fun _ => none := fun a => by
  show va_up _ 1 _ a = _
  by_cases h : a = 1
  · rw [h, up_s]
  · rw [up_n h]; rfl
theorem R_shape : run bR rl_86 = mkR (run bR rl_86).2.2.2.1 (run bR rl_86).2.2.2.2.1 := by
  have e1 : (run bR rl_86).1 = 43 := by decide +kernel
  have e2 : (run bR rl_86).2.1 = kR := by
    funext a
    by_cases h : 43 < a
    · rw [kR_o h]
      exact (run_out bR_o rl_86 a (by show (run bR rl_86).1 < a; omega)).1
    · exact (by decide +kernel : ∀ a, a < 44 → m_K (run bR rl_86) a = kR a) a (by omega)
  have e3 : (run bR rl_86).2.2.1 = lR := by
    funext a
    by_cases h : 43 < a
    · rw [lR_o h]
      exact (run_out bR_o rl_86 a (by show (run bR rl_86).1 < a; omega)).2
    · exact (by decide +kernel : ∀ a, a < 44 → m_L (run bR rl_86) a = lR a) a (by omega)
  have e6 : (run bR rl_86).2.2.2.2.2 = pR := by
    obtain ⟨h1, h2⟩ := run_P (b := bR) (Nat.le_refl 1) bR_P rl_86 (by decide +kernel)
    funext a
    unfold pR
    by_cases h : a = 1
    · rw [if_pos h, h]
      funext k
      by_cases hk : 58 ≤ k
      · rw [pR_o hk]
        exact h2 k hk
      · exact (by decide +kernel : ∀ k, k < 58 → m_P (run bR rl_86) 1 k = pR1 k) k (by omega)
    · rw [if_neg h]
      exact h1 a h
  generalize run bR rl_86 = S at e1 e2 e3 e6
  obtain ⟨n, K, L, I, J, P⟩ := S
  have e1' : n = 43 := e1
  have e2' : K = kR := e2
  have e3' : L = lR := e3
  have e6' : P = pR := e6
  subst e1' e2' e3' e6'
  rfl
end IS
