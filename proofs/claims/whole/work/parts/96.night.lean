/-! night -/
section NI
variable {S S' : MS} {I I' : Nat → Nat → Int32} {J : Nat → Nat → Int64} {np nw ep ew la lb na nb ea eb : Nat} {ps ws fs0 fs1 : Nat → Nat}
theorem L_clear {l n kd e : Nat} {xs : Nat → Nat} (h : Lst S l n kd e xs) (hl1 : l ≠ 1) : ∃ S', fJx4a65c_clear_da8c8 S l = some S' ∧ Lst S' l 0 kd e xs ∧ FrC S S' [l] [] [e] := by
  obtain ⟨⟨a1, a2, a3⟩, a4, a5⟩ := h
  unfold fJx4a65c_clear_da8c8 bJx4a65c_clear_da8c8_0
  rw [at_gI a1, Option.bind_some, at_sI a1, Option.bind_some]
  generalize hS7 : m_sI S l (upd (m_I S l) 0 (m_I S l 0 + 1)) = S7
  have f7 : FrC S S7 [l] [] [e] := by rw [← hS7]; exact FrC.sI hl1 (by simp)
  have b1 : m_at S7 l 0 := a1.fr f7
  have b2 : m_I S7 l 2 = nI n := by rw [← hS7, mI_same, upd_n (by decide)]; exact a2
  have b3 : m_P S7 l 1 = some e := by rw [← hS7]; exact a3
  rw [at_gP b1 b3, Option.bind_some, at_gI b1, b2, Option.bind_some, at_sI b1, Option.bind_some, fin_l]
  generalize hS8 : m_sI S7 l (upd (m_I S7 l) 2 0) = S8
  have f8 : FrC S7 S8 [l] [] [e] := by rw [← hS8]; exact FrC.sI hl1 (by simp)
  have c1 : m_at S8 l 0 := b1.fr f8
  have c2 : m_I S8 l 2 = nI 0 := by rw [← hS8, mI_same, upd_s]; rfl
  have c3 : m_P S8 l 1 = some e := by rw [← hS8]; exact b3
  have f78 := f7.tr f8
  have hel : m_at S e 15 → l ≠ e := fun z q => by
    have := a1.2.2
    rw [q, z.2.2] at this
    omega
  have hn33 : n ≤ 33 := by
    rcases a4 with ⟨-, h1⟩ | ⟨-, h1, h2⟩
    · omega
    · have := lens_b h2; omega
  obtain ⟨s, ⟨S9, hs, f9, k9⟩, he⟩ := lim_inv (step := sJx4a65c_clear_da8c8) (K := fun j s => ∃ S', s = (e, nI n, nI j, S') ∧ FrC S8 S' [] [] [e] ∧ m_P S' l = m_P S8 l) n (s0 := (e, nI n, nI 0, S8)) ⟨S8, rfl, FrC.rf, rfl⟩ (fun j hj s hs => by
    obtain ⟨S', rfl, f, k⟩ := hs
    rcases a4 with ⟨-, h1⟩ | ⟨h0, h1, h2⟩
    · omega
    · have e' : m_at S' e 15 := (h0.fr f78).fr f
      have l' : m_L S' e = m_L S e := by rw [(f.2.1 e (h0.fr f78).1 (h0.fr f78).2.1).2.1, (f78.2.1 e h0.1 h0.2.1).2.1]
      have hlb := lens_b h2
      refine ⟨(e, nI n, nI (j + 1), m_sP S' e (va_up (m_P S' e) j none)), ?_, _, rfl, f.tr (FrC.sP (by simp)), ?_⟩
      · show bJx4a65c_clear_da8c8_27 S' e (nI n) (nI j) = _
        have hst : o_stN S' e (nI j) = some (m_sP S' e (va_up (m_P S' e) j none)) := by
          have hc : (nI j).toNatClampNeg = j := nI_clamp (by omega)
          unfold o_stN
          rw [hc, if_pos]
          exact ⟨e', fun q => q.elim (nI_pos (by omega)) (fun q => by omega)⟩
        unfold bJx4a65c_clear_da8c8_27
        rw [if_neg (nI_ge hj (by omega)), hst, Option.bind_some, nI_1, Option.bind_some]
      · have := hel h0
        show va_up (m_P S') e _ l = _
        rw [up_n this]
        exact k)
  refine ⟨S9, ?_, ⟨⟨c1.fr f9, ?_, by rw [k9]; exact c3⟩, ?_, fun i hi => by omega⟩, f78.tr (f9.mono (by simp) (by simp) (by simp))⟩
  · rw [show lim sJx4a65c_clear_da8c8 (e, nI n, 0, S8) = _ from he, hs]
    apply lim_end
    show bJx4a65c_clear_da8c8_27 S9 e (nI n) (nI n) = _
    unfold bJx4a65c_clear_da8c8_27
    rw [if_pos (nI_le (Nat.le_refl _) (by omega))]
  · rw [(f9.2.1 l c1.1 c1.2.1).2.2.1 hl1 (by simp)]
    exact c2
  · rcases a4 with ⟨h0, h1⟩ | ⟨h0, h1, h2⟩
    · exact .inl ⟨h0, rfl⟩
    · have e8 := h0.fr f78
      refine .inr ⟨e8.fr f9, by omega, ?_⟩
      rw [(f9.2.1 e e8.1 e8.2.1).2.1, (f78.2.1 e h0.1 h0.2.1).2.1]
      exact h2
/-- the reference moves a front from today to yesterday -/
def mvF (I : Nat → Nat → Int32) (f : Nat) : Nat → Nat → Int32 := va_up (va_up (va_up (va_up (va_up I 22 (upd (I 22) f (I 22 (5 + f)))) 23 (upd (I 23) f (I 23 (5 + f)))) 24 (upd (I 24) f (I 24 (5 + f)))) 25 (upd (I 25) f (I 25 (5 + f)))) 26 (fil (I 26) (12 * f) 12 (fun x => I 26 (12 * (5 + f) + x)))
def nigh (I : Nat → Nat → Int32) : Nat → Nat → Nat → Int32
  | 0 => I
  | f + 1 => mvF (nigh I f) f
theorem mvF_r {K : Nat → Nat → Int32} {f : Nat} : mvF K f 22 = upd (K 22) f (K 22 (5 + f)) ∧ mvF K f 23 = upd (K 23) f (K 23 (5 + f)) ∧ mvF K f 24 = upd (K 24) f (K 24 (5 + f)) ∧ mvF K f 25 = upd (K 25) f (K 25 (5 + f)) ∧ mvF K f 26 = fil (K 26) (12 * f) 12 (fun x => K 26 (12 * (5 + f) + x)) ∧ mvF K f 21 = K 21 := by
  unfold mvF
  refine ⟨?_, ?_, ?_, ?_, ?_, ?_⟩
  · rw [up_n (by decide), up_n (by decide), up_n (by decide), up_n (by decide), up_s]
  · rw [up_n (by decide), up_n (by decide), up_n (by decide), up_s]
  · rw [up_n (by decide), up_n (by decide), up_s]
  · rw [up_n (by decide), up_s]
  · rw [up_s]
  · rw [up_n (by decide), up_n (by decide), up_n (by decide), up_n (by decide), up_n (by decide)]
theorem mvF_f {K : Nat → Nat → Int32} {f : Nat} : FrR K (mvF K f) [22, 23, 24, 25, 26] [] := by
  unfold mvF
  have s1 : FrR K (va_up K 22 (upd (K 22) f (K 22 (5 + f)))) [22, 23, 24, 25, 26] [] := FrR.up (by decide) (by simp)
  have s2 := s1.tr (FrR.up (a := 23) (f := upd (K 23) f (K 23 (5 + f))) (by decide) (by simp))
  have s3 := s2.tr (FrR.up (a := 24) (f := upd (K 24) f (K 24 (5 + f))) (by decide) (by simp))
  have s4 := s3.tr (FrR.up (a := 25) (f := upd (K 25) f (K 25 (5 + f))) (by decide) (by simp))
  exact s4.tr (FrR.up (a := 26) (f := fil (K 26) (12 * f) 12 (fun x => K 26 (12 * (5 + f) + x))) (by decide) (by simp))
theorem nigh_f (n : Nat) : FrR I (nigh I n) [22, 23, 24, 25, 26] [] := by
  induction n with
  | zero => exact FrR.rf
  | succ n ih => exact ih.tr mvF_f
theorem nigh_i (n : Nat) : ∀ f, f < 10 → n ≤ 5 → (f < n → nigh I n 22 f = I 22 (5 + f) ∧ nigh I n 23 f = I 23 (5 + f) ∧ nigh I n 24 f = I 24 (5 + f) ∧ nigh I n 25 f = I 25 (5 + f) ∧ ∀ x, x < 12 → nigh I n 26 (12 * f + x) = I 26 (12 * (5 + f) + x)) ∧ (n ≤ f → nigh I n 22 f = I 22 f ∧ nigh I n 23 f = I 23 f ∧ nigh I n 24 f = I 24 f ∧ nigh I n 25 f = I 25 f ∧ ∀ x, x < 12 → nigh I n 26 (12 * f + x) = I 26 (12 * f + x)) := by
  induction n with
  | zero => intro f _ _; exact ⟨fun h => by omega, fun _ => ⟨rfl, rfl, rfl, rfl, fun _ _ => rfl⟩⟩
  | succ n ih =>
    intro f hf hn
    obtain ⟨g22, g23, g24, g25, g26, -⟩ := mvF_r (K := nigh I n) (f := n)
    show (f < n + 1 → mvF (nigh I n) n 22 f = _ ∧ mvF (nigh I n) n 23 f = _ ∧ mvF (nigh I n) n 24 f = _ ∧ mvF (nigh I n) n 25 f = _ ∧ ∀ x, x < 12 → mvF (nigh I n) n 26 (12 * f + x) = _) ∧ (n + 1 ≤ f → mvF (nigh I n) n 22 f = _ ∧ mvF (nigh I n) n 23 f = _ ∧ mvF (nigh I n) n 24 f = _ ∧ mvF (nigh I n) n 25 f = _ ∧ ∀ x, x < 12 → mvF (nigh I n) n 26 (12 * f + x) = _)
    rw [g22, g23, g24, g25, g26]
    obtain ⟨p1, p2⟩ := ih f hf (by omega)
    obtain ⟨-, q2⟩ := ih (5 + n) (by omega) (by omega)
    obtain ⟨q22, q23, q24, q25, q26⟩ := q2 (by omega)
    refine ⟨fun h => ?_, fun h => ?_⟩
    · by_cases hfn : f = n
      · subst hfn
        rw [upd_s, upd_s, upd_s, upd_s]
        exact ⟨q22, q23, q24, q25, fun x hx => by rw [fil_i hx]; exact q26 x hx⟩
      · rw [upd_n hfn, upd_n hfn, upd_n hfn, upd_n hfn]
        obtain ⟨w1, w2, w3, w4, w5⟩ := p1 (by omega)
        exact ⟨w1, w2, w3, w4, fun x hx => by rw [fil_o (by omega)]; exact w5 x hx⟩
    · rw [upd_n (by omega), upd_n (by omega), upd_n (by omega), upd_n (by omega)]
      obtain ⟨w1, w2, w3, w4, w5⟩ := p2 (by omega)
      exact ⟨w1, w2, w3, w4, fun x hx => by rw [fil_o (by omega)]; exact w5 x hx⟩
theorem n5p (f : Nat) : (5 : Int32) + nI f = nI (5 + f) := nI_add 5 f
theorem R_night {n : Nat} (hn : n ≤ 5) (h1 : I 21 1 = nI n) : fX10_night (mkR I J) 1 = some (nI n, mkR (va_up (nigh I n) 21 (upd (upd (I 21) 0 (nI n)) 1 0)) J) := by
  have k21 : ∀ j, nigh I j 21 = I 21 := fun j => (nigh_f j).1 21 (by decide) (by simp)
  have ld1 : ∀ K : Nat → Nat → Int32, K 21 = I 21 → o_ld (mkR K J) 21 12 1 = some (nI n) := fun K hK => by rw [rL21 (show (1 : Int32) = nI 1 from rfl) (by omega), hK, h1]
  have step : ∀ f, f < n → lim sX10_night (.inl (1, nI f, mkR (nigh I f) J)) = lim sX10_night (.inl (1, nI (f + 1), mkR (nigh I (f + 1)) J)) := fun f hf => by
    rw [lim_eq]
    show fin sX10_night (bX10_night_2 (mkR (nigh I f) J) 1 (nI f)) = _
    have e22 : ∀ K : Nat → Nat → Int32, o_ld (mkR K J) 22 12 (nI (5 + f)) = some (K 22 (5 + f)) := fun K => rL22 rfl (by omega)
    unfold bX10_night_2
    rw [rP28, Option.bind_some, ld1 _ (k21 f), Option.bind_some, if_neg (nI_ge hf (by omega)), n5p, rP29, Option.bind_some, Option.bind_some, rL22 rfl (show 5 + f < 10 by omega), Option.bind_some, rS22 rfl (show f < 10 by omega), Option.bind_some, rP30, Option.bind_some, Option.bind_some, rL23 rfl (show 5 + f < 10 by omega), Option.bind_some, rS23 rfl (show f < 10 by omega), Option.bind_some, rP31, Option.bind_some, Option.bind_some, rL24 rfl (show 5 + f < 10 by omega), Option.bind_some, rS24 rfl (show f < 10 by omega), Option.bind_some, rP32, Option.bind_some, Option.bind_some, rL25 rfl (show 5 + f < 10 by omega), Option.bind_some, rS25 rfl (show f < 10 by omega), Option.bind_some, fin_l]
    generalize hK : nigh I f = K
    have u : ∀ {a b : Nat} (g : Nat → Nat → Int32) (v : Nat → Int32), a ≠ b → va_up g b v a = g a := fun g v h => up_n h
    have e23 : va_up K 22 (upd (K 22) f (K 22 (5 + f))) 23 = K 23 := u _ _ (by decide)
    rw [e23]
    have e24 : va_up (va_up K 22 (upd (K 22) f (K 22 (5 + f)))) 23 (upd (K 23) f (K 23 (5 + f))) 24 = K 24 := by rw [u _ _ (by decide), u _ _ (by decide)]
    rw [e24]
    have e25 : va_up (va_up (va_up K 22 (upd (K 22) f (K 22 (5 + f)))) 23 (upd (K 23) f (K 23 (5 + f)))) 24 (upd (K 24) f (K 24 (5 + f))) 25 = K 25 := by rw [u _ _ (by decide), u _ _ (by decide), u _ _ (by decide)]
    rw [e25]
    have e26 : va_up (va_up (va_up (va_up K 22 (upd (K 22) f (K 22 (5 + f)))) 23 (upd (K 23) f (K 23 (5 + f)))) 24 (upd (K 24) f (K 24 (5 + f)))) 25 (upd (K 25) f (K 25 (5 + f))) 26 = K 26 := by rw [u _ _ (by decide), u _ _ (by decide), u _ _ (by decide), u _ _ (by decide)]
    have hm : mvF K f = va_up (va_up (va_up (va_up (va_up K 22 (upd (K 22) f (K 22 (5 + f)))) 23 (upd (K 23) f (K 23 (5 + f)))) 24 (upd (K 24) f (K 24 (5 + f)))) 25 (upd (K 25) f (K 25 (5 + f)))) 26 (fil (K 26) (12 * f) 12 (fun x => K 26 (12 * (5 + f) + x))) := rfl
    have hs : nigh I (f + 1) = mvF K f := by rw [← hK]; rfl
    rw [hs, hm]
    generalize va_up (va_up (va_up (va_up K 22 (upd (K 22) f (K 22 (5 + f)))) 23 (upd (K 23) f (K 23 (5 + f)))) 24 (upd (K 24) f (K 24 (5 + f)))) 25 (upd (K 25) f (K 25 (5 + f))) = L at e26
    have l1 : lim sX10_night (.inr (1, nI f, nI 0, mkR (va_up L 26 (fil (K 26) (12 * f) 0 (fun x => K 26 (12 * (5 + f) + x)))) J)) = lim sX10_night (.inr (1, nI f, nI 12, mkR (va_up L 26 (fil (K 26) (12 * f) 12 (fun x => K 26 (12 * (5 + f) + x)))) J)) := by
      refine lim_it (step := sX10_night) (st := fun x => .inr (1, nI f, nI x, mkR (va_up L 26 (fil (K 26) (12 * f) x (fun x => K 26 (12 * (5 + f) + x)))) J)) 12 (fun x hx => ?_)
      show bX10_night_70 (mkR (va_up L 26 (fil (K 26) (12 * f) x (fun x => K 26 (12 * (5 + f) + x)))) J) 1 (nI f) (nI x) = _
      have i1 : (12 : Int32) * nI (5 + f) + nI x = nI (12 * (5 + f) + x) := by rw [show (12 : Int32) = nI 12 from rfl, nI_mul, nI_add]
      have i2 : (12 : Int32) * nI f + nI x = nI (12 * f + x) := by rw [show (12 : Int32) = nI 12 from rfl, nI_mul, nI_add]
      unfold bX10_night_70
      rw [if_neg (show ¬ (12 : Int32) ≤ nI x from nI_ge (b := 12) hx (by omega)), rP33, Option.bind_some, Option.bind_some, n5p, i1, i2, rL26 rfl (show 12 * (5 + f) + x < 120 by omega), Option.bind_some, rS26 rfl (show 12 * f + x < 120 by omega), Option.bind_some, nI_1, Option.bind_some, up_s, up_up, fil_o (by omega), fil_s]
    have l0 : va_up L 26 (fil (K 26) (12 * f) 0 (fun x => K 26 (12 * (5 + f) + x))) = L := by rw [fil_0, ← e26, up_id]
    rw [l0] at l1
    rw [show lim sX10_night (.inr (1, nI f, 0, mkR L J)) = _ from l1, lim_eq]
    show fin sX10_night (bX10_night_70 (mkR (va_up L 26 (fil (K 26) (12 * f) 12 (fun x => K 26 (12 * (5 + f) + x)))) J) 1 (nI f) (nI 12)) = _
    unfold bX10_night_70
    rw [if_pos (by decide), nI_1, Option.bind_some, fin_l]
  have all : ∀ f, f ≤ n → lim sX10_night (.inl (1, nI 0, mkR (nigh I 0) J)) = lim sX10_night (.inl (1, nI f, mkR (nigh I f) J)) := by
    intro f
    induction f with
    | zero => intro _; rfl
    | succ f ih => intro hf; rw [ih (by omega), step f (by omega)]
  unfold fX10_night bX10_night_0
  rw [fin_l, show lim sX10_night (.inl (1, 0, mkR I J)) = _ from all n (Nat.le_refl _)]
  apply lim_end
  show bX10_night_2 (mkR (nigh I n) J) 1 (nI n) = _
  unfold bX10_night_2
  rw [rP28, Option.bind_some, ld1 _ (k21 n), Option.bind_some, if_pos (nI_le (Nat.le_refl _) (by omega)), Option.bind_some, Option.bind_some, ld1 _ (k21 n), Option.bind_some, rS21 (show (0 : Int32) = nI 0 from rfl) (by omega), Option.bind_some, rP28, Option.bind_some, rS21 (show (1 : Int32) = nI 1 from rfl) (by omega), Option.bind_some, rP28, Option.bind_some, rL21 (show (0 : Int32) = nI 0 from rfl) (by omega), Option.bind_some, up_s, up_s, up_up, k21, upd_n (show (0 : Nat) ≠ 1 by decide), upd_s]
end NI
