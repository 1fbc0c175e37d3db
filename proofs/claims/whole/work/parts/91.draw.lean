/-! draw, whole -/
section DW
variable {S S' : MS} {I I' : Nat → Nat → Int32} {J : Nat → Nat → Int64} {np nw ep ew : Nat} {ps ws : Nat → Nat} {PI Q PL P QR : List Nat}
noncomputable def dIn (S : MS) (k : Nat) (i n d kd a b : Int32) : Option (Int32 × MS) :=
  b2 (fX5_takesGates S 16 (44 + 2 * k) i n) fun v116 S116 =>
  if v116 = 0 then
    some ((-2 : Int32), S116)
  else
    (o_gP S116 1 10 5).bind fun v126 =>
    (o_is S116 v126 6).bind fun _ =>
    b2 (fX5_bestStart S116 v126 a b) fun v132 S132 =>
    if v132 = (-9 : Int32) then
      some ((-3 : Int32), S132)
    else
      (o_is S132 1 10).bind fun _ =>
      (fX9_frontsOf S132 1 d).bind fun v149 =>
      (o_is S132 v149 0).bind fun _ =>
      (fJx4a65c_size_8abf5 S132 v149).bind fun v156 =>
      if v156 < (5 : Int32) then
        (o_gP S132 1 10 5).bind fun v169 =>
        (o_is S132 v169 6).bind fun _ =>
        b2 (fX5_drawn S132 v169 kd a b v132) fun v178 S178 =>
        (o_is S178 v149 0).bind fun _ =>
        b2 (fJx4a65c_add_9ea2d S178 v149 v178) fun v181 S181 =>
        (o_is S181 v149 0).bind fun _ =>
        (fJx4a65c_size_8abf5 S181 v149).bind fun v187 =>
        some ((v187 - (1 : Int32)), S181)
      else
        some ((-4 : Int32), S132)
theorem pCl_l : ∀ t ∈ pCl, t.1 ≠ 14 ∧ t.1 ≠ 15 := by decide
theorem C_fronts {d l : Nat} (hC : CS S) (hd : d < 2) (h0 : d = 0 → m_P S 1 3 = some l) (h1 : d = 1 → m_P S 1 4 = some l) : fX9_frontsOf S 1 (nI d) = some l := by
  have a1 : m_at S 1 10 := hC.at 1 (by decide) (by decide)
  unfold fX9_frontsOf bX9_frontsOf_0 bX9_frontsOf_15
  match d, hd with
  | 0, _ => rw [if_pos (show nI 0 = 0 from rfl), at_gP a1 (h0 rfl), Option.bind_some]
  | 1, _ => rw [if_neg (by decide), at_gP a1 (h1 rfl), Option.bind_some]
theorem C_drawIn {k i n d kd a b m5 l e : Nat} {fs : Nat → Nat} {D : Nat → Int32} (hC : CS S) (hF : Frs S I d m5 l e fs) (hl : l = 14 ∨ l = 15) (hd : d < 2) (h0 : d = 0 → m_P S 1 3 = some l) (h1 : d = 1 → m_P S 1 4 = some l) (hk : k < 4) (hi : i + 3 * n ≤ 60) (hab : a < b) (hb : b < 12) (hD : ∀ j, j < 3 * n → m_I S (44 + 2 * k) (i + j) = D j) : ((¬ ∀ g, g < n → gok D g) ∧ ∃ S', dIn S k (nI i) (nI n) (nI d) (nI kd) (nI a) (nI b) = some (-2, S') ∧ FrC S S' [17, 18, 19] [] []) ∨ ((∀ g, g < n → gok D g) ∧ (((bsO (fun y => ccv (loG D n) (hiG D n) b a y 5) 1000 12).1 = none ∧ ∃ S', dIn S k (nI i) (nI n) (nI d) (nI kd) (nI a) (nI b) = some (-3, S') ∧ FrC S S' [17, 18, 19] [] []) ∨ ∃ s, (bsO (fun y => ccv (loG D n) (hiG D n) b a y 5) 1000 12).1 = some s ∧ ((m5 = 5 ∧ ∃ S', dIn S k (nI i) (nI n) (nI d) (nI kd) (nI a) (nI b) = some (-4, S') ∧ FrC S S' [17, 18, 19] [] []) ∨ (m5 < 5 ∧ ∃ S' o q e', dIn S k (nI i) (nI n) (nI d) (nI kd) (nI a) (nI b) = some (nI m5, S') ∧ FrC S S' [17, 18, 19, l] [] [l, e] ∧ CS S' ∧ Lst S' l (m5 + 1) 4 e' (va_up fs m5 o) ∧ (e' = e ∨ m_n S < e') ∧ (m_n S < o ∧ m_n S < q) ∧ m_at S' o 4 ∧ m_P S' o 4 = some q ∧ m_at S' q 12 ∧ m_L S' q = 12 ∧ (m_I S' o 0 = nI kd ∧ m_I S' o 1 = nI a ∧ m_I S' o 2 = nI b ∧ m_I S' o 3 = nI (gg (loG D n) (hiG D n) b 1000 (b - a) s 5)) ∧ (s < 12 ∧ letb (loG D n) (hiG D n) a s = true ∧ gg (loG D n) (hiG D n) b 1000 (b - a) s 5 < 1000) ∧ ∀ k, k ≤ b - a → m_I S' q (a + k) = nI (pth (loG D n) (hiG D n) b a s k).1)))) := by
  have hm5 := hF.1
  have h50 := hC.1
  obtain ⟨r, S1, e1, f1, hr⟩ := C_takesGates hC hk hi hD
  unfold dIn
  rw [e1, b2_s]
  rcases hr with ⟨hr, hok, hg⟩ | ⟨hr, hok⟩
  · right
    refine ⟨hok, ?_⟩
    have C1 : CS S1 := hC.fr f1 (by simp) (by simp)
    obtain ⟨S2, e2, f2, hct⟩ := C_bestStart C1 hg hb (show a ≤ b by omega)
    have C2 : CS S2 := C1.fr f2 (by simp) (by simp)
    have hsome := fun s h => bsO_some (f := fun y => ccv (loG D n) (hiG D n) b a y 5) (B := 1000) (y := s) 12 h
    have fS2 : FrC S S2 [17, 18, 19] [] [] := (f1.mono (by simp) (by simp) (by simp)).tr (f2.mono (by simp) (by simp) (by simp))
    rw [hr, if_neg (by decide), cP1_5 C1, Option.bind_some, cIs16 C1, Option.bind_some, e2, b2_s]
    generalize hw : bsO (fun y => ccv (loG D n) (hiG D n) b a y 5) 1000 12 = w at hsome
    cases ho : w.1 with
    | none =>
      left
      rw [if_pos (show bn none = -9 from rfl)]
      exact ⟨rfl, S2, rfl, fS2⟩
    | some s =>
      right
      refine ⟨s, rfl, ?_⟩
      obtain ⟨hs, hs2, hs3⟩ := hsome s ho
      have hlt : letb (loG D n) (hiG D n) a s = true := by
        cases hq : letb (loG D n) (hiG D n) a s with
        | true => rfl
        | false =>
          unfold ccv at hs3
          rw [hq] at hs3
          simp at hs3
      have hgl : gg (loG D n) (hiG D n) b 1000 (b - a) s 5 < 1000 := by
        unfold ccv at hs3
        rw [if_pos hlt] at hs3
        exact hs3
      have p1 : m_P S2 1 = m_P S 1 := (fS2.2.1 1 (by omega) (by omega)).2.2.2 (by simp)
      have fx2 : Fx S S2 [17, 18, 19] [] := ⟨by simp, by simp⟩
      have hl50 : l ≤ 50 := by omega
      have L2 := hF.2.2.1.fr fS2 (by omega) (by simp; omega) (by simp) (.inr (by simp))
      have hfo := C_fronts (d := d) (l := l) C2 hd (fun z => by rw [p1]; exact h0 z) (fun z => by rw [p1]; exact h1 z)
      rw [if_neg (show ¬ bn (some s) = -9 from m9 (by omega)), cIs1 C2, Option.bind_some, hfo, Option.bind_some, at_is L2.1.1, Option.bind_some, L_size L2, Option.bind_some]
      by_cases h5 : m5 = 5
      · left
        rw [if_neg (by rw [h5]; decide)]
        exact ⟨h5, S2, rfl, fS2⟩
      · right
        rw [if_pos (show nI m5 < 5 from nI_lt (b := 5) (by omega) (by omega)), cP1_5 C2, Option.bind_some, cIs16 C2, Option.bind_some]
        obtain ⟨S3, o, q, e3, f3, ho3, hq3, a3, p3, q3, l3, i3, y3⟩ := C_drawn (kd := kd) C2 hab hb hs hlt hgl hct
        have C3 : CS S3 := C2.fr f3 (by simp) (by simp)
        have L3 := L2.fr f3 (by omega) (by simp) (by simp) (.inr (by simp))
        obtain ⟨S4, e', e4, L4, f4, he'⟩ := L_add L3 (by omega) (by omega) (by unfold o_okk; decide) a3
        have eo := L3.e0
        have C4 : CS S4 := C3.fr f4 (fun t ht => by
          have := pCl_b t ht
          have h2 := pCl_l t ht
          have := e_out C3 eo this.1 this.2.1
          simp; omega) (by
          have := e_out C3 eo (a := 1) (by omega) (by omega)
          simp; omega)
        have n2 : m_n S ≤ m_n S2 := fS2.1
        have n3 : m_n S2 ≤ m_n S3 := f3.1
        have hoe : o ≠ e := fun z => by
          rcases eo with h | h
          · omega
          · have := a3.2.2
            rw [z, h.2.2] at this
            omega
        have io : m_I S4 o = m_I S3 o := (f4.2.1 o a3.1 a3.2.1).2.2.1 (by omega) (by simp; omega)
        have po : m_P S4 o = m_P S3 o := (f4.2.1 o a3.1 a3.2.1).2.2.2 (by simp; omega)
        have iq : m_I S4 q = m_I S3 q := (f4.2.1 q q3.1 q3.2.1).2.2.1 (by omega) (by simp; omega)
        refine ⟨by omega, S4, o, q, e', ?_, ?_, C4, L4, ?_, ⟨by omega, by omega⟩, a3.fr f4, ?_, q3.fr f4, ?_, ?_, ⟨hs, hlt, hgl⟩, fun k hk => ?_⟩
        · rw [show fX5_drawn S2 16 (nI kd) (nI a) (nI b) (bn (some s)) = _ from e3, b2_s, at_is L3.1.1, Option.bind_some, e4, b2_s, at_is L4.1.1, Option.bind_some, L_size L4, Option.bind_some, nI_pred]
        · exact ((fS2.mono (by simp) (by simp) (by simp)).tr (f3.mono (by simp) (by simp) (by simp))).tr (f4.mono (by simp) (by simp) (by simp))
        · exact he'.imp_right (fun z => by omega)
        · rw [po]; exact p3
        · rw [(f4.2.1 q q3.1 q3.2.1).2.1]; exact l3
        · rw [io]; exact i3
        · rw [iq]; exact y3 k hk
  · left
    rw [hr, if_pos rfl]
    exact ⟨hok, S1, rfl, f1.mono (by simp) (by simp) (by simp)⟩
end DW
