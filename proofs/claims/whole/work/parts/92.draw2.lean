/-! draw, both sides -/
section DB
variable {S S' : MS} {I I' : Nat → Nat → Int32} {J : Nat → Nat → Int64} {np nw ep ew la lb na nb ea eb : Nat} {ps ws fs0 fs1 : Nat → Nat} {PI Q PL P QR : List Nat}
def i_fr (S : MS) (I : Nat → Nat → Int32) (la lb na nb ea eb : Nat) (fs0 fs1 : Nat → Nat) : Prop := (m_P S 1 3 = some la ∧ m_P S 1 4 = some lb) ∧ (la = 14 ∧ lb = 15 ∨ la = 15 ∧ lb = 14) ∧ Frs S I 0 na la ea fs0 ∧ Frs S I 1 nb lb eb fs1
theorem rF_fr {v : Int32} (h : FrR I I' P QR) : FrR (rF I v) (rF I' v) P QR := ⟨fun a h1 h2 => by rw [rF_1 h1, rF_1 h1]; exact h.1 a h1 h2, fun k h1 => by
  by_cases h0 : k = 0
  · rw [h0, rF_s, rF_s]
  · rw [rF_o h0, rF_o h0]; exact h.2 k h1⟩
theorem i_fr.fr (h : i_fr S I la lb na nb ea eb fs0 fs1) (hn : 1 ≤ m_n S) (hf : FrC S S' PI Q PL) (hx : Fx S S' PI PL) (h1 : 1 ∉ PL) (h14 : 14 ∉ PI ∧ 15 ∉ PI) (p14 : 14 ∉ PL ∧ 15 ∉ PL) (he0 : ea = 0 ∨ ea ∉ PL) (he1 : eb = 0 ∨ eb ∉ PL) (hr : FrR I I' P QR) (hP : ∀ r ∈ P, r < 21 ∨ 26 < r) : i_fr S' I' la lb na nb ea eb fs0 fs1 := by
  obtain ⟨⟨a1, a2⟩, a3, a4, a5⟩ := h
  have p1 : m_P S' 1 = m_P S 1 := (hf.2.1 1 (by omega) hn).2.2.2 h1
  have no : ∀ r, 21 ≤ r → r ≤ 26 → I' r = I r := fun r h2 h3 => hr.1 r (by omega) (fun q => by have := hP r q; omega)
  have r6 : ∀ d f, f < 5 → I' 22 (5 * d + f) = I 22 (5 * d + f) ∧ I' 23 (5 * d + f) = I 23 (5 * d + f) ∧ I' 24 (5 * d + f) = I 24 (5 * d + f) ∧ I' 25 (5 * d + f) = I 25 (5 * d + f) ∧ ∀ x, x < 12 → I' 26 (12 * (5 * d + f) + x) = I 26 (12 * (5 * d + f) + x) := fun d f _ => by
    rw [no 22 (by omega) (by omega), no 23 (by omega) (by omega), no 24 (by omega) (by omega), no 25 (by omega) (by omega), no 26 (by omega) (by omega)]
    exact ⟨rfl, rfl, rfl, rfl, fun _ _ => rfl⟩
  have hl0 : la ∉ PI ∧ la ∉ PL ∧ la ≠ 1 := by rcases a3 with ⟨e, -⟩ | ⟨e, -⟩ <;> subst e <;> exact ⟨by first | exact h14.1 | exact h14.2, by first | exact p14.1 | exact p14.2, by decide⟩
  have hl1 : lb ∉ PI ∧ lb ∉ PL ∧ lb ≠ 1 := by rcases a3 with ⟨-, e⟩ | ⟨-, e⟩ <;> subst e <;> exact ⟨by first | exact h14.1 | exact h14.2, by first | exact p14.1 | exact p14.2, by decide⟩
  exact ⟨⟨by rw [p1]; exact a1, by rw [p1]; exact a2⟩, a3, a4.fr hf hx hl0.2.2 hl0.1 hl0.2.1 he0 (by rw [no 21 (by omega) (by omega)]) (r6 0), a5.fr hf hx hl1.2.2 hl1.1 hl1.2.1 he1 (by rw [no 21 (by omega) (by omega)]) (r6 1)⟩
/-- a front more on day d -/
theorem frs_new {d n l e kd a b s o q e' : Nat} {fs : Nat → Nat} {lo hi : Nat → Nat} {I3 : Nat → Nat → Int32} (hF : Frs S I d n l e fs) (hC : CS S) (hn5 : n < 5) (hdd : d < 2) (hl : l = 14 ∨ l = 15) (hab : a < b) (hb : b < 12) (hf : FrC S S' [17, 18, 19, l] Q [l, e]) (hL : Lst S' l (n + 1) 4 e' (va_up fs n o)) (ho : m_n S < o ∧ m_n S < q) (oat : m_at S' o 4) (oq : m_P S' o 4 = some q) (qat : m_at S' q 12) (lq : m_L S' q = 12) (io : m_I S' o 0 = nI kd ∧ m_I S' o 1 = nI a ∧ m_I S' o 2 = nI b ∧ m_I S' o 3 = nI (gg lo hi b 1000 (b - a) s 5)) (hs : s < 12 ∧ letb lo hi a s = true ∧ gg lo hi b 1000 (b - a) s 5 < 1000) (hy : ∀ k, k ≤ b - a → m_I S' q (a + k) = nI (pth lo hi b a s k).1) (f3 : FrR I I3 [26, 27, 28, 29] []) (y3 : ∀ k, k ≤ b - a → I3 26 (12 * (5 * d + n) + (a + k)) = nI (pth lo hi b a s k).1) (o3 : ∀ i, (i < 12 * (5 * d + n) ∨ 12 * (5 * d + n) + 12 ≤ i) → I3 26 i = I 26 i) : Frs S' (rF (addF I3 (5 * d + n) kd a b (gg lo hi b 1000000 (b - a) s 5) d n) 0) d (n + 1) l e' (va_up fs n o) ∧ ∀ {d' n' l' e'' : Nat} {fs' : Nat → Nat}, d' ≠ d → d' < 2 → d < 2 → l' ≠ 1 → l' ∉ [17, 18, 19, l] → l' ∉ [l, e] → (e'' = 0 ∨ e'' ∉ [l, e]) → Frs S I d' n' l' e'' fs' → Frs S' (rF (addF I3 (5 * d + n) kd a b (gg lo hi b 1000000 (b - a) s 5) d n) 0) d' n' l' e'' fs' := by
  have h50 := hC.1
  obtain ⟨g22, g23, g24, g25, g21, g26, -⟩ := addF_r (K := I3) (f := 5 * d + n) (kd := kd) (a := a) (b := b) (m := gg lo hi b 1000000 (b - a) s 5) (d := d) (n := n)
  generalize hK : addF I3 (5 * d + n) kd a b (gg lo hi b 1000000 (b - a) s 5) d n = K at *
  have r : ∀ x, x ≠ 1 → rF K 0 x = K x := fun x hx => rF_1 hx
  have i21 : I3 21 = I 21 := f3.1 21 (by decide) (by simp)
  have i22 : I3 22 = I 22 := f3.1 22 (by decide) (by simp)
  have i23 : I3 23 = I 23 := f3.1 23 (by decide) (by simp)
  have i24 : I3 24 = I 24 := f3.1 24 (by decide) (by simp)
  have i25 : I3 25 = I 25 := f3.1 25 (by decide) (by simp)
  have eo := hF.2.2.1.e0
  have kl : m_K S l = 0 := hF.2.2.1.1.1.2.2
  have fx : Fx S S' [17, 18, 19, l] [l, e] := ⟨by simp; omega, fun x hx => by
    simp only [List.mem_cons, List.not_mem_nil, or_false] at hx
    rcases hx with hx | hx
    · rw [hx]; exact .inl kl
    · rcases eo with z | z
      · omega
      · rw [hx]; exact .inr (.inl z.2.2)⟩
  have rows : ∀ f, f ≠ 5 * d + n → f < 10 → rF K 0 22 f = I 22 f ∧ rF K 0 23 f = I 23 f ∧ rF K 0 24 f = I 24 f ∧ rF K 0 25 f = I 25 f ∧ ∀ x, x < 12 → rF K 0 26 (12 * f + x) = I 26 (12 * f + x) := fun f h1 h2 => by
    rw [r 22 (by decide), r 23 (by decide), r 24 (by decide), r 25 (by decide), r 26 (by decide), g22, g23, g24, g25, g26, upd_n h1, upd_n h1, upd_n h1, upd_n h1, i22, i23, i24, i25]
    exact ⟨rfl, rfl, rfl, rfl, fun x hx => o3 _ (by omega)⟩
  refine ⟨⟨by omega, ?_, hL, fun f hf1 => ?_⟩, fun {d' n' l' e'' fs'} hd1 hd2 hd3 hl1 hl2 hl3 he hF' => hF'.fr hf fx hl1 hl2 hl3 he ?_ (fun f hf1 => ?_)⟩
  · rw [r 21 (by decide), g21, upd_s]
  · by_cases hfn : f = n
    · subst hfn
      rw [up_s]
      obtain ⟨j0, j1, j2, j3⟩ := io
      have hpo := pth_ok hab hb hs.1 hs.2.1 hs.2.2
      have hgs := gg_sim (lo := lo) (hi := hi) (b := b) (B := 1000) (B' := 1000000) (by omega) (by omega) (b - a) s 5 (by omega) (by omega)
      have hge : gg lo hi b 1000 (b - a) s 5 = gg lo hi b 1000000 (b - a) s 5 := by
        have := hs.2.2
        unfold sim at hgs
        omega
      refine ⟨q, ⟨by omega, by omega⟩, oat, oq, qat, lq, ⟨?_, ?_, ?_, ?_⟩, a, b, hab, hb, ?_, ?_, fun x h1 h2 => ?_⟩
      · rw [r 22 (by decide), g22, upd_s]; exact j0
      · rw [r 23 (by decide), g23, upd_s]; exact j1
      · rw [r 24 (by decide), g24, upd_s]; exact j2
      · rw [r 25 (by decide), g25, upd_s, ← hge]; exact j3
      · rw [r 23 (by decide), g23, upd_s]
      · rw [r 24 (by decide), g24, upd_s]
      · obtain ⟨k, rfl⟩ : ∃ k, x = a + k := ⟨x - a, by omega⟩
        rw [r 26 (by decide), g26, hy k (by omega), y3 k (by omega)]
        exact ⟨rfl, _, (hpo k (by omega)).1, rfl⟩
    · rw [up_n hfn]
      obtain ⟨s1, s2, s3, s4, s5⟩ := rows (5 * d + f) (by omega) (by
        omega)
      exact (hF.2.2.2 f (by omega)).fr hf fx s1 s2 s3 s4 s5
  · rw [r 21 (by decide), g21, upd_n hd1, i21]
  · obtain ⟨s1, s2, s3, s4, s5⟩ := rows (5 * d' + f) (by omega) (by omega)
    exact ⟨s1, s2, s3, s4, s5⟩
end DB
