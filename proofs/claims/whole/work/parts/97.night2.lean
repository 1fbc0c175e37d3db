/-! night, the call -/
section NJ
variable {S S' : MS} {I I' : Nat → Nat → Int32} {J : Nat → Nat → Int64} {np nw ep ew la lb na nb ea eb : Nat} {ps ws fs0 fs1 : Nat → Nat} {PI Q PL : List Nat}
theorem frC.mv {c f g : Nat} (h : frC S I c f) (hf : FrC S S' PI Q PL) (hx : Fx S S' PI PL) (h2 : I' 22 g = I 22 f) (h3 : I' 23 g = I 23 f) (h4 : I' 24 g = I 24 f) (h5 : I' 25 g = I 25 f) (h6 : ∀ x, x < 12 → I' 26 (12 * g + x) = I 26 (12 * f + x)) : frC S' I' c g := by
  obtain ⟨q, ⟨b1, b2⟩, c1, c2, c3, c4, c5, a, b, d1, d2, d3, d4, d5⟩ := h
  refine ⟨q, ⟨b1, b2⟩, c1.fr hf, ?_, c3.fr hf, ?_, ?_, a, b, d1, d2, h3.trans d3, h4.trans d4, fun x h7 h8 => ?_⟩
  · rw [hf.hiP hx c1 (by omega) (by omega)]; exact c2
  · rw [(hf.2.1 q c3.1 c3.2.1).2.1]; exact c4
  · rw [hf.hi hx c1 b1, h2, h3, h4, h5]; exact c5
  · rw [hf.hi hx c3 b2, h6 x (by omega)]; exact d5 x h7 h8
theorem pCl_k : ∀ t ∈ pCl, (0 < t.1 ∧ t.1 ≤ 50 ∧ kC t.1 ≠ 15) ∧ (t.1 = 1 → t.2.1 ≠ 3 ∧ t.2.1 ≠ 4) := fun t ht => of_decide_eq_true (List.all_eq_true.mp (by decide : pCl.all (fun t => decide ((0 < t.1 ∧ t.1 ≤ 50 ∧ kC t.1 ≠ 15) ∧ (t.1 = 1 → t.2.1 ≠ 3 ∧ t.2.1 ≠ 4))) = true) t ht)
theorem night_ok (hC : CS S) (hf : i_fr S I la lb na nb ea eb fs0 fs1) (j1 : dj eb ea) : ∃ (S' : MS) (I' : Nat → Nat → Int32), fX9_night S 1 = some (nI nb, S') ∧ fX10_night (mkR I J) 1 = some (nI nb, mkR I' J) ∧ CS S' ∧ i_fr S' I' lb la nb 0 eb ea fs1 fs0 ∧ FrC S S' [14, 15] [] [1, ea] ∧ FrR I I' [21, 22, 23, 24, 25, 26] [] := by
  obtain ⟨⟨pa, pb⟩, hll, h0, h1⟩ := hf
  have h50 := hC.1
  have a1 : m_at S 1 10 := hC.at 1 (by decide) (by decide)
  have hla : la ≠ 1 ∧ lb ≠ 1 ∧ lb ≠ la ∧ (la = 14 ∨ la = 15) ∧ (lb = 14 ∨ lb = 15) := by omega
  have ze : ∀ {x k : Nat}, m_at S x k → k ≠ 15 → (ea = 0 ∨ m_at S ea 15) → x ≠ ea := fun {x k} hx hk he q => by
    rcases he with he | he
    · have := hx.1; omega
    · rw [← q] at he; have := hx.2.2; have := he.2.2; omega
  have za := ze (x := 1) a1 (by decide) h0.2.2.1.e0
  have zb : lb ≠ ea := ze h1.2.2.1.1.1 (by decide) h0.2.2.1.e0
  have ne1 : ∀ {e : Nat}, (e = 0 ∨ m_at S e 15) → e ≠ 1 := fun he q => by
    rcases he with he | he
    · omega
    · rw [q] at he; have := a1.2.2; have := he.2.2; omega
  obtain ⟨I', r1, r2, r3⟩ : ∃ I', fX10_night (mkR I J) 1 = some (nI nb, mkR I' J) ∧ I' = va_up (nigh I nb) 21 (upd (upd (I 21) 0 (nI nb)) 1 0) ∧ FrR I I' [21, 22, 23, 24, 25, 26] [] := ⟨_, R_night h1.1 h1.2.1, rfl, ((nigh_f nb).mono (P' := [21, 22, 23, 24, 25, 26]) (Q' := []) (by simp) (by simp)).tr (FrR.up (by decide) (by simp))⟩
  unfold fX9_night bX9_night_0
  rw [at_gP a1 pa, Option.bind_some, at_gP a1 pb, Option.bind_some, at_sP a1, Option.bind_some]
  generalize hS10 : m_sP S 1 (va_up (m_P S 1) 3 (some lb)) = S10
  have f10 : FrC S S10 [] [] [1] := by rw [← hS10]; exact FrC.sP (by simp)
  have p10 : m_P S10 1 = va_up (m_P S 1) 3 (some lb) := by rw [← hS10]; show va_up (m_P S) 1 _ 1 = _; exact up_s
  have L10 : Lst S10 la na 4 ea fs0 := h0.2.2.1.fr f10 hla.1 (by simp) (by simp; exact hla.1) (.inr (by simp; exact Ne.symm za))
  obtain ⟨S14, e14, L14, f14⟩ := L_clear L10 hla.1
  rw [at_is (h0.2.2.1.1.1.fr f10), Option.bind_some, e14, Option.bind_some, at_sP ((a1.fr f10).fr f14), Option.bind_some]
  have p14 : m_P S14 1 = va_up (m_P S 1) 3 (some lb) := by
    rw [(f14.2.1 1 (by omega) (by have := f10.1; omega)).2.2.2 (by simp; exact za)]
    exact p10
  generalize hS19 : m_sP S14 1 (va_up (m_P S14 1) 4 (some la)) = S19
  have f19 : FrC S14 S19 [] [] [1] := by rw [← hS19]; exact FrC.sP (by simp)
  have p19 : m_P S19 1 = va_up (va_up (m_P S 1) 3 (some lb)) 4 (some la) := by
    rw [← hS19, ← p14]
    show va_up (m_P S14) 1 _ 1 = _
    exact up_s
  have fA : FrC S S19 [14, 15] [] [1, ea] := ((f10.mono (by simp) (by simp) (by simp)).tr (f14.mono (by intro x hx; simp at hx; rw [hx]; have := hla.2.2.2.1; simp; exact this) (by simp) (by simp))).tr (f19.mono (by simp) (by simp) (by simp))
  have fB : FrC S S19 [la] [] [1, ea] := ((f10.mono (by simp) (by simp) (by simp)).tr (f14.mono (by simp) (by simp) (by simp))).tr (f19.mono (by simp) (by simp) (by simp))
  have q3 : m_P S19 1 3 = some lb := by rw [p19, up_n (by decide), up_s]
  have q4 : m_P S19 1 4 = some la := by rw [p19, up_s]
  have hC' : CS S19 := by
    refine ⟨by have := fA.1; omega, fun a h0' hn => ?_, fun t ht => ?_, ?_⟩
    · obtain ⟨c1, c2, -⟩ := fA.2.1 a h0' (by omega)
      rw [c1, c2]
      exact hC.2.1 a h0' hn
    · obtain ⟨⟨t1, t2, t3⟩, t4⟩ := pCl_k t ht
      by_cases h : t.1 = 1
      · obtain ⟨t5, t6⟩ := t4 h
        rw [h, p19, up_n t6, up_n t5, ← h]
        exact hC.2.2.1 t ht
      · rw [(fA.2.1 t.1 t1 (by omega)).2.2.2 ?_]
        · exact hC.2.2.1 t ht
        · have := ze (hC.at t.1 t1 t2) t3 h0.2.2.1.e0
          simp
          exact ⟨h, this⟩
    · rcases hll with ⟨x, y⟩ | ⟨x, y⟩
      · exact .inr ⟨by rw [q3, y], by rw [q4, x]⟩
      · exact .inl ⟨by rw [q3, y], by rw [q4, x]⟩
  have L19 : Lst S19 la 0 4 ea fs0 := L14.fr f19 hla.1 (by simp) (by simp; exact hla.1) (.inr (by simp; exact ne1 h0.2.2.1.e0))
  have LB : Lst S19 lb nb 4 eb fs1 := h1.2.2.1.fr fB hla.2.1 (by simp; exact hla.2.2.1) (by simp; exact ⟨hla.2.1, zb⟩) (j1.imp_right (fun q => by simp; exact ⟨ne1 h1.2.2.1.e0, q⟩))
  have fx : Fx S S19 [la] [1, ea] := ⟨by simp; omega, fun x hx => by
    simp only [List.mem_cons, List.not_mem_nil, or_false] at hx
    rcases hx with hx | hx
    · omega
    · rcases h0.2.2.1.e0 with z | z
      · omega
      · rw [hx]; exact .inr (.inl z.2.2)⟩
  rw [at_gP (show m_at S19 1 10 from hC'.at 1 (by decide) (by decide)) q3, Option.bind_some, at_is LB.1.1, Option.bind_some, L_size LB, Option.bind_some]
  refine ⟨S19, I', rfl, r1, hC', ⟨⟨q3, q4⟩, by omega, ⟨h1.1, ?_, LB, fun f hfn => ?_⟩, ⟨by omega, ?_, L19, fun f hfn => by omega⟩⟩, fA, r3⟩
  · rw [r2, up_s, upd_n (by decide), upd_s]
  · obtain ⟨s1, -⟩ := nigh_i (I := I) nb f (by have := h1.1; omega) h1.1
    obtain ⟨s22, s23, s24, s25, s26⟩ := s1 hfn
    have e0 : 5 * 0 + f = f := by omega
    rw [e0]
    refine (h1.2.2.2 f hfn).mv (g := f) fB fx ?_ ?_ ?_ ?_ ?_
    · rw [r2, up_n (by decide)]; exact s22
    · rw [r2, up_n (by decide)]; exact s23
    · rw [r2, up_n (by decide)]; exact s24
    · rw [r2, up_n (by decide)]; exact s25
    · intro x hx
      rw [r2, up_n (by decide)]
      exact s26 x hx
  · rw [r2, up_s, upd_s]; rfl
end NJ
