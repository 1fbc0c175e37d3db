/-! verified -/
section VE
variable {S S' : MS} {I I' : Nat → Nat → Int32} {J : Nat → Nat → Int64} {np nw ep ew nf ef c q1 q2 q3 i r : Nat} {ps ws ff : Nat → Nat} {V : Nat → Int32} {z nn : Int32}
theorem rgb {r : Nat} (hr : r < 5) (x y : Int32) : ∃ b : Int32, (b = 0 ∨ b = 1) ∧ fX10_isOf (nI r) x y = some b ∧ fX2_isInRegion (cd r) x y = some b := by
  unfold fX10_isOf bX10_isOf_0 fX2_isInRegion bX2_isInRegion_0 bX10_isOf_110 bX2_isInRegion_114
  match r, hr with
  | 0, _ =>
    rw [if_pos (show nI 0 = 0 from rfl), if_neg (show ¬ cd 0 = 101 by decide), if_pos (show cd 0 = 110 from rfl)]
    by_cases h : (4 : Int32) ≤ y
    · rw [if_pos h, if_pos h]; exact ⟨0, .inl rfl, rfl, rfl⟩
    · rw [if_neg h, if_neg h]; exact ⟨1, .inr rfl, rfl, rfl⟩
  | 1, _ =>
    rw [if_neg (show ¬ nI 1 = 0 by decide), if_pos (show nI 1 = 1 from rfl), if_neg (show ¬ cd 1 = 101 by decide), if_neg (show ¬ cd 1 = 110 by decide), if_pos (show cd 1 = 115 from rfl)]
    by_cases h : y ≤ (7 : Int32)
    · rw [if_pos h, if_pos h]; exact ⟨0, .inl rfl, rfl, rfl⟩
    · rw [if_neg h, if_neg h]; exact ⟨1, .inr rfl, rfl, rfl⟩
  | 2, _ =>
    rw [if_neg (show ¬ nI 2 = 0 by decide), if_neg (show ¬ nI 2 = 1 by decide), if_pos (show nI 2 = 2 from rfl), if_neg (show ¬ cd 2 = 101 by decide), if_neg (show ¬ cd 2 = 110 by decide), if_neg (show ¬ cd 2 = 115 by decide), if_pos (show cd 2 = 119 from rfl)]
    by_cases h : (4 : Int32) ≤ x
    · rw [if_pos h, if_pos h]; exact ⟨0, .inl rfl, rfl, rfl⟩
    · rw [if_neg h, if_neg h]; exact ⟨1, .inr rfl, rfl, rfl⟩
  | 3, _ =>
    rw [if_neg (show ¬ nI 3 = 0 by decide), if_neg (show ¬ nI 3 = 1 by decide), if_neg (show ¬ nI 3 = 2 by decide), if_pos (show nI 3 = 3 from rfl), if_pos (show cd 3 = 101 from rfl)]
    by_cases h : x ≤ (7 : Int32)
    · rw [if_pos h, if_pos h]; exact ⟨0, .inl rfl, rfl, rfl⟩
    · rw [if_neg h, if_neg h]; exact ⟨1, .inr rfl, rfl, rfl⟩
  | 4, _ =>
    have e4 : (4 : Int32).toInt = 4 := rfl
    have e7 : (7 : Int32).toInt = 7 := rfl
    rw [if_neg (show ¬ nI 4 = 0 by decide), if_neg (show ¬ nI 4 = 1 by decide), if_neg (show ¬ nI 4 = 2 by decide), if_neg (show ¬ nI 4 = 3 by decide), if_neg (show ¬ cd 4 = 101 by decide), if_neg (show ¬ cd 4 = 110 by decide), if_neg (show ¬ cd 4 = 115 by decide), if_neg (show ¬ cd 4 = 119 by decide), R_inI x (show (4 : Int64).toInt = 4 from rfl) (show (7 : Int64).toInt = 7 from rfl), R_inI y (show (4 : Int64).toInt = 4 from rfl) (show (7 : Int64).toInt = 7 from rfl), C_isWithin, C_isWithin, e4, e7]
    by_cases h : 4 ≤ x.toInt ∧ x.toInt ≤ 7
    · by_cases h' : 4 ≤ y.toInt ∧ y.toInt ≤ 7
      · rw [bz_t h, bz_t h']; exact ⟨1, .inr rfl, rfl, rfl⟩
      · rw [bz_t h, bz_f h']; exact ⟨0, .inl rfl, rfl, rfl⟩
    · rw [bz_f h]; exact ⟨0, .inl rfl, rfl, rfl⟩
def rlP (V : Nat → Int32) (r j : Nat) : Prop := V j ≠ -9 ∧ fX10_isOf (nI r) (nI j - nI j / (12 : Int32) * (12 : Int32)) (nI j / (12 : Int32)) = some 1
def okP (z nn v : Int32) : Prop := z = 0 ∧ ¬ nn ≤ v ∨ z ≠ 0 ∧ ¬ v ≤ nn
def snP (V : Nat → Int32) (r n : Nat) : Prop := ∃ j, j < n ∧ rlP V r j
def gdP (V : Nat → Int32) (r : Nat) (z nn : Int32) (n : Nat) : Prop := ∀ j, j < n → rlP V r j → okP z nn (V j)
theorem fl_c {P Q : Prop} (h : P ↔ Q) : fl P = fl Q := congrArg fl (propext h)
theorem sn_no {j : Nat} (h : ¬ rlP V r j) : snP V r (j + 1) ↔ snP V r j := ⟨fun ⟨a, b, d⟩ => ⟨a, by
    have : a ≠ j := fun q => h (by rw [← q]; exact d)
    omega, d⟩, fun ⟨a, b, d⟩ => ⟨a, by omega, d⟩⟩
theorem gd_no {j : Nat} (h : ¬ rlP V r j) : gdP V r z nn (j + 1) ↔ gdP V r z nn j := ⟨fun q a b d => q a (by omega) d, fun q a b d => q a (by
    have : a ≠ j := fun q => h (by rw [← q]; exact d)
    omega) d⟩
theorem sn_yes {j : Nat} (h : rlP V r j) : snP V r (j + 1) := ⟨j, by omega, h⟩
theorem gd_yes {j : Nat} (h : rlP V r j) : gdP V r z nn (j + 1) ↔ gdP V r z nn j ∧ okP z nn (V j) := ⟨fun q => ⟨fun a b d => q a (by omega) d, q j (by omega) h⟩, fun q a b d => by
  by_cases e : a = j
  · rw [e]; exact q.2
  · exact q.1 a (by omega) d⟩
theorem C_isTrueL (hC : CS S) (g : fcG S c q1 q2 q3) (hi : i < 5) (hr : r < 5) (h1 : m_I S q1 i = cd r) (h2 : sg (m_I S q2 i) z) (h3 : m_I S q3 i = nn) (hV : ∀ k, k < 144 → m_I S 11 k = V k) (d : Nat) : ∀ j, j + d = 144 → gdP V r z nn j → lim (sX2_isTrue S) (c, nI i, 11, fl (snP V r j), nI j) = some (fl (snP V r 144 ∧ gdP V r z nn 144)) := by
  obtain ⟨b, n, ac, ⟨p1, p2, p3⟩, ⟨a1, l1⟩, ⟨a2, l2⟩, ⟨a3, l3⟩⟩ := g
  induction d with
  | zero =>
    intro j hj hg
    have hj' : j = 144 := by omega
    subst hj'
    apply lim_end
    show bX2_isTrue_5 S c (nI i) 11 (fl (snP V r 144)) (nI 144) = _
    unfold bX2_isTrue_5
    rw [if_pos (by decide), fl_zb, Option.bind_some, fl_c (P := snP V r 144) (Q := snP V r 144 ∧ gdP V r z nn 144) ⟨fun q => ⟨q, hg⟩, fun q => q.1⟩]
  | succ d ih =>
    intro j hj hg
    have hj144 : j < 144 := by omega
    rw [lim_eq]
    show fin (sX2_isTrue S) (bX2_isTrue_5 S c (nI i) 11 (fl (snP V r j)) (nI j)) = _
    unfold bX2_isTrue_5 bX2_isTrue_96 bX2_isTrue_105
    rw [if_neg (show ¬ (144 : Int32) ≤ nI j from nI_ge (b := 144) hj144 (by omega)), cL11 hC rfl hj144, Option.bind_some, hV j hj144, nI_1, Option.bind_some]
    have skip : ¬ rlP V r j → lim (sX2_isTrue S) (c, nI i, 11, fl (snP V r j), nI (j + 1)) = some (fl (snP V r 144 ∧ gdP V r z nn 144)) := fun h => by
      rw [← fl_c (sn_no h)]
      exact ih (j + 1) (by omega) ((gd_no h).mpr hg)
    by_cases h9 : V j = -9
    · rw [if_pos h9, fin_l]
      exact skip (fun q => q.1 h9)
    · rw [if_neg h9, at_gP ac p1, Option.bind_some, at_ld a1 l1 (by decide) rfl hi, Option.bind_some, h1]
      obtain ⟨bb, hb, e1, e2⟩ := rgb hr (nI j - nI j / (12 : Int32) * (12 : Int32)) (nI j / (12 : Int32))
      rw [e2, Option.bind_some]
      rcases hb with hb | hb
      · rw [hb, if_pos rfl, fin_l]
        exact skip (fun q => by have := q.2; rw [e1, hb] at this; cases this)
      · have hrl : rlP V r j := ⟨h9, by rw [e1, hb]⟩
        have bad : ¬ okP z nn (V j) → some (0 : Int32) = some (fl (snP V r 144 ∧ gdP V r z nn 144)) := fun h => by
          rw [fl_f (fun q => h (q.2 j hj144 hrl))]
        have good : okP z nn (V j) → lim (sX2_isTrue S) (c, nI i, 11, 1, nI (j + 1)) = some (fl (snP V r 144 ∧ gdP V r z nn 144)) := fun h => by
          rw [← fl_t (sn_yes hrl)]
          exact ih (j + 1) (by omega) ((gd_yes hrl).mpr ⟨hg, h⟩)
        rw [hb, if_neg (by decide), at_gP ac p2, Option.bind_some, at_ld a2 l2 (by decide) rfl hi, Option.bind_some, at_gP ac p3, Option.bind_some, Option.bind_some, at_ld a3 l3 (by decide) rfl hi, Option.bind_some, Option.bind_some, h3]
        rcases h2 with ⟨s1, s2⟩ | ⟨s1, s2⟩
        · rw [s1, if_pos rfl]
          by_cases h : nn ≤ V j
          · rw [if_pos h, if_pos rfl, fin_r]
            exact bad (fun q => by rcases q with q | q; exact q.2 h; exact q.1 s2)
          · rw [if_neg h, if_neg (by decide), fin_l]
            exact good (.inl ⟨s2, h⟩)
        · rw [s1, if_neg (by decide), at_ld a3 l3 (by decide) rfl hi, Option.bind_some, h3]
          by_cases h : V j ≤ nn
          · rw [if_pos h, if_pos rfl, fin_r]
            exact bad (fun q => by
              rcases q with q | q
              · rw [s2] at q; exact absurd q.1 (by decide)
              · exact q.2 h)
          · rw [if_neg h, if_neg (by decide), fin_l]
            exact good (.inr ⟨by rw [s2]; decide, h⟩)
theorem C_isTrue (hC : CS S) (g : fcG S c q1 q2 q3) (hi : i < 5) (hr : r < 5) (h1 : m_I S q1 i = cd r) (h2 : sg (m_I S q2 i) z) (h3 : m_I S q3 i = nn) (hV : ∀ k, k < 144 → m_I S 11 k = V k) : fX2_isTrue S c (nI i) 11 = some (fl (snP V r 144 ∧ gdP V r z nn 144)) := by
  unfold fX2_isTrue bX2_isTrue_0
  rw [fin_l]
  have h := C_isTrueL hC g hi hr h1 h2 h3 hV 144 0 (by omega) (fun j hj => by omega)
  rw [fl_f (fun ⟨j, hj, _⟩ => by omega)] at h
  exact h
theorem R_isTrue {f5 : Nat} (hf : f5 < 40) (hr : r < 5) (h34 : I 34 f5 = nI r) (h35 : I 35 f5 = z) (h36 : I 36 f5 = nn) (hV : ∀ k, k < 144 → I 17 k = V k) : fX10_isTrue (mkR I J) 1 (nI f5) = some (fl (snP V r 144 ∧ gdP V r z nn 144)) := by
  unfold fX10_isTrue bX10_isTrue_0
  rw [fin_l]
  have h0 : (1, nI f5, (0 : Int32), (1 : Int32), (0 : Int32)) = ((1 : Nat), nI f5, fl (snP V r 0), fl (gdP V r z nn 0), nI 0) := by
    rw [fl_f (P := snP V r 0) (fun ⟨j, hj, _⟩ => by omega), fl_t (P := gdP V r z nn 0) (fun j hj => by omega)]
    rfl
  rw [h0]
  refine lim_it2 (step := sX10_isTrue (mkR I J)) (st := fun j => (1, nI f5, fl (snP V r j), fl (gdP V r z nn j), nI j)) 144 (fun j hj => ?_) ?_
  · show bX10_isTrue_7 (mkR I J) 1 (nI f5) (fl (snP V r j)) (fl (gdP V r z nn j)) (nI j) = _
    unfold bX10_isTrue_7 bX10_isTrue_97 bX10_isTrue_93 bX10_isTrue_98 bX10_isTrue_99
    rw [if_neg (show ¬ (144 : Int32) ≤ nI j from nI_ge (b := 144) hj (by omega)), rP24, Option.bind_some, rL17 rfl hj, hV j hj, Option.bind_some, nI_1, Option.bind_some, Option.bind_some, Option.bind_some]
    have skip : ¬ rlP V r j → (some (.inl (1, nI f5, fl (snP V r j), fl (gdP V r z nn j), nI (j + 1))) : Option ((Nat × Int32 × Int32 × Int32 × Int32) ⊕ Int32)) = some (.inl (1, nI f5, fl (snP V r (j + 1)), fl (gdP V r z nn (j + 1)), nI (j + 1))) := fun h => by
      rw [← fl_c (sn_no h), ← fl_c (gd_no h)]
    by_cases h9 : V j = -9
    · rw [if_pos h9]
      exact skip (fun q => q.1 h9)
    · rw [if_neg h9, rP46, Option.bind_some, rL34 rfl hf, h34, Option.bind_some]
      obtain ⟨bb, hb, e1, e2⟩ := rgb hr (nI j - nI j / (12 : Int32) * (12 : Int32)) (nI j / (12 : Int32))
      rw [e1, Option.bind_some]
      rcases hb with hb | hb
      · rw [hb, if_pos rfl]
        exact skip (fun q => by have := q.2; rw [e1, hb] at this; cases this)
      · have hrl : rlP V r j := ⟨h9, by rw [e1, hb]⟩
        have bad : ¬ (gdP V r z nn j ∧ okP z nn (V j)) → (some (.inl (1, nI f5, 1, 0, nI (j + 1))) : Option ((Nat × Int32 × Int32 × Int32 × Int32) ⊕ Int32)) = some (.inl (1, nI f5, fl (snP V r (j + 1)), fl (gdP V r z nn (j + 1)), nI (j + 1))) := fun h => by
          rw [fl_t (sn_yes hrl), fl_f (fun q => h ((gd_yes hrl).mp q))]
        have good : gdP V r z nn j ∧ okP z nn (V j) → (some (.inl (1, nI f5, 1, 1, nI (j + 1))) : Option ((Nat × Int32 × Int32 × Int32 × Int32) ⊕ Int32)) = some (.inl (1, nI f5, fl (snP V r (j + 1)), fl (gdP V r z nn (j + 1)), nI (j + 1))) := fun h => by
          rw [fl_t (sn_yes hrl), fl_t ((gd_yes hrl).mpr h)]
        rw [hb, if_neg (by decide)]
        by_cases hg : gdP V r z nn j
        · rw [fl_t hg, if_neg (by decide), rP47, Option.bind_some, rL35 rfl hf, h35, Option.bind_some]
          simp only [rP48, rL36 rfl hf, h36, Option.bind_some]
          by_cases hz : z = 0
          · rw [if_pos hz]
            by_cases h : nn ≤ V j
            · rw [if_pos h]
              exact bad (fun q => by rcases q.2 with q | q; exact q.2 h; exact q.1 hz)
            · rw [if_neg h]
              exact good ⟨hg, .inl ⟨hz, h⟩⟩
          · rw [if_neg hz]
            by_cases h : V j ≤ nn
            · rw [if_pos h]
              exact bad (fun q => by rcases q.2 with q | q; exact hz q.1; exact q.2 h)
            · rw [if_neg h]
              exact good ⟨hg, .inr ⟨hz, h⟩⟩
        · rw [fl_f hg, if_pos rfl]
          exact bad (fun q => hg q.1)
  · show bX10_isTrue_7 (mkR I J) 1 (nI f5) (fl (snP V r 144)) (fl (gdP V r z nn 144)) (nI 144) = _
    unfold bX10_isTrue_7 bX10_isTrue_117 bX10_isTrue_118
    rw [if_pos (by decide)]
    by_cases hs : snP V r 144
    · rw [fl_t hs, if_neg (by decide)]
      by_cases hg : gdP V r z nn 144
      · rw [fl_t hg, if_neg (by decide), fl_t ⟨hs, hg⟩]; rfl
      · rw [fl_f hg, if_pos rfl, fl_f (fun q => hg q.2)]; rfl
    · rw [fl_f hs, if_pos rfl, fl_f (fun q => hs q.1)]; rfl
end VE
