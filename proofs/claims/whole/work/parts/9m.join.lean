/-! joining and front, both sides -/
section JO
variable {S S' : MS} {I I' : Nat → Nat → Int32} {J : Nat → Nat → Int64} {la lb na nb ea eb : Nat} {fs0 fs1 : Nat → Nat}
def OkM (S : MS) (I : Nat → Nat → Int32) (J : Nat → Nat → Int64) (c r : Option (Int32 × MS)) : Prop := ∃ (x : Int32) (S' : MS) (I' : Nat → Nat → Int32), c = some (x, S') ∧ r = some (x, mkR I' J) ∧ CS S' ∧ FrC S S' mPI [] [] ∧ FrR I I' [30] [38]
theorem jcG_c (h22 : I' 22 = I 22) (h23 : I' 23 = I 23) (h24 : I' 24 = I 24) (h26 : I' 26 = I 26) (big : Int) (f g : Nat) : jcG big I' f g = jcG big I f g := by
  have e1 : jq I' = jq I := by funext f x; unfold jq; rw [h26]
  have e2 : jW I' = jW I := by funext f; unfold jW; rw [h23]
  have e3 : jE I' = jE I := by funext f; unfold jE; rw [h24]
  unfold jcG
  rw [e1, e2, e3, h22]
theorem frI_c {f : Nat} (h23 : I' 23 = I 23) (h24 : I' 24 = I 24) (h26 : I' 26 = I 26) (h : frI I f) : frI I' f := by
  unfold frI
  rw [h23, h24, h26]
  exact h
theorem both_match (hC : CS S) (hf : i_fr S I la lb na nb ea eb fs0 fs1) : ∃ S' I' L, fX4_match S 20 la lb = some (zI L, S') ∧ fX10_findJoining (mkR I J) 1 = some (mkR I' J) ∧ CS S' ∧ FrC S S' mPI [] [] ∧ FrR I I' [30] [38] ∧ I' 1 38 = zI L ∧ ∀ f, f < na → m_I S' 34 f = I' 30 f := by
  obtain ⟨⟨pa, pb⟩, hll, ⟨n0, i0, L0, c0⟩, ⟨n1, i1, L1, c1⟩⟩ := hf
  have z0 : ∀ f, f < na → frC S I (fs0 f) f := fun f hf => by have := c0 f hf; rw [show 5 * 0 + f = f by omega] at this; exact this
  have z1 : ∀ g, g < nb → frC S I (fs1 g) (5 + g) := fun g hg => by have := c1 g hg; rw [show 5 * 1 + g = 5 + g by omega] at this; exact this
  have hPC : PC (fun f g => jcG 1000 I f (5 + g)) (fun f g => jcG 1000000 I f (5 + g)) na nb := fun f g hf hg => by
    rcases jcG_b (z0 f hf).i (z1 g hg).i 1000 with ⟨a, b, d⟩ | a
    · exact .inl ⟨a, b, d 1000000⟩
    · exact .inr ⟨a 1000, a 1000000⟩
  obtain ⟨S', m1, m2, m3, m4⟩ := C_match hC hPC n0 n1 (by omega) (by omega) L0 L1 (fun S' f' f g hf hg => by
    have fx : Fx S S' mPI [] := ⟨by unfold mPI; simp, by simp⟩
    exact C_pairCost ((z0 f hf).fr f' fx rfl rfl rfl rfl (fun _ _ => rfl)) ((z1 g hg).fr f' fx rfl rfl rfl rfl (fun _ _ => rfl)))
  obtain ⟨I', r1, r2, r3, r4⟩ := R_findJoining (J := J) hPC n0 n1 i0 i1 (fun I' f' f g hf hg => by
    have h22 : I' 22 = I 22 := f'.1 22 (by decide) (by simp)
    have h23 : I' 23 = I 23 := f'.1 23 (by decide) (by simp)
    have h24 : I' 24 = I 24 := f'.1 24 (by decide) (by simp)
    have h26 : I' 26 = I 26 := f'.1 26 (by decide) (by simp)
    rw [R_costOf (by omega) (by omega) (frI_c h23 h24 h26 (z0 f hf).i) (frI_c h23 h24 h26 (z1 g hg).i), jcG_c h22 h23 h24 h26])
  exact ⟨S', I', _, m1, r1, m2, m3, r2, r3, fun f hf => by rw [m4 f hf, r4 f hf]⟩
theorem joining_ok (hC : CS S) (hf : i_fr S I la lb na nb ea eb fs0 fs1) : OkM S I J (fX9_joining S 1) (fX10_joining (mkR I J) 1) := by
  obtain ⟨S', I', L, m1, r1, c, f1, f2, h38, -⟩ := both_match (J := J) hC hf
  have a1 : m_at S 1 10 := hC.at 1 (by decide) (by decide)
  unfold fX9_joining bX9_joining_0 fX10_joining bX10_joining_0
  rw [cP1_6 hC, Option.bind_some, at_gP a1 hf.1.1, Option.bind_some, at_gP a1 hf.1.2, Option.bind_some, cIs20 hC, Option.bind_some, m1, b2_s, rIs, Option.bind_some, r1, Option.bind_some, rI, h38, Option.bind_some]
  exact ⟨_, S', I', rfl, rfl, c, f1, f2⟩
theorem partner_ok (hC : CS S) (hf : i_fr S I la lb na nb ea eb fs0 fs1) {d f : Nat} (hd : d < 2) (h0 : d = 0 → f < na) : OkM S I J (fX9_partnerOf S 1 (nI d) (nI f)) (fX10_partnerOf (mkR I J) 1 (nI d) (nI f)) := by
  obtain ⟨S', I', L, m1, r1, c, f1, f2, h38, h34⟩ := both_match (J := J) hC hf
  have a1 : m_at S 1 10 := hC.at 1 (by decide) (by decide)
  have h50 := hC.1
  have hna : na ≤ 5 := hf.2.2.1.1
  have a34 : m_at S' 34 12 := c.at 34 (by decide) (by decide)
  have l34 : m_L S' 34 = 5 := (c.2.1 34 (by decide) (by decide)).2
  have k21 : I' 21 0 = nI na := by rw [f2.1 21 (by decide) (by simp)]; exact hf.2.2.1.2.1
  unfold fX9_partnerOf bX9_partnerOf_0 fX10_partnerOf bX10_partnerOf_0
  rw [cP1_6 hC, Option.bind_some, at_gP a1 hf.1.1, Option.bind_some, at_gP a1 hf.1.2, Option.bind_some, cIs20 hC, Option.bind_some, m1, b2_s, rIs, Option.bind_some, r1, Option.bind_some]
  match d, hd with
  | 0, _ =>
    have hfn := h0 rfl
    rw [if_pos (show nI 0 = 0 from rfl), if_pos (show nI 0 = 0 from rfl), cP1_6 c, Option.bind_some, cP20_2 c, Option.bind_some, at_ld a34 l34 (by decide) rfl (by omega), Option.bind_some, fin_r, rP37, Option.bind_some, rL30 rfl (by omega), Option.bind_some, fin_r, h34 f hfn]
    exact ⟨_, S', I', rfl, rfl, c, f1, f2⟩
  | 1, _ =>
    rw [if_neg (show ¬ nI 1 = 0 by decide), if_neg (show ¬ nI 1 = 0 by decide), fin_l, fin_l]
    have pS : m_P S' 1 3 = some la := by rw [(f1.2.1 1 (by omega) (by omega)).2.2.2 (by simp)]; exact hf.1.1
    have La : Lst S' la na 4 ea fs0 := hf.2.2.1.2.2.1.fr f1 (by have := hf.2.1; omega) (mPI_l (by have := hf.2.1; omega)) (by simp) (.inr (by simp))
    have b1 : m_at S' 1 10 := c.at 1 (by decide) (by decide)
    have all : ∀ e j, j + e = na → ∃ x, lim sX9_partnerOf (1, nI f, nI j, S') = some (x, S') ∧ lim sX10_partnerOf (1, nI f, nI j, mkR I' J) = some (x, mkR I' J) := by
      intro e
      induction e with
      | zero =>
        intro j hj
        have hjn : j = na := by omega
        subst hjn
        refine ⟨-9, ?_, ?_⟩
        · apply lim_end
          show bX9_partnerOf_32 S' 1 (nI f) (nI j) = _
          unfold bX9_partnerOf_32
          rw [at_gP b1 pS, Option.bind_some, at_is La.1.1, Option.bind_some, L_size La, Option.bind_some, if_pos (nI_le (Nat.le_refl _) (by omega))]
        · apply lim_end
          show bX10_partnerOf_17 (mkR I' J) 1 (nI f) (nI j) = _
          unfold bX10_partnerOf_17
          rw [rP28, Option.bind_some, rL21 (show (0 : Int32) = nI 0 from rfl) (by omega), k21, Option.bind_some, if_pos (nI_le (Nat.le_refl _) (by omega))]
      | succ e ih =>
        intro j hj
        have s1 : bX9_partnerOf_32 S' 1 (nI f) (nI j) = if I' 30 j = nI f then some (.inr (nI j, S')) else some (.inl (1, nI f, nI (j + 1), S')) := by
          unfold bX9_partnerOf_32
          rw [at_gP b1 pS, Option.bind_some, at_is La.1.1, Option.bind_some, L_size La, Option.bind_some, if_neg (nI_ge (by omega) (by omega)), cP1_6 c, Option.bind_some, cP20_2 c, Option.bind_some, at_ld a34 l34 (by decide) rfl (by omega), Option.bind_some, h34 j (by omega), nI_1, Option.bind_some]
        have s2 : bX10_partnerOf_17 (mkR I' J) 1 (nI f) (nI j) = if I' 30 j = nI f then some (.inr (nI j, mkR I' J)) else some (.inl (1, nI f, nI (j + 1), mkR I' J)) := by
          unfold bX10_partnerOf_17
          rw [rP28, Option.bind_some, rL21 (show (0 : Int32) = nI 0 from rfl) (by omega), k21, Option.bind_some, if_neg (nI_ge (by omega) (by omega)), rP37, Option.bind_some, rL30 rfl (by omega), Option.bind_some, nI_1, Option.bind_some]
        by_cases h : I' 30 j = nI f
        · rw [if_pos h] at s1 s2
          exact ⟨nI j, lim_end s1, lim_end s2⟩
        · rw [if_neg h] at s1 s2
          obtain ⟨x, u1, u2⟩ := ih (j + 1) (by omega)
          refine ⟨x, ?_, ?_⟩
          · rw [lim_eq]
            show fin sX9_partnerOf (bX9_partnerOf_32 S' 1 (nI f) (nI j)) = _
            rw [s1, fin_l, u1]
          · rw [lim_eq]
            show fin sX10_partnerOf (bX10_partnerOf_17 (mkR I' J) 1 (nI f) (nI j)) = _
            rw [s2, fin_l, u2]
    obtain ⟨x, u1, u2⟩ := all na 0 (by omega)
    exact ⟨x, S', I', u1, u2, c, f1, f2⟩
theorem front_ok (hC : CS S) (hf : i_fr S I la lb na nb ea eb fs0 fs1) (x1 x2 x3 : Int32) : OkM S I J (fX9_front S 1 x1 x2 x3) (fX10_front (mkR I J) 1 x1 x2 x3) := by
  have no : ∀ v : Int32, OkM S I J (some (v, S)) (some (v, mkR I J)) := fun v => ⟨v, S, I, rfl, rfl, hC, FrC.rf, FrR.rf⟩
  unfold fX9_front bX9_front_0 fX10_front bX10_front_0
  by_cases h1 : 0 ≤ x1.toInt ∧ x1.toInt < 2
  · rw [C_below_t (n := 2) rfl h1, Option.bind_some, if_neg (show ¬ (1 : Int32) = 0 by decide), R_in_t (a' := 0) (b' := 1) rfl rfl (by omega), Option.bind_some]
    obtain ⟨d, hd, rfl⟩ := i_nI (n := 2) h1.1 h1.2
    obtain ⟨l, n, e, fs, q1, q2, q3, q4, q5⟩ := hf.day hC hd
    have hdn : d = 0 → n = na := fun z => by
      have h2 := hf.2.2.1.2.1
      rw [z] at q3
      exact (nI_eq (by have := q2; omega) (by have := hf.2.2.1.1; omega)).mp (q3.symm.trans h2)
    rw [cIs1 hC, Option.bind_some, q1, Option.bind_some, at_is q4.1.1, Option.bind_some, L_size q4, Option.bind_some, C_isBelow, nI_toInt (show n < 2 ^ 31 by omega), rIs, Option.bind_some, R_noFront (J := J) hd q2 q3]
    by_cases h2 : 0 ≤ x2.toInt ∧ x2.toInt < n
    · have z1 := bz_t h2
      have z0 := bz_f (fun q => q h2 : ¬ ¬ (0 ≤ x2.toInt ∧ x2.toInt < n))
      obtain ⟨f, hfn, rfl⟩ := i_nI h2.1 h2.2
      obtain ⟨q, -, c1, c2, c3, c4, ⟨c5, c6, c7, c8⟩, -⟩ := q5 f hfn
      have e1 : (5 : Int32) * nI d + nI f = nI (5 * d + f) := n5i d f
      rw [z1, z0]
      simp only [Option.bind_some, e10, if_false, if_true, L_get q4 hfn, at_is q4.1.1, at_is c1, at_gI c1, c5, c6, c7, c8, e1, rP29, rP30, rP31, rP32, rL22 rfl (show 5 * d + f < 10 by omega), rL23 rfl (show 5 * d + f < 10 by omega), rL24 rfl (show 5 * d + f < 10 by omega), rL25 rfl (show 5 * d + f < 10 by omega)]
      by_cases e0 : x3 = 0
      · rw [if_pos e0, if_pos e0]; exact no _
      rw [if_neg e0, if_neg e0]
      by_cases e1 : x3 = 1
      · rw [if_pos e1, if_pos e1]; exact no _
      rw [if_neg e1, if_neg e1]
      by_cases e2 : x3 = 2
      · rw [if_pos e2, if_pos e2]; exact no _
      rw [if_neg e2, if_neg e2]
      by_cases e3 : x3 = 3
      · rw [if_pos e3, if_pos e3]; exact no _
      rw [if_neg e3, if_neg e3]
      by_cases e4 : x3 = 4
      · rw [if_pos e4, if_pos e4]
        obtain ⟨x, S', I', u1, u2, u3, u4, u5⟩ := partner_ok (J := J) hC hf hd (f := f) (fun z => by rw [← hdn z]; exact hfn)
        rw [u1, u2, b2_s, b2_s]
        exact ⟨x, S', I', rfl, rfl, u3, u4, u5⟩
      rw [if_neg e4, if_neg e4]
      exact no _
    · rw [bz_f h2, bz_t h2]
      simp only [Option.bind_some, e10, if_false, if_true]
      exact no _
  · rw [C_below_f (n := 2) rfl h1, Option.bind_some, if_pos rfl, R_in_f (a' := 0) (b' := 1) rfl rfl (by omega), Option.bind_some, if_pos rfl]
    exact no _
end JO
