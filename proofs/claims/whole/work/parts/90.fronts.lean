/-! fronts of both sides together; a new one -/
section FS
variable {S S' : MS} {I I' : Nat → Nat → Int32} {J : Nat → Nat → Int64} {np nw ep ew : Nat} {ps ws : Nat → Nat} {PI Q PL P QR : List Nat}
/-- cell c is front f -/
def frC (S : MS) (I : Nat → Nat → Int32) (c f : Nat) : Prop := ∃ q, (50 < c ∧ 50 < q) ∧ m_at S c 4 ∧ m_P S c 4 = some q ∧ m_at S q 12 ∧ m_L S q = 12 ∧ (m_I S c 0 = I 22 f ∧ m_I S c 1 = I 23 f ∧ m_I S c 2 = I 24 f ∧ m_I S c 3 = I 25 f) ∧ ∃ a b, a < b ∧ b < 12 ∧ I 23 f = nI a ∧ I 24 f = nI b ∧ ∀ x, a ≤ x → x ≤ b → m_I S q x = I 26 (12 * f + x) ∧ ∃ y, y < 12 ∧ I 26 (12 * f + x) = nI y
def Frs (S : MS) (I : Nat → Nat → Int32) (d n l e : Nat) (fs : Nat → Nat) : Prop := n ≤ 5 ∧ I 21 d = nI n ∧ Lst S l n 4 e fs ∧ ∀ f, f < n → frC S I (fs f) (5 * d + f)
theorem frC.fr {c f : Nat} (h : frC S I c f) (hf : FrC S S' PI Q PL) (hx : Fx S S' PI PL) (h2 : I' 22 f = I 22 f) (h3 : I' 23 f = I 23 f) (h4 : I' 24 f = I 24 f) (h5 : I' 25 f = I 25 f) (h6 : ∀ x, x < 12 → I' 26 (12 * f + x) = I 26 (12 * f + x)) : frC S' I' c f := by
  obtain ⟨q, ⟨b1, b2⟩, c1, c2, c3, c4, c5, a, b, d1, d2, d3, d4, d5⟩ := h
  refine ⟨q, ⟨b1, b2⟩, c1.fr hf, ?_, c3.fr hf, ?_, ?_, a, b, d1, d2, h3.trans d3, h4.trans d4, fun x h7 h8 => ?_⟩
  · rw [hf.hiP hx c1 (by omega) (by omega)]; exact c2
  · rw [(hf.2.1 q c3.1 c3.2.1).2.1]; exact c4
  · rw [hf.hi hx c1 b1, h2, h3, h4, h5]; exact c5
  · rw [hf.hi hx c3 b2, h6 x (by omega)]; exact d5 x h7 h8
theorem Frs.fr {d n l e : Nat} {fs : Nat → Nat} (h : Frs S I d n l e fs) (hf : FrC S S' PI Q PL) (hx : Fx S S' PI PL) (h1 : l ≠ 1) (h2 : l ∉ PI) (h3 : l ∉ PL) (h4 : e = 0 ∨ e ∉ PL) (r21 : I' 21 d = I 21 d) (r22 : ∀ f, f < 5 → I' 22 (5 * d + f) = I 22 (5 * d + f) ∧ I' 23 (5 * d + f) = I 23 (5 * d + f) ∧ I' 24 (5 * d + f) = I 24 (5 * d + f) ∧ I' 25 (5 * d + f) = I 25 (5 * d + f) ∧ ∀ x, x < 12 → I' 26 (12 * (5 * d + f) + x) = I 26 (12 * (5 * d + f) + x)) : Frs S' I' d n l e fs := by
  obtain ⟨a1, a2, a3, a4⟩ := h
  refine ⟨a1, r21.trans a2, a3.fr hf h1 h2 h3 h4, fun f hfn => ?_⟩
  obtain ⟨s1, s2, s3, s4, s5⟩ := r22 f (by omega)
  exact (a4 f hfn).fr hf hx s1 s2 s3 s4 s5
/-- the reference's rows with one more front -/
def addF (K : Nat → Nat → Int32) (f kd a b m d n : Nat) : Nat → Nat → Int32 := va_up (va_up (va_up (va_up (va_up K 22 (upd (K 22) f (nI kd))) 23 (upd (K 23) f (nI a))) 24 (upd (K 24) f (nI b))) 25 (upd (K 25) f (nI m))) 21 (upd (K 21) d (nI (n + 1)))
theorem addF_r {K : Nat → Nat → Int32} {f kd a b m d n : Nat} : addF K f kd a b m d n 22 = upd (K 22) f (nI kd) ∧ addF K f kd a b m d n 23 = upd (K 23) f (nI a) ∧ addF K f kd a b m d n 24 = upd (K 24) f (nI b) ∧ addF K f kd a b m d n 25 = upd (K 25) f (nI m) ∧ addF K f kd a b m d n 21 = upd (K 21) d (nI (n + 1)) ∧ addF K f kd a b m d n 26 = K 26 ∧ addF K f kd a b m d n 1 = K 1 := by
  unfold addF
  refine ⟨?_, ?_, ?_, ?_, ?_, ?_, ?_⟩
  · rw [up_n (by decide), up_n (by decide), up_n (by decide), up_n (by decide), up_s]
  · rw [up_n (by decide), up_n (by decide), up_n (by decide), up_s]
  · rw [up_n (by decide), up_n (by decide), up_s]
  · rw [up_n (by decide), up_s]
  · rw [up_s]
  · rw [up_n (by decide), up_n (by decide), up_n (by decide), up_n (by decide), up_n (by decide)]
  · rw [up_n (by decide), up_n (by decide), up_n (by decide), up_n (by decide), up_n (by decide)]
theorem addF_f {K : Nat → Nat → Int32} {f kd a b m d n : Nat} : FrR K (addF K f kd a b m d n) [21, 22, 23, 24, 25] [] := by
  unfold addF
  have s1 : FrR K (va_up K 22 (upd (K 22) f (nI kd))) [21, 22, 23, 24, 25] [] := FrR.up (by decide) (by simp)
  have s2 := s1.tr (FrR.up (a := 23) (f := upd (K 23) f (nI a)) (by decide) (by simp))
  have s3 := s2.tr (FrR.up (a := 24) (f := upd (K 24) f (nI b)) (by decide) (by simp))
  have s4 := s3.tr (FrR.up (a := 25) (f := upd (K 25) f (nI m)) (by decide) (by simp))
  exact s4.tr (FrR.up (a := 21) (f := upd (K 21) d (nI (n + 1))) (by decide) (by simp))
theorem R_newFront {K : Nat → Nat → Int32} {f kd a b m d n : Nat} (hf : f < 10) (hd : d < 2) (h21 : K 21 d = nI n) : ((o_gP (mkR K J) 1 11 29).bind fun v167 => (o_st (mkR K J) v167 12 (nI f) (nI kd)).bind fun S173 => (o_gP S173 1 11 30).bind fun v175 => (o_st S173 v175 12 (nI f) (nI a)).bind fun S181 => (o_gP S181 1 11 31).bind fun v183 => (o_st S181 v183 12 (nI f) (nI b)).bind fun S190 => (o_gP S190 1 11 32).bind fun v192 => (o_st S190 v192 12 (nI f) (nI m)).bind fun S199 => (o_gP S199 1 11 28).bind fun v201 => (o_ld S199 v201 12 (nI d)).bind fun v206 => (o_st S199 v201 12 (nI d) (v206 + (1 : Int32))).bind fun S209 => (o_gP S209 1 11 28).bind fun v211 => (o_ld S209 v211 12 (nI d)).bind fun v215 => (some (.inr ((v215 - (1 : Int32)), S209)) : Option ((Nat × Int32 × Int32 × Int32 × Int32 × MS) ⊕ (Int32 × MS)))) = some (.inr (nI n, mkR (addF K f kd a b m d n) J)) := by
  have u : ∀ {a b : Nat} (g : Nat → Nat → Int32) (v : Nat → Int32), a ≠ b → va_up g b v a = g a := fun g v h => up_n h
  rw [rP29, Option.bind_some, rS22 rfl hf, Option.bind_some, rP30, Option.bind_some, rS23 rfl hf, Option.bind_some, rP31, Option.bind_some, rS24 rfl hf, Option.bind_some, rP32, Option.bind_some, rS25 rfl hf, Option.bind_some, rP28, Option.bind_some, rL21 rfl hd, Option.bind_some, rS21 rfl hd, Option.bind_some, rP28, Option.bind_some, rL21 rfl hd, Option.bind_some, up_s, upd_s]
  have e25 : (va_up (va_up (va_up K 22 (upd (K 22) f (nI kd))) 23 (upd (va_up K 22 (upd (K 22) f (nI kd)) 23) f (nI a))) 24 (upd (va_up (va_up K 22 (upd (K 22) f (nI kd))) 23 (upd (va_up K 22 (upd (K 22) f (nI kd)) 23) f (nI a)) 24) f (nI b))) 25 = K 25 := by rw [u _ _ (by decide), u _ _ (by decide), u _ _ (by decide)]
  have e24 : (va_up (va_up K 22 (upd (K 22) f (nI kd))) 23 (upd (va_up K 22 (upd (K 22) f (nI kd)) 23) f (nI a))) 24 = K 24 := by rw [u _ _ (by decide), u _ _ (by decide)]
  have e23 : va_up K 22 (upd (K 22) f (nI kd)) 23 = K 23 := u _ _ (by decide)
  rw [e25, e24, e23]
  have e21 : (va_up (va_up (va_up (va_up K 22 (upd (K 22) f (nI kd))) 23 (upd (K 23) f (nI a))) 24 (upd (K 24) f (nI b))) 25 (upd (K 25) f (nI m))) 21 = K 21 := by rw [u _ _ (by decide), u _ _ (by decide), u _ _ (by decide), u _ _ (by decide)]
  rw [e21, h21, nI_1, nI_pred]
  rfl
theorem n5i (d n : Nat) : (5 : Int32) * nI d + nI n = nI (5 * d + n) := by rw [show (5 : Int32) = nI 5 from rfl, nI_mul, nI_add]
theorem sd59 (S : MS) (x0 : Nat) (x3 x4 x8 x9 : Int32) : sX10_drawn (x0, x3, x4, x8, x9, S) = bX10_drawn_59 S x0 x3 x4 x8 x9 := by unfold sX10_drawn; rfl
theorem s18 (S : MS) (x0 : Nat) (x1 x2 x3 x4 x5 x6 : Int32) : sX10_drawInto (.inl (x0, x1, x2, x3, x4, x5, x6, S)) = bX10_drawInto_18 S x0 x1 x2 x3 x4 x5 x6 := by unfold sX10_drawInto; rfl
/-- drawn, of the reference -/
theorem R_drawn {k i n d kd a b m5 : Nat} {D : Nat → Int32} (hk : k < 4) (hi : i + 3 * n ≤ 60) (hd : d < 2) (hab : a < b) (hb : b < 12) (hD : ∀ j, j < 3 * n → I 42 (60 * k + i + j) = D j) (h21 : I 21 d = nI m5) (hm5 : m5 ≤ 5) : ((¬ ∀ g, g < n → gok D g) ∧ fX10_drawn (mkR I J) 1 (nI d) (nI kd) (nI a) (nI b) (nI (60 * k + i)) (nI n) = some (-2, mkR I J)) ∨ ((∀ g, g < n → gok D g) ∧ (((bsO (rst0 (loG D n) (hiG D n) b a) 1000000 12).1 = none ∧ ∃ I', fX10_drawn (mkR I J) 1 (nI d) (nI kd) (nI a) (nI b) (nI (60 * k + i)) (nI n) = some (-3, mkR I' J) ∧ FrR I I' [27, 28, 29] []) ∨ ∃ s, (bsO (rst0 (loG D n) (hiG D n) b a) 1000000 12).1 = some s ∧ ((m5 = 5 ∧ ∃ I', fX10_drawn (mkR I J) 1 (nI d) (nI kd) (nI a) (nI b) (nI (60 * k + i)) (nI n) = some (-4, mkR I' J) ∧ FrR I I' [27, 28, 29] []) ∨ (m5 < 5 ∧ ∃ I', fX10_drawn (mkR I J) 1 (nI d) (nI kd) (nI a) (nI b) (nI (60 * k + i)) (nI n) = some (nI m5, mkR (addF I' (5 * d + m5) kd a b (gg (loG D n) (hiG D n) b 1000000 (b - a) s 5) d m5) J) ∧ FrR I I' [26, 27, 28, 29] [] ∧ (∀ k, k ≤ b - a → I' 26 (12 * (5 * d + m5) + (a + k)) = nI (pth (loG D n) (hiG D n) b a s k).1) ∧ ∀ i, (i < 12 * (5 * d + m5) ∨ 12 * (5 * d + m5) + 12 ≤ i) → I' 26 i = I 26 i)))) := by
  rcases R_areGates (J := J) hk hi hD with ⟨e1, hok⟩ | ⟨e1, hok⟩
  · right
    refine ⟨hok, ?_⟩
    obtain ⟨I1, e2, f1, hg⟩ := R_layGates (J := J) hk hi hD hok
    have h21' : I1 21 d = nI m5 := by rw [f1.1 21 (by decide) (by simp)]; exact h21
    have e5 : (nI m5 = 5) = (m5 = 5) := propext (nI_eq (b := 5) (by omega) (by omega))
    have head : fX10_drawn (mkR I J) 1 (nI d) (nI kd) (nI a) (nI b) (nI (60 * k + i)) (nI n) = fin sX10_drawn (bX10_drawn_37 (mkR I1 J) 1 (nI d) (nI kd) (nI a) (nI b) (if m5 = 5 then 1 else 0)) := by
      unfold fX10_drawn bX10_drawn_0
      rw [rIs, Option.bind_some, e1, Option.bind_some, if_neg (by decide), Option.bind_some, e2, Option.bind_some, rP28, Option.bind_some, rL21 rfl hd, Option.bind_some, h21']
      by_cases h : m5 = 5
      · rw [if_pos (by rw [e5]; exact h), if_pos h]
      · rw [if_neg (by rw [e5]; exact h), if_neg h]
    have hle := bsO_le (rst0 (loG D n) (hiG D n) b a) 1000000 12
    have hnone := fun h => bsO_none (f := rst0 (loG D n) (hiG D n) b a) (B := 1000000) 12 h
    have hsome := fun s h => bsO_some (f := rst0 (loG D n) (hiG D n) b a) (B := 1000000) (y := s) 12 h
    obtain ⟨w, hw⟩ : ∃ w, bsO (rst0 (loG D n) (hiG D n) b a) 1000000 12 = w := ⟨_, rfl⟩
    rw [hw] at hle hnone hsome
    simp only [hw]
    rw [head]
    by_cases h5 : m5 = 5
    · rw [if_pos h5]
      obtain ⟨I2, e3, f2, hr⟩ := R_layToCome (J := J) hg hb (show a ≤ b by omega)
      have hg2 := hg.fr f2 (by simp)
      have lp : lim sX10_drawn (1, nI a, nI b, nI (bsO (rst0 (loG D n) (hiG D n) b a) 1000000 0).2, nI 0, mkR I2 J) = lim sX10_drawn (1, nI a, nI b, nI (bsO (rst0 (loG D n) (hiG D n) b a) 1000000 12).2, nI 12, mkR I2 J) := by
        refine lim_it (step := sX10_drawn) (st := fun y => (1, nI a, nI b, nI (bsO (rst0 (loG D n) (hiG D n) b a) 1000000 y).2, nI y, mkR I2 J)) 12 (fun y hy => ?_)
        show bX10_drawn_59 (mkR I2 J) 1 (nI a) (nI b) (nI (bsO (rst0 (loG D n) (hiG D n) b a) 1000000 y).2) (nI y) = _
        have hle := bsO_le (rst0 (loG D n) (hiG D n) b a) 1000000 y
        have hgl := gg_le (loG D n) (hiG D n) b 1000000 (b - a) y 5
        rw [bsO_s]
        generalize bsO (rst0 (loG D n) (hiG D n) b a) 1000000 y = w at hle
        have B92 : ∀ z, z ≤ 1000000 → bX10_drawn_92 (mkR I2 J) 1 (nI a) (nI b) (nI w.2) (nI y) (nI z) = some (.inl (1, nI a, nI b, nI (if z < w.2 then (some y, z) else w).2, nI (y + 1), mkR I2 J)) := fun z hz => by
          unfold bX10_drawn_92 bX10_drawn_108
          by_cases h : z < w.2
          · rw [if_neg (nI_ge h (by omega)), if_pos h, nI_1]
            rfl
          · rw [if_pos (nI_le (by omega) (by omega)), if_neg h, nI_1]
            rfl
        unfold bX10_drawn_59 rst0
        rw [if_neg (show ¬ (12 : Int32) ≤ nI y from nI_ge (b := 12) hy (by omega)), rIs, Option.bind_some, R_isLetY hg2 (by omega) hy, Option.bind_some]
        by_cases h : letb (loG D n) (hiG D n) a y = true
        · rw [h, if_neg (by decide), Option.bind_some, R_starts hg2 hb hab hr hy, Option.bind_some, B92 _ hgl]
          rfl
        · have h' : letb (loG D n) (hiG D n) a y = false := by simpa using h
          rw [h', if_pos (by decide), show (1000000 : Int32) = nI 1000000 from rfl, B92 1000000 (Nat.le_refl _)]
          rfl
      have fR : FrR I I2 [27, 28, 29] [] := (f1.mono (by simp) (by simp)).tr (f2.mono (by simp) (by simp))
      have run : fin sX10_drawn (bX10_drawn_37 (mkR I1 J) 1 (nI d) (nI kd) (nI a) (nI b) 1) = some (if w.2 = 1000000 then -3 else -4, mkR I2 J) := by
        rw [hw] at lp
        unfold bX10_drawn_37
        rw [if_neg (by decide), rIs, Option.bind_some, e3, Option.bind_some, fin_l, show lim sX10_drawn (1, nI a, nI b, 1000000, 0, mkR I2 J) = _ from lp]
        apply lim_end
        rw [sd59]
        unfold bX10_drawn_59 bX10_drawn_131
        rw [if_pos (by decide)]
        by_cases h : w.2 = 1000000
        · rw [if_pos h, h, if_pos (by rfl)]
        · rw [if_neg h, if_neg (show ¬ nI w.2 = 1000000 from fun q => h ((nI_eq (b := 1000000) (by omega) (by omega)).mp q))]
      rw [run]
      cases ho : w.1 with
      | none =>
        left
        rw [if_pos (hnone ho)]
        exact ⟨rfl, I2, rfl, fR⟩
      | some s =>
        right
        obtain ⟨a1, a2, a3⟩ := hsome s ho
        rw [if_neg (by omega)]
        exact ⟨s, rfl, .inl ⟨h5, I2, rfl, fR⟩⟩
    · rw [if_neg h5]
      obtain ⟨I2, f2, hr, e3⟩ := R_start (J := J) (f := 5 * d + m5) hg hb hab
      have hg2 := hg.fr f2 (by simp)
      have fR : FrR I I2 [27, 28, 29] [] := (f1.mono (by simp) (by simp)).tr (f2.mono (by simp) (by simp))
      rw [hw] at e3
      cases ho : w.1 with
      | none =>
        left
        refine ⟨rfl, I2, ?_, fR⟩
        have hn := hnone ho
        have di : fX10_drawInto (mkR I1 J) 1 (nI (5 * d + m5)) (nI a) (nI b) = some (1000000, mkR I2 J) := by
          rw [e3]
          apply lim_end
          rw [s18]
          unfold bX10_drawInto_18
          rw [if_pos (by decide), hn, if_pos (by rfl)]
        unfold bX10_drawn_37
        rw [if_pos rfl, rP28, Option.bind_some, rL21 rfl hd, Option.bind_some, h21', n5i, Option.bind_some, rIs, Option.bind_some, di, b2_s, if_pos rfl, fin_r]
      | some s =>
        right
        obtain ⟨hs, a2, a3⟩ := hsome s ho
        have hlt : letb (loG D n) (hiG D n) a s = true := by
          cases hq : letb (loG D n) (hiG D n) a s with
          | true => rfl
          | false =>
            unfold rst0 at a3
            rw [hq] at a3
            simp at a3
        have hrs : rst0 (loG D n) (hiG D n) b a s = gg (loG D n) (hiG D n) b 1000000 (b - a) s 5 := by
          unfold rst0
          rw [if_pos hlt]
        have hgl : gg (loG D n) (hiG D n) b 1000 (b - a) s 5 < 1000 := by
          have := gg_sim (lo := loG D n) (hi := hiG D n) (b := b) (B := 1000) (B' := 1000000) (by omega) (by omega) (b - a) s 5 (by omega) (by omega)
          unfold sim at this
          omega
        obtain ⟨I3, e4, f3, k1, k2⟩ := R_path (J := J) (f := 5 * d + m5) (m := gg (loG D n) (hiG D n) b 1000000 (b - a) s 5) hg2 (by omega) hb hab hs hlt hgl hr
        have di : fX10_drawInto (mkR I1 J) 1 (nI (5 * d + m5)) (nI a) (nI b) = some (nI (gg (loG D n) (hiG D n) b 1000000 (b - a) s 5), mkR I3 J) := by
          rw [e3, lim_eq, s18]
          unfold bX10_drawInto_18
          rw [if_pos (by decide), if_neg (show ¬ nI w.2 = 1000000 from fun q => by have := (nI_eq (b := 1000000) (by omega) (by omega)).mp q; omega), ho, rP33, Option.bind_some, show ((12 : Int32) * nI (5 * d + m5) + nI a) = nI (12 * (5 * d + m5) + a) by rw [show (12 : Int32) = nI 12 from rfl, nI_mul, nI_add], rS26 rfl (by omega), Option.bind_some, fin_l, a2, hrs]
          exact e4
        have fR3 : FrR I I3 [26, 27, 28, 29] [] := (fR.mono (by simp) (by simp)).tr (f3.mono (by simp) (by simp))
        have h21'' : I3 21 d = nI m5 := by rw [fR3.1 21 (by decide) (by simp)]; exact h21
        refine ⟨s, rfl, .inr ⟨by omega, I3, ?_, fR3, k1, fun i hi => ?_⟩⟩
        · have nf := R_newFront (J := J) (K := I3) (f := 5 * d + m5) (kd := kd) (a := a) (b := b) (m := gg (loG D n) (hiG D n) b 1000000 (b - a) s 5) (d := d) (n := m5) (by omega) hd h21''
          unfold bX10_drawn_37
          rw [if_pos rfl, rP28, Option.bind_some, rL21 rfl hd, Option.bind_some, h21', n5i, Option.bind_some, rIs, Option.bind_some, di, b2_s, if_neg (show ¬ nI (gg (loG D n) (hiG D n) b 1000000 (b - a) s 5) = 1000000 from fun q => by have := (nI_eq (b := 1000000) (by omega) (by omega)).mp q; omega), nf, fin_r]
        · rw [k2 i hi, fR.1 26 (by decide) (by simp)]
  · left
    refine ⟨hok, ?_⟩
    unfold fX10_drawn bX10_drawn_0
    rw [rIs, Option.bind_some, e1, Option.bind_some, if_pos rfl, fin_r]
end FS
