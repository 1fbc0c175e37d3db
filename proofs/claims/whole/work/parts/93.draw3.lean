/-! draw, the call -/
section DC
variable {S S' : MS} {I I' : Nat → Nat → Int32} {J : Nat → Nat → Int64} {np nw ep ew la lb na nb ea eb : Nat} {ps ws fs0 fs1 : Nat → Nat} {PI Q PL P QR : List Nat}
def OkF (S : MS) (I : Nat → Nat → Int32) (J : Nat → Nat → Int64) (np nw ep ew la lb ea eb : Nat) (ps ws : Nat → Nat) (c r : Option (Int32 × MS)) : Prop := ∃ (x : Int32) (S' : MS) (I' : Nat → Nat → Int32) (na' nb' ea' eb' : Nat) (fs0' fs1' : Nat → Nat), c = some (x, S') ∧ r = some (x, mkR I' J) ∧ Cor S' I' np nw ep ew ps ws ∧ KSh S' I' ∧ i_fr S' I' la lb na' nb' ea' eb' fs0' fs1' ∧ (ea' = ea ∧ (eb' = eb ∨ m_n S < eb') ∨ eb' = eb ∧ m_n S < ea') ∧ FrC S S' [14, 15, 17, 18, 19] [12] [14, 15, ea, eb] ∧ FrR I I' [21, 22, 23, 24, 25, 26, 27, 28, 29] [0]
/-- the arrays of two lists are not one -/
def dj (x y : Nat) : Prop := x = 0 ∨ x ≠ y
theorem dj_n {x y : Nat} (h : dj x y) {l : Nat} (hl : x ≠ l) : x = 0 ∨ x ∉ [l, y] := h.imp_right (fun q => by simp; omega)
theorem okF_F (h : Cor S I np nw ep ew ps ws) (hk : KSh S I) (hf : i_fr S I la lb na nb ea eb fs0 fs1) (x v : Int32) : OkF S I J np nw ep ew la lb ea eb ps ws (some (x, cF S v)) (some (x, mkR (rF I v) J)) := by
  have h50 := h.1.1.1
  exact ⟨x, _, _, na, nb, ea, eb, fs0, fs1, rfl, rfl, h.F v, hk.F h.1.1 v, hf.fr (by omega) cF_f ⟨by simp, by simp⟩ (by simp) (by simp) (by simp) (.inr (by simp)) (.inr (by simp)) rF_f (by simp), .inl ⟨rfl, .inl rfl⟩, cF_f.mono (by simp) (by simp) (by simp), rF_f.mono (by simp) (by simp)⟩
theorem draw_in {k i n d kd a b : Nat} (h : Cor S I np nw ep ew ps ws) (hk : KSh S I) (hf : i_fr S I la lb na nb ea eb fs0 fs1) (j1 : dj ep ea ∧ dj ep eb ∧ dj ew ea ∧ dj ew eb ∧ dj ea eb ∧ dj eb ea) (hk4 : k < 4) (hi : i + 3 * n ≤ 60) (hd : d < 2) (hab : a < b) (hb : b < 12) (hD : ∀ j, j < 3 * n → m_I S (44 + 2 * k) (i + j) = I 42 (60 * k + i + j)) : OkF S I J np nw ep ew la lb ea eb ps ws (dIn (cF S 0) k (nI i) (nI n) (nI d) (nI kd) (nI a) (nI b)) (b2 (fX10_drawn (mkR I J) 1 (nI d) (nI kd) (nI a) (nI b) (nI (60 * k + i)) (nI n)) fun v184 S184 => (o_is S184 1 11).bind fun _ => b2 (fX10_refused S184 1 v184) fun v187 S187 => some (v187, S187)) := by
  have hC := h.1.1
  have h50 := hC.1
  have hC' := cF_C (v := 0) hC
  have hCo := h.F (S := S) (I := I) 0
  have hKo := hk.F hC 0
  have hfo : i_fr (cF S 0) I la lb na nb ea eb fs0 fs1 := hf.fr (I' := I) (P := []) (QR := []) (by omega) cF_f ⟨by simp, by simp⟩ (by simp) (by simp) (by simp) (.inr (by simp)) (.inr (by simp)) FrR.rf (by simp)
  have hfz : i_fr (cF S 0) (rF I 0) la lb na nb ea eb fs0 fs1 := hf.fr (by omega) cF_f ⟨by simp, by simp⟩ (by simp) (by simp) (by simp) (.inr (by simp)) (.inr (by simp)) rF_f (by simp)
  have hD' : ∀ j, j < 3 * n → m_I (cF S 0) (44 + 2 * k) (i + j) = I 42 (60 * k + i + j) := fun j hj => by rw [cF_1 (by omega)]; exact hD j hj
  have hS0 : m_n (cF S 0) = m_n S := rfl
  have fSS := cF_f (S := S) (v := 0)
  have ref : ∀ (x : Int32) (K : Nat → Nat → Int32), (b2 (some (x, mkR K J)) fun v184 S184 => (o_is S184 1 11).bind fun _ => b2 (fX10_refused S184 1 v184) fun v187 S187 => some (v187, S187)) = some (x, mkR (rF K 0) J) := fun x K => by rw [b2_s, rIs, Option.bind_some, R_refused, b2_s]
  generalize hSS : cF S 0 = S0 at *
  -- nothing is added
  have kp : ∀ (x : Int32) (S1 : MS) (I1 : Nat → Nat → Int32), FrC S0 S1 [17, 18, 19] [] [] → FrR I I1 [27, 28, 29] [] → OkF S I J np nw ep ew la lb ea eb ps ws (some (x, S1)) (some (x, mkR (rF I1 0) J)) := fun x S1 I1 f1 g1 => by
    have g2 : FrR (rF I 0) (rF I1 0) [27, 28, 29] [] := rF_fr g1
    refine ⟨x, S1, rF I1 0, na, nb, ea, eb, fs0, fs1, rfl, rfl, hCo.fr (hC'.fr f1 (by simp) (by simp)) f1 ⟨by simp, by simp⟩ (by simp) (by simp) (by simp) (by simp) (.inr (by simp)) (.inr (by simp)) g2 (by simp) (by simp), ⟨hKo.1.fr f1 g2 (by simp) (by simp), hKo.2.fr hC' f1 g2 (by simp) (by simp)⟩, hfz.fr (by omega) f1 ⟨by simp, by simp⟩ (by simp) (by simp) (by simp) (.inr (by simp)) (.inr (by simp)) g2 (by simp), .inl ⟨rfl, .inl rfl⟩, (fSS.mono (by simp) (by simp) (by simp)).tr (f1.mono (by simp) (by simp) (by simp)), ?_⟩
    exact (g1.mono (P' := [21, 22, 23, 24, 25, 26, 27, 28, 29]) (Q' := [0]) (by simp) (by simp)).tr (rF_f.mono (by simp) (by simp))
  have main : ∀ (l e m5 : Nat) (fs : Nat → Nat), Frs S0 I d m5 l e fs → (l = 14 ∨ l = 15) → (d = 0 → m_P S0 1 3 = some l) → (d = 1 → m_P S0 1 4 = some l) → (e = ea ∨ e = eb) → (∀ (S1 : MS) (I1 : Nat → Nat → Int32) (e' : Nat) (fs' : Nat → Nat), FrC S0 S1 [17, 18, 19, l] [] [l, e] → Frs S1 I1 d (m5 + 1) l e' fs' → (e' = e ∨ m_n S0 < e') → (∀ {d' n' l' e'' : Nat} {fs' : Nat → Nat}, d' ≠ d → d' < 2 → d < 2 → l' ≠ 1 → l' ∉ [17, 18, 19, l] → l' ∉ [l, e] → (e'' = 0 ∨ e'' ∉ [l, e]) → Frs S0 I d' n' l' e'' fs' → Frs S1 I1 d' n' l' e'' fs') → ∃ (na' nb' ea' eb' : Nat) (fs0' fs1' : Nat → Nat), i_fr S1 I1 la lb na' nb' ea' eb' fs0' fs1' ∧ (ea' = ea ∧ (eb' = eb ∨ m_n S < eb') ∨ eb' = eb ∧ m_n S < ea')) → OkF S I J np nw ep ew la lb ea eb ps ws (dIn S0 k (nI i) (nI n) (nI d) (nI kd) (nI a) (nI b)) (b2 (fX10_drawn (mkR I J) 1 (nI d) (nI kd) (nI a) (nI b) (nI (60 * k + i)) (nI n)) fun v184 S184 => (o_is S184 1 11).bind fun _ => b2 (fX10_refused S184 1 v184) fun v187 S187 => some (v187, S187)) := by
    intro l e m5 fs hF hl hp0 hp1 hee build
    have hsim := bsO_sim (f := fun y => ccv (loG (fun j => I 42 (60 * k + i + j)) n) (hiG (fun j => I 42 (60 * k + i + j)) n) b a y 5) (f' := rst0 (loG (fun j => I 42 (60 * k + i + j)) n) (hiG (fun j => I 42 (60 * k + i + j)) n) b a) (B := 1000) (B' := 1000000) (m := 44) (by omega) (by omega) (rst0_sim hb) 12
    have rc := C_drawIn (kd := kd) hC' hF hl hd hp0 hp1 hk4 hi hab hb hD'
    have rr := R_drawn (J := J) (kd := kd) (D := fun j => I 42 (60 * k + i + j)) hk4 hi hd hab hb (fun j _ => rfl) hF.2.1 hF.1
    rw [← hsim.1] at rr
    rcases rc with ⟨c0, S1, c1, c2⟩ | ⟨c0, rc⟩
    · rcases rr with ⟨r0, r1⟩ | ⟨r0, -⟩
      · rw [c1, r1, ref]
        exact kp _ _ _ c2 FrR.rf
      · exact absurd r0 c0
    · rcases rr with ⟨r0, -⟩ | ⟨-, rr⟩
      · exact absurd c0 r0
      · rcases rc with ⟨c3, S1, c1, c2⟩ | ⟨s, c3, rc⟩
        · rcases rr with ⟨r3, I1, r1, r2⟩ | ⟨s', r3, -⟩
          · rw [c1, r1, ref]
            exact kp _ _ _ c2 r2
          · rw [c3] at r3; cases r3
        · rcases rr with ⟨r3, -⟩ | ⟨s', r3, rr⟩
          · rw [c3] at r3; cases r3
          · have hss : s = s' := by
              rw [c3] at r3
              exact Option.some.inj r3
            subst hss
            rcases rc with ⟨c4, S1, c1, c2⟩ | ⟨c4, S1, o, q, e', c1, c2, c5, c6, c7, c8, c9, c10, c11, c12, c13, c14, c15⟩
            · rcases rr with ⟨r4, I1, r1, r2⟩ | ⟨r4, -⟩
              · rw [c1, r1, ref]
                exact kp _ _ _ c2 r2
              · omega
            · rcases rr with ⟨r4, -⟩ | ⟨-, I1, r1, r2, r5, r6⟩
              · omega
              · rw [c1, r1, ref]
                obtain ⟨w1, w2⟩ := frs_new (kd := kd) hF hC' c4 hd hl hab hb c2 c6 c8 c9 c10 c11 c12 c13 c14 c15 r2 r5 r6
                obtain ⟨na', nb', ea', eb', fs0', fs1', b1, b2⟩ := build S1 _ e' _ c2 w1 c7 w2
                have kl : m_K S0 l = 0 := hF.2.2.1.1.1.2.2
                have eo := hF.2.2.1.e0
                have fx : Fx S0 S1 [17, 18, 19, l] [l, e] := ⟨by simp; omega, fun x hx => by
                  simp only [List.mem_cons, List.not_mem_nil, or_false] at hx
                  rcases hx with hx | hx
                  · rw [hx]; exact .inl kl
                  · rcases eo with z | z
                    · omega
                    · rw [hx]; exact .inr (.inl z.2.2)⟩
                have g1 : FrR I (addF I1 (5 * d + m5) kd a b (gg (loG (fun j => I 42 (60 * k + i + j)) n) (hiG (fun j => I 42 (60 * k + i + j)) n) b 1000000 (b - a) s 5) d m5) [21, 22, 23, 24, 25, 26, 27, 28, 29] [] := (r2.mono (by simp) (by simp)).tr (addF_f.mono (by simp) (by simp))
                have g2 := rF_fr (v := 0) g1
                have q3 : 3 ∉ [l, e] := by
                  have := e_out hC' eo (a := 3) (by omega) (by omega)
                  simp; omega
                have q4 : 4 ∉ [l, e] := by
                  have := e_out hC' eo (a := 4) (by omega) (by omega)
                  simp; omega
                have qp : ep = 0 ∨ ep ∉ [l, e] := by
                  have hjj : dj ep e := by
                    rcases hee with z | z
                    · rw [z]; exact j1.1
                    · rw [z]; exact j1.2.1
                  rcases h.1.2.1.2.2.1.e0 with z | z
                  · exact .inl z
                  · have z' : m_K S ep = 15 := z.2.2
                    refine dj_n hjj (fun y => ?_)
                    have := (hC.2.1 l (by omega) (by omega)).1
                    rw [← y, z'] at this
                    exact kC_15 ep (by omega) this.symm
                have qw : ew = 0 ∨ ew ∉ [l, e] := by
                  have hjj : dj ew e := by
                    rcases hee with z | z
                    · rw [z]; exact j1.2.2.1
                    · rw [z]; exact j1.2.2.2.1
                  rcases h.1.2.2.1.2.2.1.e0 with z | z
                  · exact .inl z
                  · have z' : m_K S ew = 15 := z.2.2
                    refine dj_n hjj (fun y => ?_)
                    have := (hC.2.1 l (by omega) (by omega)).1
                    rw [← y, z'] at this
                    exact kC_15 ew (by omega) this.symm
                refine ⟨_, S1, _, na', nb', ea', eb', fs0', fs1', rfl, rfl, hCo.fr c5 c2 fx (by simp; omega) (by simp) q3 q4 qp qw g2 (by simp) (by simp), ⟨hKo.1.fr c2 g2 (by simp) (by simp), hKo.2.fr hC' c2 g2 (by simp; omega) (by simp)⟩, b1, b2, ?_, ?_⟩
                · refine (fSS.mono (by simp) (by simp) (by simp)).tr (c2.mono ?_ (by simp) ?_)
                  · simp
                    omega
                  · simp
                    omega
                · exact (g1.mono (P' := [21, 22, 23, 24, 25, 26, 27, 28, 29]) (Q' := [0]) (by simp) (by simp)).tr (rF_f.mono (by simp) (by simp))
  obtain ⟨⟨pa, pb⟩, hll, hFa, hFb⟩ := hfo
  have k15 : ∀ e, (e = 0 ∨ m_at S0 e 15) → e = 0 ∨ (e ≠ 14 ∧ e ≠ 15) := fun e he => by
    rcases he with z | z
    · exact .inl z
    · have z1 := e_out hC' (.inr z) (a := 14) (by omega) (by omega)
      have z2 := e_out hC' (.inr z) (a := 15) (by omega) (by omega)
      exact .inr ⟨fun y => z1 y.symm, fun y => z2 y.symm⟩
  have ka := k15 ea hFa.2.2.1.e0
  have kb := k15 eb hFb.2.2.1.e0
  have j5 : dj ea eb := j1.2.2.2.2.1
  have j6 : dj eb ea := j1.2.2.2.2.2
  unfold dj at j5 j6
  have pC : ∀ (S1 : MS) (l e : Nat), (l = 14 ∨ l = 15) → (e = 0 ∨ m_at S0 e 15) → FrC S0 S1 [17, 18, 19, l] [] [l, e] → m_P S1 1 = m_P S0 1 := fun S1 l e hl he f => (f.2.1 1 (by omega) (by have := hC'.1; omega)).2.2.2 (by
    have := e_out hC' he (a := 1) (by omega) (by omega)
    simp; omega)
  match d, hd with
  | 0, _ =>
    refine main la ea na fs0 hFa (by omega) (fun _ => pa) (fun z => by omega) (.inl rfl) (fun S1 I1 e' fs' f w1 w2 w3 => ⟨na + 1, nb, e', eb, fs', fs1, ⟨⟨?_, ?_⟩, hll, w1, w3 (d' := 1) (by omega) (by omega) (by omega) (by omega) (by simp; omega) (by simp; omega) (by
      rcases kb with z | z
      · exact .inl z
      · rcases j6 with y | y
        · exact .inl y
        · right; simp; omega) hFb⟩, ?_⟩)
    · rw [pC S1 la ea (by omega) hFa.2.2.1.e0 f]; exact pa
    · rw [pC S1 la ea (by omega) hFa.2.2.1.e0 f]; exact pb
    · rcases w2 with z | z
      · exact .inl ⟨z, .inl rfl⟩
      · exact .inr ⟨rfl, by omega⟩
  | 1, _ =>
    refine main lb eb nb fs1 hFb (by omega) (fun z => by omega) (fun _ => pb) (.inr rfl) (fun S1 I1 e' fs' f w1 w2 w3 => ⟨na, nb + 1, ea, e', fs0, fs', ⟨⟨?_, ?_⟩, hll, w3 (d' := 0) (by omega) (by omega) (by omega) (by omega) (by simp; omega) (by simp; omega) (by
      rcases ka with z | z
      · exact .inl z
      · rcases j5 with y | y
        · exact .inl y
        · right; simp; omega) hFa, w1⟩, .inl ⟨rfl, w2.imp_right (fun z => by omega)⟩⟩)
    · rw [pC S1 lb eb (by omega) hFb.2.2.1.e0 f]; exact pa
    · rw [pC S1 lb eb (by omega) hFb.2.2.1.e0 f]; exact pb
end DC
