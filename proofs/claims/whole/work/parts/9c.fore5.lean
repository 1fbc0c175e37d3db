/-! forecast, whole -/
section FC5
variable {S S' : MS} {I I' : Nat → Nat → Int32} {J : Nat → Nat → Int64} {c q1 q2 q3 m w nf ef : Nat} {ff : Nat → Nat} {PI Q PL P QR : List Nat}
theorem okG_F (hC : CS S) (hk : KSh S I) (hf : i_fo S I nf ef ff) (x v : Int32) : OkG S I J ef (some (x, cF S v)) (some (x, mkR (rF I v) J)) := by
  exact ⟨x, _, _, nf, ef, ff, rfl, rfl, cF_C hC, hk.F hC v, hf.fr cF_f ⟨by simp, by simp⟩ (by simp) (.inr (by simp)) rF_f (by simp) (by simp), .inl rfl, cF_f.mono (by simp) (by simp) (by simp), rF_f.mono (by simp) (by simp)⟩
noncomputable def cRd (S : MS) (c k : Nat) (x3 x4 : Int32) : Option (Int32 × MS) :=
        b2 (fX2_firstFaultOf S c (44 + 2 * k) x3 x4) fun v76 S76 =>
        if v76 = (-9 : Int32) then
          (o_gP S76 1 10 9).bind fun v95 =>
          (o_is S76 v95 0).bind fun _ =>
          (fJx4a65c_size_8abf5 S76 v95).bind fun v98 =>
          if v98 < (8 : Int32) then
            (o_gP S76 1 10 9).bind fun v110 =>
            (o_is S76 v110 0).bind fun _ =>
            b2 (fJx4a65c_add_9ea2d S76 v110 c) fun v115 S115 =>
            (o_gP S115 1 10 9).bind fun v120 =>
            (o_is S115 v120 0).bind fun _ =>
            (fJx4a65c_size_8abf5 S115 v120).bind fun v123 =>
            some ((v123 - (1 : Int32)), S115)
          else
            some ((-4 : Int32), S76)
        else
          some (((-100 : Int32) - v76), S76)
noncomputable def rRd (S : MS) (k x4 : Int32) (b : Int32) : Option (Int32 × MS) :=
  fin sX10_forecast (
        b2 (fX10_read S 1 b x4) fun v114 S114 =>
        if v114 < 0 then
          (o_gI S114 1 11 44).bind fun v135 =>
          if v135 = (8 : Int32) then
            (o_is S114 1 11).bind fun _ =>
            b2 (fX10_refused S114 1 (-4 : Int32)) fun v146 S146 =>
            some (.inr (v146, S146))
          else
            (o_gP S114 1 11 45).bind fun v151 =>
            (o_gI S114 1 11 44).bind fun v155 =>
            (o_gI S114 1 11 49).bind fun v159 =>
            (o_st S114 v151 12 v155 v159).bind fun S162 =>
            some (.inl (1, (0 : Int32), S162))
        else
          (o_is S114 1 11).bind fun _ =>
          b2 (fX10_refused S114 1 ((-100 : Int32) - v114)) fun v130 S130 =>
          some (.inr (v130, S130)))
theorem fore_in {k x n : Nat} (hC0 : CS S) (hk0 : KSh S I) (hf0 : i_fo S I nf ef ff) (hk4 : k < 4) (hx : x + n ≤ 60) (hD : ∀ j, j < n → m_I S (44 + 2 * k) (x + j) = I 42 (60 * k + x + j)) : ∃ S57, fX2_init (m_new (cF S 0) 3 0) (m_n (cF S 0) + 1) = some S57 ∧ CS S57 ∧ m_at S57 (m_n (cF S 0) + 1) 3 ∧ OkG S I J ef (cRd S57 (m_n (cF S 0) + 1) k (nI x) (nI n)) (rRd (mkR I J) (nI k) (nI n) (nI (60 * k + x))) := by
  have hC := cF_C (v := 0) hC0
  have h50 := hC.1
  have nS : m_n (cF S 0) = m_n S := rfl
  have fSS := cF_f (S := S) (v := 0)
  obtain ⟨S57, e57, f57, g57, i0, i4, z57⟩ := C_foreInit (S := cF S 0) h50
  generalize hc : m_n (cF S 0) + 1 = c at *
  generalize hq1 : m_n (cF S 0) + 2 = q1 at *
  generalize hq2 : m_n (cF S 0) + 3 = q2 at *
  generalize hq3 : m_n (cF S 0) + 4 = q3 at *
  have C57 := hC.fr f57 (by simp) (by simp)
  have R57 : Rm S57 (va_up I 1 (upd (I 1) 49 0)) c q1 q2 q3 0 0 := ⟨g57, ⟨by omega, by omega⟩, i0, i4, fun q => by omega, by rw [up_s, upd_s]; rfl, fun j hj => ⟨fun q => by omega, fun q => by omega, fun q => by omega, fun _ => z57 j⟩⟩
  have D57 : ∀ j, j < n → m_I S57 (44 + 2 * k) (x + j) = (va_up I 1 (upd (I 1) 49 0)) 42 (60 * k + x + j) := fun j hj => by
    rw [f57.row hC (by omega) (by omega) (by simp), cF_1 (by omega), up_n (show (42 : Nat) ≠ 1 by decide)]
    exact hD j hj
  obtain ⟨r', r, S76, I76, p1, p2, p3, p4, p5⟩ := parse (J := J) hk4 hx n (i := 0) C57 R57 D57 (by omega)
  refine ⟨S57, e57, C57, g57.2.2.1, ?_⟩
  have e1 : fX2_firstFaultOf S57 c (44 + 2 * k) (nI x) (nI n) = some (r', S76) := by
    unfold fX2_firstFaultOf bX2_firstFaultOf_0
    rw [fin_l]
    exact p1
  have e2 : fX10_read (mkR I J) 1 (nI (60 * k + x)) (nI n) = some (r, mkR I76 J) := by
    unfold fX10_read bX10_read_0
    rw [rSI, Option.bind_some, fin_l]
    exact p2
  have C76 := C57.fr p3 (by simp) (by simp)
  have fI : FrR I I76 [33, 34, 35, 36, 37, 38, 39] [0, 44, 49] := (FrR.up1 (by simp)).tr (p4.mono (by simp) (by simp))
  have fI2 : FrR I I76 [37, 38, 39] [49] := (FrR.up1 (by simp)).tr p4
  -- class frame from the start
  have f1 : FrC (cF S 0) S76 [] [] [] := by
    have t : FrC (cF S 0) S76 [c, q1, q2, q3] [] [] := (f57.mono (by simp) (by simp) (by simp)).tr p3
    exact (((t.bigI (by omega)).bigI (by omega)).bigI (by omega)).bigI (by omega)
  have k76 : KSh S76 (rF I76 0) := by
    have h1 := hk0.F hC0 0
    have h2 : FrR (rF I 0) (rF I76 0) [37, 38, 39] [49] := rF_fr fI2
    exact ⟨h1.1.fr f1 h2 (by simp) (by simp), h1.2.fr hC f1 h2 (by simp) (by simp)⟩
  have o76 : i_fo S76 (rF I76 0) nf ef ff := by
    have h1 : i_fo (cF S 0) (rF I 0) nf ef ff := hf0.fr cF_f ⟨by simp, by simp⟩ (by simp) (.inr (by simp)) rF_f (by simp) (by simp)
    exact h1.fr f1 ⟨by simp, by simp⟩ (by simp) (.inr (by simp)) (rF_fr fI2) (by simp) (by simp)
  have done : ∀ x : Int32, OkG S I J ef (some (x, S76)) (some (x, mkR (rF I76 0) J)) := fun x => ⟨x, _, _, nf, ef, ff, rfl, rfl, C76, k76, o76, .inl rfl, (fSS.mono (by simp) (by simp) (by simp)).tr (f1.mono (by simp) (by simp) (by simp)), fI.tr (rF_f.mono (by simp) (by simp))⟩
  unfold cRd rRd
  rw [e1, e2, b2_s, b2_s]
  rcases p5 with ⟨q1', q2', N, g, hN, d0, d49, dj⟩ | ⟨t, ht, q1', q2'⟩
  · rw [q1', q2', if_pos rfl, if_pos (show (-1 : Int32) < 0 by decide), cP1_9 C76, Option.bind_some, at_is o76.2.2.1.1.1, Option.bind_some, L_size o76.2.2.1, Option.bind_some]
    have h44 : I76 1 44 = nI nf := by rw [fI2.2 44 (by simp)]; exact hf0.2.1
    rw [rI, h44, Option.bind_some, Option.bind_some]
    by_cases h8 : nf = 8
    · rw [h8, if_neg (by decide), if_pos (by decide), rIs, Option.bind_some, R_refused, b2_s, fin_r]
      exact done _
    · have hnf : nf < 8 := by have := hf0.1; omega
      rw [if_pos (show nI nf < 8 from nI_lt (b := 8) hnf (by omega)), if_neg (show ¬ nI nf = 8 from fun q => by have := (nI_eq (a := nf) (b := 8) (by omega) (by omega)).mp q; omega), at_is o76.2.2.1.1.1, Option.bind_some]
      obtain ⟨S3, e', a1, L3, f3, he'⟩ := L_add o76.2.2.1 (by decide) (by omega) (by unfold o_okk; decide) g.2.2.1
      have eo := o76.2.2.1.e0
      have C3 : CS S3 := C76.fr f3 (fun t ht => by
        have := pCl_b t ht
        have := e_out C76 eo this.1 this.2.1
        have hk := (pCl_k t ht).1.2.2
        have h41 : t.1 ≠ 41 := fun q => by
          have := (by decide : ∀ t ∈ pCl, t.1 ≠ 41) t ht
          exact this q
        simp; omega) (by
        have := e_out C76 eo (a := 1) (by omega) (by omega)
        simp; omega)
      obtain ⟨I2, u1, u2, u3, u4⟩ := R_file (J := J) (N := N) hnf h44 hN d49 (fun j hj => by
        rcases (dj j hj).2.1 with ⟨-, e⟩ | ⟨-, e⟩
        · exact .inl e
        · exact .inr e)
      rw [a1, b2_s, cP1_9 C3, Option.bind_some, at_is L3.1.1, Option.bind_some, L_size L3, Option.bind_some, rP45, Option.bind_some, Option.bind_some, rI, d49, Option.bind_some, rS33 rfl (by omega), Option.bind_some, fin_l, show lim sX10_forecast (1, 0, _) = _ from u1, nI_pred]
      have fx3 : Fx S76 S3 [41] [41, ef] := ⟨by simp, fun a ha => by
        simp only [List.mem_cons, List.not_mem_nil, or_false] at ha
        rcases ha with ha | ha
        · rw [ha]; exact .inl o76.2.2.1.1.1.2.2
        · rcases eo with h0 | h0
          · omega
          · rw [ha]; exact .inr (.inl h0.2.2)⟩
      have v1 : FrR I76 (va_up I76 33 (upd (I76 33) nf (nI N))) [33] [] := FrR.up (by decide) (by simp)
      have v3 : FrR I2 (va_up I2 1 (upd (I2 1) 44 (nI (nf + 1)))) [] [44] := FrR.up1 (by simp)
      have vA : FrR I76 (rF (va_up I2 1 (upd (I2 1) 44 (nI (nf + 1)))) 0) [33, 34, 35, 36, 37, 38, 39] [0, 44, 49] := (v1.mono (by simp) (by simp)).tr ((u2.mono (by simp) (by simp)).tr ((v3.mono (by simp) (by simp)).tr (rF_f.mono (by simp) (by simp))))
      have vB : FrR (rF I76 0) (rF (va_up I2 1 (upd (I2 1) 44 (nI (nf + 1)))) 0) [33, 34, 35, 36] [44] := rF_fr ((v1.mono (by simp) (by simp)).tr ((u2.mono (by simp) (by simp)).tr (v3.mono (by simp) (by simp))))
      have w : ∀ r, r ≠ 1 → rF (va_up I2 1 (upd (I2 1) 44 (nI (nf + 1)))) 0 r = I2 r := fun r hr => by rw [rF_1 hr, up_n hr]
      have w2 : ∀ r, r ≠ 1 → rF I76 0 r = I76 r := fun r hr => rF_1 hr
      have i33 : I2 33 = upd (I76 33) nf (nI N) := by rw [u2.1 33 (by decide) (by simp), up_s]
      refine ⟨_, S3, _, nf + 1, e', va_up ff nf c, rfl, rfl, C3, ⟨k76.1.fr f3 vB (by simp) (by simp), k76.2.fr C76 f3 vB (by simp) (by simp)⟩, ⟨by omega, ?_, L3, fun f hf1 => ?_⟩, ?_, (fSS.mono (by simp) (by simp) (by simp)).tr ((f1.mono (by simp) (by simp) (by simp)).tr (f3.mono (by simp) (by simp) (by simp))), fI.tr vA⟩
      · rw [rF_o (by decide), up_s, upd_s]
      · by_cases hfn : f = nf
        · subst hfn
          rw [up_s]
          have g' := g
          obtain ⟨⟨b0, b1, b2', b3⟩, -, a0, -, ⟨m1, -⟩, ⟨m2, -⟩, ⟨m3, -⟩⟩ := g
          refine ⟨q1, q2, q3, N, g'.fr f3 fx3, hN.2, by rw [f3.hi fx3 a0 b0]; exact d0, ?_, fun j hj => ?_⟩
          · rw [w 33 (by decide), i33, upd_s]
          · obtain ⟨t1, t2, t3⟩ := u3 j hj
            rw [w 34 (by decide), w 35 (by decide), w 36 (by decide), t1, t2, t3, f3.hi fx3 m1 b1, f3.hi fx3 m2 b2', f3.hi fx3 m3 b3]
            exact dj j hj
        · rw [up_n hfn]
          refine (o76.2.2.2 f (by omega)).fr f3 fx3 ?_ (fun j hj => ?_)
          · rw [w 33 (by decide), w2 33 (by decide), i33, upd_n hfn]
          · obtain ⟨t1, t2, t3⟩ := u4 (5 * f + j) (by omega)
            rw [w 34 (by decide), w 35 (by decide), w 36 (by decide), w2 34 (by decide), w2 35 (by decide), w2 36 (by decide)]
            exact ⟨t1, t2, t3⟩
      · rcases he' with q | q
        · exact .inl q
        · refine .inr ?_
          have := f1.1
          omega
  · have h0 : ¬ nI t < 0 := nI_pos (by omega)
    rw [q1', q2', if_neg (fun q => h0 (by rw [q]; decide)), if_neg h0, rIs, Option.bind_some, R_refused, b2_s, fin_r]
    exact done _
end FC5
