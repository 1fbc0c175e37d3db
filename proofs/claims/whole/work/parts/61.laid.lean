/-! the reference's chart, laid -/
noncomputable def dd (I : Nat → Nat → Int32) (np nw : Nat) : Nat := dbt (agb (inV I nw) (lvn I np nw) (fun p => plc I p (I 1 15)) (I 1 17) np) np
noncomputable def val (I : Nat → Nat → Int32) (np nw k : Nat) : Int32 := match vq I np nw (dd I np nw) (nI k) with
  | none => -9
  | some q => lvn I np nw q
theorem dd_raw (I : Nat → Nat → Int32) (np nw : Nat) : dd (rawI I) np nw = dd I np nw := by
  unfold dd
  rw [inV_raw, lvn_raw]
  rfl
theorem vq_raw (I : Nat → Nat → Int32) (np nw d : Nat) (x : Int32) : vq (rawI I) np nw d x = vq I np nw d x := by
  unfold vq
  rw [inV_raw, nq_raw]
theorem val_raw (I : Nat → Nat → Int32) (np nw : Nat) : val (rawI I) np nw = val I np nw := by
  funext k
  unfold val
  rw [dd_raw, vq_raw, lvn_raw]
/-- all that is laid -/
def Lai (I : Nat → Nat → Int32) (np nw : Nat) : Prop := I 1 19 = nI (cnt (inV I nw) np) ∧ Laid1 I np nw ∧ (∀ p, p < np → I 16 p = lvn I np nw p) ∧ I 1 23 = nI (dd I np nw) ∧ ∀ k, k < 144 → I 17 k = val I np nw k
/-- what the reference knows of posts and wires -/
def RawOk (I : Nat → Nat → Int32) (np nw : Nat) : Prop := (np ≤ 12 ∧ I 1 1 = nI np) ∧ (nw ≤ 30 ∧ I 1 8 = nI nw) ∧ (∀ p, p < np → poR I p) ∧ (∀ w, w < nw → wiR I w) ∧ (∀ w, w < nw → ∀ x, x < 5 → dgR (Dig I w 1 x)) ∧ ∀ w, w < nw → ∃ p, p < np ∧ I 8 w = nI p
section LD
variable {I : Nat → Nat → Int32} {J : Nat → Nat → Int64} {np nw : Nat}
theorem Laid1.fr {I' : Nat → Nat → Int32} (h : Laid1 I np nw) (hraw : rawI I' = rawI I) (h15 : I' 1 15 = I 1 15) (h1 : I' 14 = I 14) (h2 : I' 15 = I 15) : Laid1 I' np nw := fun p hp => by
  have hsh : shn I' nw p = shn I nw p := raw_c (fun I => shn I nw p) (fun I => shn_raw I nw p) hraw
  have hpl : plc I' p (I 1 15) = plc I p (I 1 15) := congrFun (raw_c (fun I => plc I p) (fun _ => rfl) hraw) (I 1 15)
  rw [h1, h2, hsh, h15, hpl]
  exact h p hp
theorem R_lay (hR : RawOk I np nw) (h18 : I 1 18 = 0) : ∃ I', fX10_layChart (mkR I J) 1 = some (mkR I' J) ∧ FrR I I' [14, 15, 16, 17, 18] [18, 19, 23] ∧ I' 1 18 = 1 ∧ Lai I' np nw := by
  obtain ⟨⟨hn, h1⟩, ⟨hnw, h8⟩, hpo, hwi, hdg, -⟩ := hR
  have hs : ∀ (K : Nat → Nat → Int32) (k : Nat) (v : Int32), o_sI (mkR K J) 1 11 k v = some (mkR (va_up K 1 (upd (K 1) k v)) J) := fun K k v => rSI k v
  unfold fX10_layChart bX10_layChart_0
  simp only [rI, h18, if_true, hs, Option.bind_some, fin_l, up_s, up_up]
  generalize hI0 : va_up I 1 (upd (upd (I 1) 18 1) 19 0) = I0
  have f0 : FrR I I0 [14, 15] [18, 19] := by
    rw [← hI0]
    refine ⟨fun b hb _ => up_n hb, fun k hk => ?_⟩
    simp only [List.mem_cons, List.not_mem_nil, or_false, not_or] at hk
    rw [up_s, upd_n hk.2, upd_n hk.1]
  have y0 : Ly1 I I0 nw 0 := by
    refine ⟨f0, ?_, ?_, fun p hp => by omega⟩
    · rw [← hI0, up_s, upd_n (by decide), upd_s]
    · rw [← hI0, up_s, upd_s]; rfl
  obtain ⟨s, ⟨I1, hs1, hy1⟩, he1⟩ := lim_inv (step := sX10_layChart) (K := fun j s => ∃ I', s = .inl (1, nI j, mkR I' J) ∧ Ly1 I I' nw j) np (s0 := .inl (1, nI 0, mkR I0 J)) ⟨I0, rfl, y0⟩ (fun j hj s hs => by
    obtain ⟨I', rfl, hk⟩ := hs
    obtain ⟨I2, e1, e2⟩ := R_lay1_step (J := J) hn h1 hnw h8 hpo hwi hj hk
    exact ⟨_, e1, I2, rfl, e2⟩)
  have y1 : Ly2 I I1 np nw 0 := ⟨hy1.1.mono (by simp) (by simp), hy1.2.1, hy1.2.2.1, hy1.2.2.2, fun p hp => by omega⟩
  obtain ⟨s', ⟨I2, hs2, hy2⟩, he2⟩ := lim_inv (step := sX10_layChart) (K := fun j s => ∃ I', s = .inr (.inl (1, nI j, mkR I' J)) ∧ Ly2 I I' np nw j) np (s0 := .inr (.inl (1, nI 0, mkR I1 J))) ⟨I1, rfl, y1⟩ (fun j hj s hs => by
    obtain ⟨I', rfl, hk⟩ := hs
    obtain ⟨I2, e1, e2⟩ := R_lay2_step (J := J) hn h1 hnw hwi hdg hj hk
    exact ⟨_, e1, I2, rfl, e2⟩)
  obtain ⟨f2, k18, k19, kk, k16⟩ := hy2
  have g1 : I2 1 1 = nI np := by rw [f2.2 1 (by simp)]; exact h1
  have hFd : Fdo I2 np (inV I nw) (lvn I np nw) (fun p => plc I p (I 1 15)) (I 1 17) := by
    refine ⟨⟨hn, g1, f2.2 17 (by simp)⟩, fun p hp => ⟨⟨fun hv => ?_, fun hv => ?_⟩, (kk p hp).2, k16 p hp⟩⟩
    · unfold inV at hv
      rw [(kk p hp).1]
      cases hs : shn I nw p with
      | none => rw [hs] at hv; cases hv
      | some w => exact ⟨w, by have := (shn_lt hs).1; omega, rfl⟩
    · unfold inV at hv
      rw [(kk p hp).1]
      cases hs : shn I nw p with
      | none => rfl
      | some w => rw [hs] at hv; cases hv
  obtain ⟨I3, e3, f3, k23⟩ := R_findDoubted (J := J) hFd
  have f13 : FrR I I3 [14, 15, 16, 17, 18] [18, 19, 23] := (f2.mono (by simp) (by simp)).tr (f3.mono (by simp) (by simp))
  have hraw3 := raw_fr f13 (by simp) (by simp)
  have g31 : I3 1 1 = nI np := by rw [f13.2 1 (by simp)]; exact h1
  have l2 : Laid1 I2 np nw := fun p hp => by
    have hraw2 := raw_fr f2 (by simp) (by simp)
    have hsh : shn I2 nw p = shn I nw p := raw_c (fun I => shn I nw p) (fun I => shn_raw I nw p) hraw2
    have hpl : plc I2 p (I 1 15) = plc I p (I 1 15) := congrFun (raw_c (fun I => plc I p) (fun _ => rfl) hraw2) (I 1 15)
    rw [hsh, f2.2 15 (by simp), hpl]
    exact kk p hp
  have l3 : Laid1 I3 np nw := l2.fr (raw_fr f3 (by simp) (by simp)) (f3.2 15 (by simp)) (f3.1 14 (by decide) (by simp)) (f3.1 15 (by decide) (by simp))
  have d3 : I3 1 23 = nI (dd I np nw) := k23
  obtain ⟨s'', ⟨I4, hs4, f4, k17⟩, he4⟩ := lim_inv (step := sX10_layChart) (K := fun j s => ∃ I', s = .inr (.inr (1, nI j, mkR I' J)) ∧ FrR I3 I' [17] [] ∧ ∀ k, k < j → I' 17 k = val I np nw k) 144 (s0 := .inr (.inr (1, nI 0, mkR I3 J))) ⟨I3, rfl, FrR.rf, fun k hk => by omega⟩ (fun j hj s hs => by
    obtain ⟨I', rfl, hf', hk⟩ := hs
    have hraw' : rawI I' = rawI I3 := raw_fr hf' (by simp) (by simp)
    have l' : Laid1 I' np nw := l3.fr hraw' (hf'.2 15 (by simp)) (hf'.1 14 (by decide) (by simp)) (hf'.1 15 (by decide) (by simp))
    have hva := R_valueAt (J := J) (I := I') (lvl' := lvn I np nw) (place := nI j) hn (by rw [hf'.2 1 (by simp)]; exact g31) l' (fun p hp => by rw [hf'.1 16 (by decide) (by simp), f3.1 16 (by decide) (by simp)]; exact k16 p hp) (d := dd I np nw) (by rw [hf'.2 23 (by simp)]; exact d3) hnw
    have hvq : vq I' np nw (dd I np nw) (nI j) = vq I np nw (dd I np nw) (nI j) := raw_c (fun K => vq K np nw (dd I np nw) (nI j)) (fun K => vq_raw K np nw _ _) (hraw'.trans hraw3)
    rw [hvq] at hva
    refine ⟨.inr (.inr (1, nI (j + 1), mkR (va_up I' 17 (upd (I' 17) j (val I np nw j))) J)), ?_, _, rfl, hf'.tr (FrR.up (by decide) (by simp)), fun k hkj => ?_⟩
    · show bX10_layChart_174 (mkR I' J) 1 (nI j) = _
      unfold bX10_layChart_174
      simp only [if_neg (show ¬ (144 : Int32) ≤ nI j from nI_ge (b := 144) hj (by omega)), rP24, rIs, hva, rS17 rfl hj, Option.bind_some, nI_1]
      rfl
    · rw [up_s]
      by_cases hkk : k = j
      · rw [hkk, upd_s]
      · rw [upd_n hkk]
        exact hk k (by omega))
  have hnp : nI np ≤ nI np := nI_le (Nat.le_refl _) (by omega)
  have g11 : I1 1 1 = nI np := by rw [hy1.1.2 1 (by simp)]; exact h1
  have fA : FrR I I4 [14, 15, 16, 17, 18] [18, 19, 23] := f13.tr (f4.mono (by simp) (by simp))
  refine ⟨I4, ?_, fA, ?_, ?_⟩
  · rw [show lim sX10_layChart (.inl (1, 0, mkR I0 J)) = _ from he1, hs1, lim_eq]
    show fin sX10_layChart (bX10_layChart_20 (mkR I1 J) 1 (nI np)) = _
    unfold bX10_layChart_20
    simp only [rI, g11, if_pos hnp, Option.bind_some, fin_l]
    rw [show lim sX10_layChart (.inr (.inl (1, 0, mkR I1 J))) = _ from he2, hs2, lim_eq]
    show fin sX10_layChart (bX10_layChart_119 (mkR I2 J) 1 (nI np)) = _
    unfold bX10_layChart_119
    simp only [rI, g1, if_pos hnp, rIs, e3, Option.bind_some, fin_l]
    rw [show lim sX10_layChart (.inr (.inr (1, 0, mkR I3 J))) = _ from he4, hs4, lim_eq]
    show fin sX10_layChart (bX10_layChart_174 (mkR I4 J) 1 (nI 144)) = _
    unfold bX10_layChart_174
    rw [if_pos (by decide), fin_r]
  · rw [f4.2 18 (by simp), f3.2 18 (by simp)]; exact k18
  · have hraw := raw_fr fA (by simp) (by simp)
    have hin : inV I4 nw = inV I nw := raw_c (fun I => inV I nw) (fun I => inV_raw I nw) hraw
    have hlv : lvn I4 np nw = lvn I np nw := raw_c (fun I => lvn I np nw) (fun I => lvn_raw I np nw) hraw
    have hdd : dd I4 np nw = dd I np nw := raw_c (fun I => dd I np nw) (fun I => dd_raw I np nw) hraw
    have hva : val I4 np nw = val I np nw := raw_c (fun I => val I np nw) (fun I => val_raw I np nw) hraw
    refine ⟨?_, ?_, fun p hp => ?_, ?_, fun k hk => ?_⟩
    · rw [hin, f4.2 19 (by simp), f3.2 19 (by simp)]; exact k19
    · exact l3.fr (raw_fr f4 (by simp) (by simp)) (f4.2 15 (by simp)) (f4.1 14 (by decide) (by simp)) (f4.1 15 (by decide) (by simp))
    · rw [hlv, f4.1 16 (by decide) (by simp), f3.1 16 (by decide) (by simp)]; exact k16 p hp
    · rw [hdd, f4.2 23 (by simp)]; exact d3
    · rw [hva]; exact k17 k hk
theorem R_layChart (hR : RawOk I np nw) (h18 : I 1 18 = 0 ∨ I 1 18 = 1 ∧ Lai I np nw) : ∃ I', fX10_layChart (mkR I J) 1 = some (mkR I' J) ∧ FrR I I' [14, 15, 16, 17, 18] [18, 19, 23] ∧ I' 1 18 = 1 ∧ Lai I' np nw := by
  rcases h18 with h18 | ⟨h18, hl⟩
  · exact R_lay hR h18
  · refine ⟨I, ?_, FrR.rf, h18, hl⟩
    unfold fX10_layChart bX10_layChart_0
    simp only [rI, h18, e10, if_false, Option.bind_some, fin_r]
end LD
