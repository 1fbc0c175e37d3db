/-! the calls that make something new -/
section IW
theorem E0_ok : E_0 Inv := by
  rintro SC SR g ⟨I, J, np, nw, ep, ew, ps, ws, la, lb, na, nb, ea, eb, fs0, fs1, nf, ef, ff, rfl, hc, hk, hf, he, ho, hd⟩
  have hC := hc.1.1
  have h50 := hC.1
  obtain ⟨⟨op1, op2, op3⟩, ⟨ow1, ow2, ow3⟩, ⟨oa1, oa2, oa3⟩, ⟨ob1, ob2, ob3⟩, ⟨of1, of2, of3⟩⟩ := eos hc hf ho
  obtain ⟨⟨d1, d2, d3, d4⟩, ⟨d5, d6, d7⟩, ⟨d8, d9⟩, d10⟩ := hd
  obtain ⟨x, S', I', np', e', ps', c, r, hc', hep, f1, f2⟩ := post_ok (J := J) hc (sj_r d1) (g 1) (g 2) (g 3) (g 4) (g 5) (g 6)
  have fx : Fx SC S' [2, 3, 5, 6, 7] [3, ep] := fx2 (by simp) (hC.2.1 3 (by decide) (by decide)).1 op3
  refine ⟨x, S', _, c, r, I', J, np', nw, e', ew, ps', ws, la, lb, na, nb, ea, eb, fs0, fs1, nf, ef, ff, rfl, hc', hk.fr hC f1 f2 (by simp) (by simp) (by simp) (by simp), hf.fr (Nat.le_trans (by decide) h50) f1 fx (no2 (by decide) op1.1) (by simp) ⟨no2 (by decide) op1.2.2.2.1, no2 (by decide) op1.2.2.2.2.1⟩ (nm2 (sj_r d2) oa1.2.1) (nm2 (sj_r d3) ob1.2.1) f2 (by simp), he.fr hC f1 f2 (by simp) (by simp), ho.fr f1 fx ⟨by simp, no2 (by decide) op1.2.2.2.2.2⟩ (nm2 (sj_r d4) of1.2.1) f2 (by simp) (by simp), ?_⟩
  rcases hep with q | q
  · rw [q]; exact ⟨⟨d1, d2, d3, d4⟩, ⟨d5, d6, d7⟩, ⟨d8, d9⟩, d10⟩
  · exact ⟨⟨(sj_n q ow2).1, (sj_n q oa2).1, (sj_n q ob2).1, (sj_n q of2).1⟩, ⟨d5, d6, d7⟩, ⟨d8, d9⟩, d10⟩
theorem E3_ok : E_3 Inv := by
  rintro SC SR g ⟨I, J, np, nw, ep, ew, ps, ws, la, lb, na, nb, ea, eb, fs0, fs1, nf, ef, ff, rfl, hc, hk, hf, he, ho, hd⟩
  have hC := hc.1.1
  have h50 := hC.1
  obtain ⟨⟨op1, op2, op3⟩, ⟨ow1, ow2, ow3⟩, ⟨oa1, oa2, oa3⟩, ⟨ob1, ob2, ob3⟩, ⟨of1, of2, of3⟩⟩ := eos hc hf ho
  obtain ⟨⟨d1, d2, d3, d4⟩, ⟨d5, d6, d7⟩, ⟨d8, d9⟩, d10⟩ := hd
  obtain ⟨x, S', I', nw', e', ws', c, r, hc', hk', hep, f1, f2⟩ := wire_ok (J := J) hc hk (sj_l d1) (g 1) (g 2) (g 3) (g 4) (g 5) (g 6)
  have fx : Fx SC S' [2, 4, 5, 6, 7] [4, ew] := fx2 (by simp) (hC.2.1 4 (by decide) (by decide)).1 ow3
  refine ⟨x, S', _, c, r, I', J, np, nw', ep, e', ps, ws', la, lb, na, nb, ea, eb, fs0, fs1, nf, ef, ff, rfl, hc', hk', hf.fr (Nat.le_trans (by decide) h50) f1 fx (no2 (by decide) ow1.1) (by simp) ⟨no2 (by decide) ow1.2.2.2.1, no2 (by decide) ow1.2.2.2.2.1⟩ (nm2 (sj_r d5) oa1.2.2.1) (nm2 (sj_r d6) ob1.2.2.1) f2 (by simp), he.fr hC f1 f2 (by simp) (by simp), ho.fr f1 fx ⟨by simp, no2 (by decide) ow1.2.2.2.2.2⟩ (nm2 (sj_r d7) of1.2.2.1) f2 (by simp) (by simp), ?_⟩
  rcases hep with q | q
  · rw [q]; exact ⟨⟨d1, d2, d3, d4⟩, ⟨d5, d6, d7⟩, ⟨d8, d9⟩, d10⟩
  · exact ⟨⟨(sj_n q op2).2, d2, d3, d4⟩, ⟨(sj_n q oa2).1, (sj_n q ob2).1, (sj_n q of2).1⟩, ⟨d8, d9⟩, d10⟩
theorem E17_ok : E_17 Inv := by
  rintro SC SR g ⟨I, J, np, nw, ep, ew, ps, ws, la, lb, na, nb, ea, eb, fs0, fs1, nf, ef, ff, rfl, hc, hk, hf, he, ho, hd⟩
  have hC := hc.1.1
  have h50 := hC.1
  obtain ⟨⟨op1, op2, op3⟩, ⟨ow1, ow2, ow3⟩, ⟨oa1, oa2, oa3⟩, ⟨ob1, ob2, ob3⟩, ⟨of1, of2, of3⟩⟩ := eos hc hf ho
  obtain ⟨⟨d1, d2, d3, d4⟩, ⟨d5, d6, d7⟩, ⟨d8, d9⟩, d10⟩ := hd
  obtain ⟨x, S', I', na', nb', ea', eb', fs0', fs1', c, r, hc', hk', hf', hee, f1, f2⟩ := draw_ok (J := J) hc hk hf ⟨sj_l d2, sj_l d3, sj_l d5, sj_l d6, sj_l d8, sj_r d8⟩ (g 1) (g 2) (g 3) (g 4) (g 5) (g 6) (g 7) (g 8)
  have fx : Fx SC S' [14, 15, 17, 18, 19] [14, 15, ea, eb] := fx4 hC (by simp) oa3 ob3
  refine ⟨x, S', _, c, r, I', J, np, nw, ep, ew, ps, ws, la, lb, na', nb', ea', eb', fs0', fs1', nf, ef, ff, rfl, hc', hk', hf', he.fr hC f1 f2 (by simp) (by simp), ho.fr f1 fx ⟨by simp, no4 (by decide) oa1.2.2.2.2.2 ob1.2.2.2.2.2⟩ (nm4 (sj_r d9) (sj_r d10) of1.2.2.2.1 of1.2.2.2.2.1) f2 (by simp) (by simp), ?_⟩
  rcases hee with ⟨q1, q2 | q2⟩ | ⟨q1, q2⟩
  · rw [q1, q2]; exact ⟨⟨d1, d2, d3, d4⟩, ⟨d5, d6, d7⟩, ⟨d8, d9⟩, d10⟩
  · rw [q1]; exact ⟨⟨d1, d2, (sj_n q2 op2).2, d4⟩, ⟨d5, (sj_n q2 ow2).2, d7⟩, ⟨(sj_n q2 oa2).2, d9⟩, (sj_n q2 of2).1⟩
  · rw [q1]; exact ⟨⟨d1, (sj_n q2 op2).2, d3, d4⟩, ⟨(sj_n q2 ow2).2, d6, d7⟩, ⟨(sj_n q2 ob2).1, (sj_n q2 of2).1⟩, d10⟩
theorem E21_ok : E_21 Inv := by
  rintro SC SR g ⟨I, J, np, nw, ep, ew, ps, ws, la, lb, na, nb, ea, eb, fs0, fs1, nf, ef, ff, rfl, hc, hk, hf, he, ho, hd⟩
  have hC := hc.1.1
  have h50 := hC.1
  obtain ⟨⟨op1, op2, op3⟩, ⟨ow1, ow2, ow3⟩, ⟨oa1, oa2, oa3⟩, ⟨ob1, ob2, ob3⟩, ⟨of1, of2, of3⟩⟩ := eos hc hf ho
  obtain ⟨⟨d1, d2, d3, d4⟩, ⟨d5, d6, d7⟩, ⟨d8, d9⟩, d10⟩ := hd
  obtain ⟨S', I', c, r, C', hf', f1, f2⟩ := night_ok (J := J) hC hf (sj_r d8)
  have fx : Fx SC S' [14, 15] [1, ea] := fx1 (by simp) oa3
  exact ⟨_, S', _, c, r, I', J, np, nw, ep, ew, ps, ws, lb, la, nb, 0, eb, ea, fs1, fs0, nf, ef, ff, rfl, hc.fr C' f1 fx (by simp) (by simp) (no2 (by decide) oa1.2.1) (no2 (by decide) oa1.2.2.1) (nm2 (sj_l d2) op1.1) (nm2 (sj_l d5) ow1.1) f2 (by simp) (by simp), hk.fr hC f1 f2 (by simp) (by simp) (by simp) (by simp), hf', he.fr hC f1 f2 (by simp) (by simp), ho.fr f1 fx ⟨by simp, no2 (by decide) oa1.2.2.2.2.2⟩ (nm2 (sj_r d9) of1.1) f2 (by simp) (by simp), ⟨d1, d3, d2, d4⟩, ⟨d6, d5, d7⟩, ⟨sj_c d8, d10⟩, d9⟩
theorem E26_ok : E_26 Inv := by
  rintro SC SR g ⟨I, J, np, nw, ep, ew, ps, ws, la, lb, na, nb, ea, eb, fs0, fs1, nf, ef, ff, rfl, hc, hk, hf, he, ho, hd⟩
  have hC := hc.1.1
  have h50 := hC.1
  obtain ⟨⟨op1, op2, op3⟩, ⟨ow1, ow2, ow3⟩, ⟨oa1, oa2, oa3⟩, ⟨ob1, ob2, ob3⟩, ⟨of1, of2, of3⟩⟩ := eos hc hf ho
  obtain ⟨⟨d1, d2, d3, d4⟩, ⟨d5, d6, d7⟩, ⟨d8, d9⟩, d10⟩ := hd
  obtain ⟨x, S', I', nf', ef', ff', c, r, C', hk', ho', hee, f1, f2⟩ := forecast_ok (J := J) hC hk ho (g 1) (g 2) (g 3) (g 4)
  have fx : Fx SC S' [41] [41, ef] := fx2 (by simp) (hC.2.1 41 (by decide) (by decide)).1 of3
  refine ⟨x, S', _, c, r, I', J, np, nw, ep, ew, ps, ws, la, lb, na, nb, ea, eb, fs0, fs1, nf', ef', ff', rfl, hc.fr C' f1 fx (by simp) (by simp) (no2 (by decide) of1.2.1) (no2 (by decide) of1.2.2.1) (nm2 (sj_l d4) op1.2.2.2.2.2) (nm2 (sj_l d7) ow1.2.2.2.2.2) f2 (by simp) (by simp), hk', hf.fr (Nat.le_trans (by decide) h50) f1 fx (no2 (by decide) of1.1) (by simp) ⟨no2 (by decide) of1.2.2.2.1, no2 (by decide) of1.2.2.2.2.1⟩ (nm2 (sj_l d9) oa1.2.2.2.2.2) (nm2 (sj_l d10) ob1.2.2.2.2.2) f2 (by simp), he.fr hC f1 f2 (by simp) (by simp), ho', ?_⟩
  rcases hee with q | q
  · rw [q]; exact ⟨⟨d1, d2, d3, d4⟩, ⟨d5, d6, d7⟩, ⟨d8, d9⟩, d10⟩
  · exact ⟨⟨d1, d2, d3, (sj_n q op2).2⟩, ⟨d5, d6, (sj_n q ow2).2⟩, ⟨d8, (sj_n q oa2).2⟩, (sj_n q ob2).2⟩
end IW
