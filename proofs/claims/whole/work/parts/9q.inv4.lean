/-! every call keeps what holds -/
section IY
theorem lawAll : LawAll Inv := by
  refine ⟨E0_ok, ?_, ?_, E3_ok, ?_, ?_, ?_, ?_, ?_, ?_, ?_, ?_, ?_, ?_, ?_, ?_, ?_, E17_ok, ?_, ?_, ?_, E21_ok, ?_, ?_, ?_, ?_, E26_ok, ?_, ?_, ?_, ?_, ?_, ?_, ?_, ?_, ?_, ?_, ?_, ?_⟩ <;> rintro SC SR g ⟨I, J, np, nw, ep, ew, ps, ws, la, lb, na, nb, ea, eb, fs0, fs1, nf, ef, ff, rfl, hc, hk, hf, he, ho, hd⟩ <;> have hC := hc.1.1 <;> have hI : Inv SC (mkR I J) := ⟨I, J, np, nw, ep, ew, ps, ws, la, lb, na, nb, ea, eb, fs0, fs1, nf, ef, ff, rfl, hc, hk, hf, he, ho, hd⟩
  · exact e_C hC hk hf he ho hd (about_ok hc _ _)
  · obtain ⟨r, a, b⟩ := place_ok (J := J) hc (g 1) (g 2); exact ⟨r, a, b, hI⟩
  · exact e_A hC hk hf he ho hd (told_ok hc _ _)
  · obtain ⟨r, a, b⟩ := digit_ok (J := J) hc (g 1) (g 2) (g 3); exact ⟨r, a, b, hI⟩
  · obtain ⟨r, a, b⟩ := readings_ok (J := J) hc (g 1) (g 2); exact ⟨r, a, b, hI⟩
  · obtain ⟨r, a, b⟩ := reading_ok (J := J) hc (g 1) (g 2) (g 3); exact ⟨r, a, b, hI⟩
  · obtain ⟨x, S', I', a, b, hc', f1, f2⟩ := view_ok (J := J) hc (g 1) (g 2)
    exact ⟨x, S', _, a, b, kept hC hk hf he ho hd hc' f1 f2 (by simp) (by simp) (by simp) (by simp)⟩
  · exact e_A hC hk hf he ho hd (ask3_ok hc _).1
  · exact e_A hC hk hf he ho hd (ask3_ok hc _).2.1
  · exact e_A hC hk hf he ho hd (ask3_ok hc _).2.2
  · obtain ⟨x, S', I', a, b, hc', f1, f2⟩ := steep_ok (J := J) hc (g 1)
    exact ⟨x, S', _, a, b, kept hC hk hf he ho hd hc' f1 f2 (by simp) (by simp) (by simp) (by simp)⟩
  · exact e_C hC hk hf he ho hd (quarrel_ok hc _ _)
  · exact e_C hC hk hf he ho hd (doubted_ok hc)
  · exact e_C hC hk hf he ho hd (value_ok hc _ _)
  · obtain ⟨x, S', I', a, b, hc', f1, f2⟩ := line_ok (J := J) hc (g 1) (g 2)
    exact ⟨x, S', _, a, b, kept hC hk hf he ho hd hc' f1 f2 (by simp) (by simp) (by simp) (by simp)⟩
  · exact e_M hc hk hf he ho hd (front_ok hC hf _ _ _)
  · obtain ⟨r, a, b⟩ := yOf_ok (J := J) hC hf (g 1) (g 2) (g 3); exact ⟨r, a, b, hI⟩
  · exact e_M hc hk hf he ho hd (joining_ok hC hf)
  · exact e_C hC hk hf he ho hd (prognosis_ok hc _ _ _ _)
  · obtain ⟨x, S', I', a, b, hc', he', f1, f2⟩ := keep_ok (J := J) hc he (g 1)
    have h50 := hC.1
    have fx : Fx SC S' [8, 9, 10, 11, 36, 37, 38, 39, 40] [] := fx0 (by simp)
    exact ⟨x, S', _, a, b, I', J, np, nw, ep, ew, ps, ws, la, lb, na, nb, ea, eb, fs0, fs1, nf, ef, ff, rfl, hc', hk.fr hC f1 f2 (by simp) (by simp) (by simp) (by simp), hf.fr (Nat.le_trans (by decide) h50) f1 fx (by simp) (by simp) (by simp) (.inr (by simp)) (.inr (by simp)) f2 (by simp), he', ho.fr f1 fx (by simp) (.inr (by simp)) f2 (by simp) (by simp), hd⟩
  · exact e_J hC hk hf he ho hd (beside_ok hc he _ _ _ _)
  · exact e_J hC hk hf he ho hd (drift_ok hc he _ _)
  · exact e_C hC hk hf he ho hd (verified_ok hc ho _ _)
  · exact e_S hc hf he ho hd (sheet_ok hC hk _ _ _) (by simp) (by simp) (by simp) (by simp)
  · exact e_S hc hf he ho hd (lose_ok hC hk _) (by simp) (by simp) (by simp) (by simp)
  · exact e_S hc hf he ho hd (put_ok hC hk _ _ _) (by simp) (by simp) (by simp) (by simp)
  · exact e_S hc hf he ho hd (cell_ok hC hk _ _ _) (by simp) (by simp) (by simp) (by simp)
  · exact e_S hc hf he ho hd (copy_ok hC hk _ _ _ _ _) (by simp) (by simp) (by simp) (by simp)
  · exact e_T hc hk hf he ho hd (tell_ok hC hc.1.2.1 hk.1 _)
  · exact e_T hc hk hf he ho hd (hail_ok hC hc.1.2.1 hk.1 _)
  · exact e_T hc hk hf he ho hd (as_ok hC hc.1.2.1 hk.1 _ _)
  · refine ⟨m_I SC 1 11, ?_, ?_, hI⟩
    · unfold fX9_trace bX9_trace_0
      rw [cI1 hC, Option.bind_some]
    · unfold fX10_trace bX10_trace_0
      rw [rI, Option.bind_some, hk.1.2]
  · refine ⟨m_I SC 1 12, ?_, ?_, hI⟩
    · unfold fX9_fault bX9_fault_0
      rw [cI1 hC, Option.bind_some]
    · unfold fX10_fault bX10_fault_0
      rw [rI, Option.bind_some, hk.1.1]
  · exact e_A hC hk hf he ho hd (many_ok hc hf he ho.1 ho.2.2.1 ho.2.1 _)
theorem inv_is (SC SR : MS) (h : Inv SC SR) : o_is SC 1 10 = some 1 ∧ o_is SR 1 11 = some 1 := by
  obtain ⟨I, J, np, nw, ep, ew, ps, ws, la, lb, na, nb, ea, eb, fs0, fs1, nf, ef, ff, rfl, hc, -⟩ := h
  exact ⟨cIs1 hc.1.1, rIs⟩
end IY
