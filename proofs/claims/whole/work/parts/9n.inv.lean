/-! what holds between calls -/
section IV
variable {S S' : MS} {I I' : Nat → Nat → Int32} {J : Nat → Nat → Int64} {np nw ep ew la lb na nb ea eb nf ef : Nat} {ps ws fs0 fs1 ff : Nat → Nat} {PI Q PL P QR : List Nat}
def sj (x y : Nat) : Prop := x ≠ y ∨ x = 0
def DJ (ep ew ea eb ef : Nat) : Prop := (sj ep ew ∧ sj ep ea ∧ sj ep eb ∧ sj ep ef) ∧ (sj ew ea ∧ sj ew eb ∧ sj ew ef) ∧ (sj ea eb ∧ sj ea ef) ∧ sj eb ef
def Inv (SC SR : MS) : Prop := ∃ I J np nw ep ew ps ws la lb na nb ea eb fs0 fs1 nf ef ff, SR = mkR I J ∧ Cor SC I np nw ep ew ps ws ∧ KSh SC I ∧ i_fr SC I la lb na nb ea eb fs0 fs1 ∧ i_ke SC I ∧ i_fo SC I nf ef ff ∧ DJ ep ew ea eb ef
def e15 (S : MS) (e : Nat) : Prop := e = 0 ∨ m_at S e 15
def Eo (S : MS) (e : Nat) : Prop := (1 ≠ e ∧ 3 ≠ e ∧ 4 ≠ e ∧ 14 ≠ e ∧ 15 ≠ e ∧ 41 ≠ e) ∧ e ≤ m_n S ∧ e15 S e
theorem sj_l {x y : Nat} (h : sj x y) : x = 0 ∨ x ≠ y := by unfold sj at h; omega
theorem sj_r {x y : Nat} (h : sj x y) : y = 0 ∨ y ≠ x := by unfold sj at h; omega
theorem sj_n {x y n : Nat} (h : n < x) (h2 : y ≤ n) : sj x y ∧ sj y x := by unfold sj; omega
theorem sj_c {x y : Nat} (h : sj x y) : sj y x := by unfold sj at h ⊢; omega
theorem nm2 {x y l : Nat} (h : x = 0 ∨ x ≠ y) (hl : l ≠ x) : x = 0 ∨ x ∉ [l, y] := h.imp_right (fun q => by simp; exact ⟨Ne.symm hl, q⟩)
theorem nm4 {x y z : Nat} (h : x = 0 ∨ x ≠ y) (h' : x = 0 ∨ x ≠ z) (h14 : 14 ≠ x) (h15 : 15 ≠ x) : x = 0 ∨ x ∉ [14, 15, y, z] := by
  rcases h with h | h
  · exact .inl h
  · rcases h' with h' | h'
    · exact .inl h'
    · refine .inr ?_
      simp
      exact ⟨Ne.symm h14, Ne.symm h15, h, h'⟩
theorem no2 {a l e : Nat} (h1 : a ≠ l) (h2 : a ≠ e) : a ∉ [l, e] := by simp; exact ⟨h1, h2⟩
theorem no4 {a e e' : Nat} (h1 : a ≠ 14 ∧ a ≠ 15) (h2 : a ≠ e) (h3 : a ≠ e') : a ∉ [14, 15, e, e'] := by simp; exact ⟨h1.1, h1.2, h2, h3⟩
theorem Eo.of (hC : CS S) {e : Nat} (h : e = 0 ∨ m_at S e 15) : Eo S e := ⟨⟨e_out hC h (by omega) (by omega), e_out hC h (by omega) (by omega), e_out hC h (by omega) (by omega), e_out hC h (by omega) (by omega), e_out hC h (by omega) (by omega), e_out hC h (by omega) (by omega)⟩, by
  rcases h with h | h
  · omega
  · exact h.2.1, h⟩
theorem eos (hc : Cor S I np nw ep ew ps ws) (hf : i_fr S I la lb na nb ea eb fs0 fs1) (ho : i_fo S I nf ef ff) : Eo S ep ∧ Eo S ew ∧ Eo S ea ∧ Eo S eb ∧ Eo S ef :=
  have hC := hc.1.1
  ⟨Eo.of hC hc.1.2.1.2.2.1.e0, Eo.of hC hc.1.2.2.1.2.2.1.e0, Eo.of hC hf.2.2.1.2.2.1.e0, Eo.of hC hf.2.2.2.2.2.1.e0, Eo.of hC ho.2.2.1.e0⟩
theorem fx2 {l e : Nat} (hPI : ∀ a ∈ PI, a ≤ 50) (hl : m_K S l = 0) (he : e = 0 ∨ m_at S e 15) : Fx S S' PI [l, e] := ⟨hPI, fun a ha => by
  simp only [List.mem_cons, List.not_mem_nil, or_false] at ha
  rcases ha with ha | ha
  · rw [ha]; exact .inl hl
  · rcases he with h0 | h0
    · omega
    · rw [ha]; exact .inr (.inl h0.2.2)⟩
theorem fx1 {e : Nat} (hPI : ∀ a ∈ PI, a ≤ 50) (he : e = 0 ∨ m_at S e 15) : Fx S S' PI [1, e] := ⟨hPI, fun a ha => by
  simp only [List.mem_cons, List.not_mem_nil, or_false] at ha
  rcases ha with ha | ha
  · omega
  · rcases he with h0 | h0
    · omega
    · rw [ha]; exact .inr (.inl h0.2.2)⟩
theorem fx4 {e e' : Nat} (hC : CS S) (hPI : ∀ a ∈ PI, a ≤ 50) (he : e = 0 ∨ m_at S e 15) (he' : e' = 0 ∨ m_at S e' 15) : Fx S S' PI [14, 15, e, e'] := ⟨hPI, fun a ha => by
  simp only [List.mem_cons, List.not_mem_nil, or_false] at ha
  rcases ha with ha | ha | ha | ha
  · rw [ha]; exact .inl (hC.2.1 14 (by omega) (by omega)).1
  · rw [ha]; exact .inl (hC.2.1 15 (by omega) (by omega)).1
  · rcases he with h0 | h0
    · omega
    · rw [ha]; exact .inr (.inl h0.2.2)
  · rcases he' with h0 | h0
    · omega
    · rw [ha]; exact .inr (.inl h0.2.2)⟩
theorem fx0 (hPI : ∀ a ∈ PI, a ≤ 50) : Fx S S' PI [] := ⟨hPI, by simp⟩
theorem KSh.fr (h : KSh S I) (hC : CS S) (hf : FrC S S' PI Q PL) (hr : FrR I I' P QR) (h1 : ∀ a ∈ PI, a < 43 ∨ 50 < a) (h2 : 40 ∉ P ∧ 41 ∉ P ∧ 42 ∉ P) (h3 : 11 ∉ Q ∧ 12 ∉ Q) (h4 : 0 ∉ QR ∧ 57 ∉ QR) : KSh S' I' := ⟨h.1.fr hf hr h3 h4, h.2.fr hC hf hr h1 h2⟩
/-- a call that keeps all but posts, wires and chart -/
theorem kept (hC : CS S) (hk : KSh S I) (hf : i_fr S I la lb na nb ea eb fs0 fs1) (he : i_ke S I) (ho : i_fo S I nf ef ff) (hd : DJ ep ew ea eb ef) (hc' : Cor S' I' np nw ep ew ps ws) (f1 : FrC S S' PI Q []) (f2 : FrR I I' P QR) (h1 : ∀ a ∈ PI, a < 14 ∨ 15 < a ∧ a < 36) (h2 : ∀ r ∈ P, r < 21 ∨ 26 < r ∧ r < 31) (h3 : 11 ∉ Q ∧ 12 ∉ Q) (h4 : 0 ∉ QR ∧ 57 ∉ QR ∧ 44 ∉ QR) : Inv S' (mkR I' J) := by
  have h50 := hC.1
  have nP : ∀ r, 31 ≤ r → r ∉ P := fun r hr q => by have := h2 r q; omega
  have nI : ∀ a, a = 14 ∨ a = 15 ∨ 36 ≤ a → a ∉ PI := fun a ha q => by have := h1 a q; omega
  have fx : Fx S S' PI [] := fx0 (fun a ha => by have := h1 a ha; omega)
  exact ⟨I', J, np, nw, ep, ew, ps, ws, la, lb, na, nb, ea, eb, fs0, fs1, nf, ef, ff, rfl, hc', hk.fr hC f1 f2 (fun a ha => by have := h1 a ha; omega) ⟨nP 40 (by omega), nP 41 (by omega), nP 42 (by omega)⟩ h3 ⟨h4.1, h4.2.1⟩, hf.fr (by omega) f1 fx (by simp) ⟨nI 14 (by omega), nI 15 (by omega)⟩ (by simp) (.inr (by simp)) (.inr (by simp)) f2 (fun r hr => by have := h2 r hr; omega), he.fr hC f1 f2 (fun a ha => by have := h1 a ha; omega) ⟨nP 31 (by omega), nP 32 (by omega)⟩, ho.fr f1 fx ⟨nI 41 (by omega), by simp⟩ (.inr (by simp)) f2 (fun r hr => by have := h2 r hr; omega) h4.2.2, hd⟩
end IV
