/-! the other calls -/
section IX
theorem e_C {SC : MS} {I : Nat → Nat → Int32} {J : Nat → Nat → Int64} {np nw ep ew la lb na nb ea eb nf ef : Nat} {ps ws fs0 fs1 ff : Nat → Nat} {c r : Option (Int32 × MS)} (hC : CS SC) (hk : KSh SC I) (hf : i_fr SC I la lb na nb ea eb fs0 fs1) (he : i_ke SC I) (ho : i_fo SC I nf ef ff) (hd : DJ ep ew ea eb ef) (h : OkC SC I J np nw ep ew ps ws c r) : ∃ (x : Int32) (SC' : MS) (SR' : MS), c = some (x, SC') ∧ r = some (x, SR') ∧ Inv SC' SR' := by
  obtain ⟨x, S', I', a, b, hc', f1, f2⟩ := h
  exact ⟨x, S', _, a, b, kept hC hk hf he ho hd hc' f1 f2 (by simp) (by simp) (by simp) (by simp)⟩
theorem e_A {SC : MS} {I : Nat → Nat → Int32} {J : Nat → Nat → Int64} {np nw ep ew la lb na nb ea eb nf ef : Nat} {ps ws fs0 fs1 ff : Nat → Nat} {c : Option Int32} {r : Option (Int32 × MS)} (hC : CS SC) (hk : KSh SC I) (hf : i_fr SC I la lb na nb ea eb fs0 fs1) (he : i_ke SC I) (ho : i_fo SC I nf ef ff) (hd : DJ ep ew ea eb ef) (h : OkA SC I J np nw ep ew ps ws c r) : ∃ (x : Int32) (SR' : MS), c = some x ∧ r = some (x, SR') ∧ Inv SC SR' := by
  obtain ⟨x, I', a, b, hc', f2⟩ := h
  exact ⟨x, _, a, b, kept hC hk hf he ho hd hc' (FrC.rf (PI := []) (Q := [])) f2 (by simp) (by simp) (by simp) (by simp)⟩
theorem e_J {α : Type} {SC : MS} {I : Nat → Nat → Int32} {np nw ep ew la lb na nb ea eb nf ef : Nat} {ps ws fs0 fs1 ff : Nat → Nat} {c r : Option (α × MS)} (hC : CS SC) (hk : KSh SC I) (hf : i_fr SC I la lb na nb ea eb fs0 fs1) (he : i_ke SC I) (ho : i_fo SC I nf ef ff) (hd : DJ ep ew ea eb ef) (h : OkJ SC I np nw ep ew ps ws c r [8, 9, 10, 11] [2] [14, 15, 16, 17, 18] [18, 19, 23, 41]) : ∃ (x : α) (SC' : MS) (SR' : MS), c = some (x, SC') ∧ r = some (x, SR') ∧ Inv SC' SR' := by
  obtain ⟨x, S', I', J', a, b, hc', f1, f2⟩ := h
  exact ⟨x, S', _, a, b, kept hC hk hf he ho hd hc' f1 f2 (by simp) (by simp) (by simp) (by simp)⟩
theorem e_T {SC : MS} {I : Nat → Nat → Int32} {J : Nat → Nat → Int64} {np nw ep ew la lb na nb ea eb nf ef : Nat} {ps ws fs0 fs1 ff : Nat → Nat} {c r : Option (Int32 × MS)} (hc : Cor SC I np nw ep ew ps ws) (hk : KSh SC I) (hf : i_fr SC I la lb na nb ea eb fs0 fs1) (he : i_ke SC I) (ho : i_fo SC I nf ef ff) (hd : DJ ep ew ea eb ef) (h : OkT SC I J c r) : ∃ (x : Int32) (SC' : MS) (SR' : MS), c = some (x, SC') ∧ r = some (x, SR') ∧ Inv SC' SR' := by
  obtain ⟨x, S', I', a, b, hev, f1, f2⟩ := h
  have hC := hc.1.1
  have h50 := hC.1
  have fx : Fx SC S' [] [] := fx0 (by simp)
  exact ⟨x, S', _, a, b, I', J, np, nw, ep, ew, ps, ws, la, lb, na, nb, ea, eb, fs0, fs1, nf, ef, ff, rfl, hc.fr (hC.fr f1 (by simp) (by simp)) f1 fx (by simp) (by simp) (by simp) (by simp) (.inr (by simp)) (.inr (by simp)) f2 (by simp) (by simp), ⟨hev, hk.2.fr hC f1 f2 (by simp) (by simp)⟩, hf.fr (Nat.le_trans (by decide) h50) f1 fx (by simp) (by simp) (by simp) (.inr (by simp)) (.inr (by simp)) f2 (by simp), he.fr hC f1 f2 (by simp) (by simp), ho.fr f1 fx (by simp) (.inr (by simp)) f2 (by simp) (by simp), hd⟩
/-- a call of the sheets -/
theorem e_S {α : Type} {SC : MS} {I : Nat → Nat → Int32} {J : Nat → Nat → Int64} {np nw ep ew la lb na nb ea eb nf ef : Nat} {ps ws fs0 fs1 ff : Nat → Nat} {c r : Option (α × MS)} {PI Q P QR : List Nat} (hc : Cor SC I np nw ep ew ps ws) (hf : i_fr SC I la lb na nb ea eb fs0 fs1) (he : i_ke SC I) (ho : i_fo SC I nf ef ff) (hd : DJ ep ew ea eb ef) (h : Ok SC I J c r KSh PI Q [] P QR) (h1 : ∀ a ∈ PI, 42 < a ∧ a ≤ 50) (h2 : ∀ k ∈ Q, k = 12) (h3 : ∀ a ∈ P, 39 < a) (h4 : ∀ k ∈ QR, k = 0) : ∃ (x : α) (SC' : MS) (SR' : MS), c = some (x, SC') ∧ r = some (x, SR') ∧ Inv SC' SR' := by
  obtain ⟨x, S', I', a, b, hC', hk', f1, f2⟩ := h
  have hC := hc.1.1
  have h50 := hC.1
  have fx : Fx SC S' PI [] := fx0 (fun a ha => (h1 a ha).2)
  have nP : ∀ a, a ≤ 39 → a ∉ P := fun a ha q => by have := h3 a q; omega
  have nI : ∀ a, a ≤ 42 → a ∉ PI := fun a ha q => by have := h1 a q; omega
  exact ⟨x, S', _, a, b, I', J, np, nw, ep, ew, ps, ws, la, lb, na, nb, ea, eb, fs0, fs1, nf, ef, ff, rfl, hc.fr hC' f1 fx (fun a ha => by have := h1 a ha; omega) (fun q => by have := h2 2 q; omega) (by simp) (by simp) (.inr (by simp)) (.inr (by simp)) f2 (fun r hr => by have := h3 r hr; omega) (fun k hk => by have := h4 k hk; omega), hk', hf.fr (Nat.le_trans (by decide) h50) f1 fx (by simp) ⟨nI 14 (by decide), nI 15 (by decide)⟩ (by simp) (.inr (by simp)) (.inr (by simp)) f2 (fun r hr => by have := h3 r hr; omega), he.fr hC f1 f2 (fun a ha => by have := h1 a ha; omega) ⟨nP 31 (by decide), nP 32 (by decide)⟩, ho.fr f1 fx ⟨nI 41 (by decide), by simp⟩ (.inr (by simp)) f2 (fun r hr => by have := h3 r hr; omega) (fun q => by have := h4 44 q; omega), hd⟩
theorem e_M {SC : MS} {I : Nat → Nat → Int32} {J : Nat → Nat → Int64} {np nw ep ew la lb na nb ea eb nf ef : Nat} {ps ws fs0 fs1 ff : Nat → Nat} {c r : Option (Int32 × MS)} (hc : Cor SC I np nw ep ew ps ws) (hk : KSh SC I) (hf : i_fr SC I la lb na nb ea eb fs0 fs1) (he : i_ke SC I) (ho : i_fo SC I nf ef ff) (hd : DJ ep ew ea eb ef) (h : OkM SC I J c r) : ∃ (x : Int32) (SC' : MS) (SR' : MS), c = some (x, SC') ∧ r = some (x, SR') ∧ Inv SC' SR' := by
  obtain ⟨x, S', I', a, b, hC', f1, f2⟩ := h
  have hC := hc.1.1
  have hm : ∀ a ∈ mPI, 21 < a ∧ a < 36 := by decide
  have fx : Fx SC S' mPI [] := fx0 (fun a ha => by have := hm a ha; omega)
  exact ⟨x, S', _, a, b, kept hC hk hf he ho hd (hc.fr hC' f1 fx (fun a ha => by have := hm a ha; omega) (by simp) (by simp) (by simp) (.inr (by simp)) (.inr (by simp)) f2 (by simp) (by simp)) f1 f2 (fun a ha => by have := hm a ha; omega) (by simp) (by simp) (by simp)⟩
end IX
