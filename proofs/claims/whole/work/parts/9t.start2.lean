/-! the start, and all -/
section IU
theorem R_init1 {I : Nat → Nat → Int32} {J : Nat → Nat → Int64} : lim sX10_init (1, 0, mkR I J) = some (mkR (va_up I 40 (fil (I 40) 0 4 (fun _ => -1))) J) := by
  have h0 : (1, (0 : Int32), mkR I J) = ((1 : Nat), nI 0, mkR (va_up I 40 (fil (I 40) 0 0 (fun _ => -1))) J) := by
    rw [fil_0, up_id]
    rfl
  rw [h0]
  refine lim_it2 (step := sX10_init) (st := fun j => (1, nI j, mkR (va_up I 40 (fil (I 40) 0 j (fun _ => -1))) J)) 4 (fun j hj => ?_) ?_
  · show bX10_init_356 (mkR (va_up I 40 (fil (I 40) 0 j (fun _ => -1))) J) 1 (nI j) = _
    unfold bX10_init_356
    have hs := fil_s (f := I 40) (g := fun _ => -1) (lo := 0) (n := j)
    rw [Nat.zero_add] at hs
    rw [if_neg (show ¬ (4 : Int32) ≤ nI j from nI_ge (b := 4) hj (by omega)), rP53, Option.bind_some, rS40 rfl hj, Option.bind_some, nI_1, Option.bind_some, up_s, up_up, hs]
  · show bX10_init_356 (mkR (va_up I 40 (fil (I 40) 0 4 (fun _ => -1))) J) 1 (nI 4) = _
    unfold bX10_init_356
    rw [if_pos (by decide)]
theorem C_CS : CS (run bC cl_98) := by
  refine ⟨by decide +kernel, fun a h0 h1 => ?_, by decide +kernel, .inl (by decide +kernel)⟩
  exact (by decide +kernel : ∀ a, a < 51 → 0 < a → m_K (run bC cl_98) a = kC a ∧ m_L (run bC cl_98) a = lC a) a (by omega) h0
theorem L_zero {S : MS} {l kd : Nat} {xs : Nat → Nat} (h : m_at S l 0 ∧ m_I S l 2 = 0 ∧ m_P S l 1 = some 0) : Lst S l 0 kd 0 xs := ⟨⟨h.1, h.2.1, h.2.2⟩, .inl ⟨rfl, rfl⟩, fun i hi => by omega⟩
theorem inv_start : ∃ SC SR, fX9_init (m_new m_0 10 0) 1 = some SC ∧ fX10_init (m_new m_0 11 0) 1 = some SR ∧ Inv SC SR ∧ m_n SC = 50 ∧ m_closed SC := by
  obtain ⟨I0, hI0⟩ : ∃ I0, I0 = (run bR rl_86).2.2.2.1 := ⟨_, rfl⟩
  obtain ⟨J0, hJ0⟩ : ∃ J0, J0 = (run bR rl_86).2.2.2.2.1 := ⟨_, rfl⟩
  have hsh := R_shape
  rw [← hI0, ← hJ0] at hsh
  obtain ⟨I, hI⟩ : ∃ I, I = va_up I0 40 (fil (I0 40) 0 4 (fun _ => -1)) := ⟨_, rfl⟩
  have hne : ∀ r, r ≠ 40 → I r = I0 r := fun r hr => by rw [hI, up_n hr]
  have h40 : ∀ k, k < 4 → I 40 k = -1 := fun k hk => by
    rw [hI, up_s]
    have := fil_i (f := I0 40) (g := fun _ => (-1 : Int32)) (lo := 0) (n := 4) (i := k) hk
    rw [Nat.zero_add] at this
    exact this
  have r1 : ∀ k, k < 58 → I 1 k = if k = 16 then 99 else if k = 17 then 60 else 0 := fun k hk => by
    rw [hne 1 (by decide), hI0]
    exact (by decide +kernel : ∀ k, k < 58 → (run bR rl_86).2.2.2.1 1 k = if k = 16 then 99 else if k = 17 then 60 else 0) k hk
  have r21 : I 21 0 = 0 ∧ I 21 1 = 0 := by
    rw [hne 21 (by decide), hI0]
    exact (by decide +kernel : (run bR rl_86).2.2.2.1 21 0 = 0 ∧ (run bR rl_86).2.2.2.1 21 1 = 0)
  have r31 : ∀ k, k < 4 → I 31 k = 0 := fun k hk => by
    rw [hne 31 (by decide), hI0]
    exact (by decide +kernel : ∀ k, k < 4 → (run bR rl_86).2.2.2.1 31 k = 0) k hk
  have eR : fX10_init (m_new m_0 11 0) 1 = some (mkR I J0) := by
    show fX10_init (run bR rl_0) 1 = _
    unfold fX10_init
    rw [R_init0, fin_l, hsh, R_init1, ← hI]
  have hC := C_CS
  have c1 : m_I (run bC cl_98) 1 2 = 1 ∧ m_I (run bC cl_98) 1 11 = 0 ∧ m_I (run bC cl_98) 1 12 = 0 := by decide +kernel
  have c2 : m_I (run bC cl_98) 2 2 = 0 ∧ m_I (run bC cl_98) 2 3 = 99 ∧ m_I (run bC cl_98) 2 7 = 0 ∧ m_I (run bC cl_98) 2 8 = 0 := by decide +kernel
  have c8 : m_I (run bC cl_98) 8 0 = 60 := by decide +kernel
  have cs : ∀ k, k < 4 → m_I (run bC cl_98) (43 + 2 * k) 0 = -1 := by decide +kernel
  have c40 : ∀ k, k < 4 → m_I (run bC cl_98) 40 k = 0 := by decide +kernel
  have q3 : m_P (run bC cl_98) 1 3 = some 14 ∧ m_P (run bC cl_98) 1 4 = some 15 := by decide +kernel
  have l3 : m_I (run bC cl_98) 3 2 = 0 ∧ m_P (run bC cl_98) 3 1 = some 0 := by decide +kernel
  have l4 : m_I (run bC cl_98) 4 2 = 0 ∧ m_P (run bC cl_98) 4 1 = some 0 := by decide +kernel
  have l14 : m_I (run bC cl_98) 14 2 = 0 ∧ m_P (run bC cl_98) 14 1 = some 0 := by decide +kernel
  have l15 : m_I (run bC cl_98) 15 2 = 0 ∧ m_P (run bC cl_98) 15 1 = some 0 := by decide +kernel
  have l41 : m_I (run bC cl_98) 41 2 = 0 ∧ m_P (run bC cl_98) 41 1 = some 0 := by decide +kernel
  have hn : m_n (run bC cl_98) = 50 := by decide +kernel
  have hcl : m_closed (run bC cl_98) := run_closed (fun a j q hq => by
    have hq' : (va_up (fun _ _ => none) 1 (fun _ => none) a : Nat → Option Nat) j = some q := hq
    by_cases e : a = 1
    · rw [e, up_s] at hq'; cases hq'
    · rw [up_n e] at hq'; cases hq') cl_98 (by decide +kernel)
  generalize hS : run bC cl_98 = S at *
  have eC : fX9_init (m_new m_0 10 0) 1 = some S := by rw [← hS]; exact C_init
  refine ⟨S, mkR I J0, eC, eR, ⟨I, J0, 0, 0, 0, 0, fun _ => 0, fun _ => 0, 14, 15, 0, 0, 0, 0, fun _ => 0, fun _ => 0, 0, 0, fun _ => 0, rfl, ⟨⟨hC, ⟨by omega, r1 1 (by decide), L_zero ⟨hC.at 3 (by decide) (by decide), l3⟩, fun p hp => by omega⟩, ⟨by omega, r1 8 (by decide), L_zero ⟨hC.at 4 (by decide) (by decide), l4⟩, fun p hp => by omega⟩, ⟨⟨?_, ?_⟩, ⟨c2.2.2.1, c2.2.2.2⟩, fun p hp => by omega⟩⟩, ⟨.inl c1.1, ?_⟩, .inl (r1 18 (by decide))⟩, ⟨⟨?_, ?_⟩, fun k hk => .inl ⟨cs k hk, h40 k hk⟩⟩, ⟨q3, .inl ⟨rfl, rfl⟩, ⟨by omega, r21.1, L_zero ⟨hC.at 14 (by decide) (by decide), l14⟩, fun f hf => by omega⟩, ⟨by omega, r21.2, L_zero ⟨hC.at 15 (by decide) (by decide), l15⟩, fun f hf => by omega⟩⟩, fun k hk => ⟨by rw [c40 k hk, r31 k hk], .inl (r31 k hk)⟩, ⟨by omega, r1 44 (by decide), L_zero ⟨hC.at 41 (by decide) (by decide), l41⟩, fun f hf => by omega⟩, ⟨⟨.inr rfl, .inr rfl, .inr rfl, .inr rfl⟩, ⟨.inr rfl, .inr rfl, .inr rfl⟩, ⟨.inr rfl, .inr rfl⟩, .inr rfl⟩⟩, hn, hcl⟩
  · rw [c2.1]; exact (r1 15 (by decide)).symm
  · rw [c2.2.1]; exact (r1 16 (by decide)).symm
  · rw [c8]; exact (r1 17 (by decide)).symm
  · rw [c1.2.2]; exact (r1 0 (by decide)).symm
  · rw [c1.2.1]; exact (r1 57 (by decide)).symm
end IU
