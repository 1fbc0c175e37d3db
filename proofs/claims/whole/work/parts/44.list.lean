/-! lists -/
def lens (n : Nat) : Prop := n = 10 ∨ n = 15 ∨ n = 22 ∨ n = 33
/-- l is a list of n cells xs of kind kd, kept in the array e -/
def Lst (S : MS) (l n kd e : Nat) (xs : Nat → Nat) : Prop := (m_at S l 0 ∧ m_I S l 2 = nI n ∧ m_P S l 1 = some e) ∧ ((e = 0 ∧ n = 0) ∨ (m_at S e 15 ∧ n ≤ m_L S e ∧ lens (m_L S e))) ∧ ∀ i, i < n → m_P S e i = some (xs i) ∧ m_at S (xs i) kd
theorem lens_b {n : Nat} (h : lens n) : 10 ≤ n ∧ n ≤ 33 := by unfold lens at h; omega
section LL
variable {S : MS} {l n kd e : Nat} {xs : Nat → Nat}
theorem Lst.n33 (h : Lst S l n kd e xs) : n ≤ 33 := by
  rcases h.2.1 with ⟨-, h1⟩ | ⟨-, h1, h2⟩
  · omega
  · have := lens_b h2; omega
theorem Lst.fr {S' : MS} {PI Q PL : List Nat} (h : Lst S l n kd e xs) (hf : FrC S S' PI Q PL) (h1 : l ≠ 1) (h2 : l ∉ PI) (h3 : l ∉ PL) (h4 : e = 0 ∨ e ∉ PL) : Lst S' l n kd e xs := by
  obtain ⟨⟨a1, a2, a3⟩, a4, a5⟩ := h
  obtain ⟨-, -, c3, c4⟩ := hf.2.1 l a1.1 a1.2.1
  refine ⟨⟨a1.fr hf, by rw [c3 h1 h2]; exact a2, by rw [c4 h3]; exact a3⟩, ?_, fun i hi => ⟨?_, (a5 i hi).2.fr hf⟩⟩
  · rcases a4 with a4 | ⟨b1, b2, b3⟩
    · exact .inl a4
    · refine .inr ⟨b1.fr hf, ?_⟩
      rw [(hf.2.1 e b1.1 b1.2.1).2.1]
      exact ⟨b2, b3⟩
  · rcases a4 with ⟨-, b2⟩ | ⟨b1, b2, b3⟩
    · omega
    · have he : e ∉ PL := h4.resolve_left (by have := b1.1; omega)
      rw [(hf.2.1 e b1.1 b1.2.1).2.2.2 he]
      exact (a5 i hi).1
theorem L_size (h : Lst S l n kd e xs) : fJx4a65c_size_8abf5 S l = some (nI n) := by
  unfold fJx4a65c_size_8abf5 bJx4a65c_size_8abf5_0
  rw [at_gI h.1.1, h.1.2.1]
  rfl
theorem L_get (h : Lst S l n kd e xs) {i : Nat} (hi : i < n) : fJx4a65c_get_915e3 S l (nI i) = some (xs i) := by
  have h33 := h.n33
  rcases h.2.1 with ⟨-, h1⟩ | ⟨h0, h1, h2⟩
  · omega
  have hb := lens_b h2
  unfold fJx4a65c_get_915e3 bJx4a65c_get_915e3_0 fJx4a65c_elementData_915e3 bJx4a65c_elementData_915e3_0 fJ15_checkIndex_7cf53 bJ15_checkIndex_7cf53_0 fJ3_checkIndex_8e157 bJ3_checkIndex_8e157_0 bJ3_checkIndex_8e157_9
  simp only [at_gI h.1.1, h.1.2.1, Option.bind_some, if_neg (nI_pos (show i < 2 ^ 31 by omega)), if_pos (nI_lt hi (show n < 2 ^ 31 by omega)), at_is h.1.1, at_gP h.1.1 h.1.2.2, at_ldP (i := nI i) h0 rfl (by omega) rfl (by omega) (h.2.2 i hi).1]
theorem FrC.big {S' : MS} {PI Q PL : List Nat} {b : Nat} (h : FrC S S' PI Q (b :: PL)) (hb : m_n S < b) : FrC S S' PI Q PL :=
  ⟨h.1, fun a h0 hn => ⟨(h.2.1 a h0 hn).1, (h.2.1 a h0 hn).2.1, (h.2.1 a h0 hn).2.2.1, fun hp => (h.2.1 a h0 hn).2.2.2 (fun q => by
    rcases List.mem_cons.mp q with q | q
    · omega
    · exact hp q)⟩, h.2.2⟩
theorem FrC.bigI {S' : MS} {PI Q PL : List Nat} {b : Nat} (h : FrC S S' (b :: PI) Q PL) (hb : m_n S < b) : FrC S S' PI Q PL :=
  ⟨h.1, fun a h0 hn => ⟨(h.2.1 a h0 hn).1, (h.2.1 a h0 hn).2.1, fun h1 hp => (h.2.1 a h0 hn).2.2.1 h1 (fun q => by
    rcases List.mem_cons.mp q with q | q
    · omega
    · exact hp q), (h.2.1 a h0 hn).2.2.2⟩, h.2.2⟩
/-- the last step of add: store, and count -/
theorem L_add_11 {v : Nat} (h1 : m_at S l 0) (hl1 : l ≠ 1) (h2 : m_I S l 2 = nI n) (h3 : m_P S l 1 = some e) (h4 : m_at S e 15) (h5 : n < m_L S e) (h6 : lens (m_L S e)) (h7 : ∀ i, i < n → m_P S e i = some (xs i) ∧ m_at S (xs i) kd) (hk : o_okk kd) (hv : m_at S v kd) :
    ∃ S', bJx4a65c_add_72be8_11 S l v e (nI n) = some S' ∧ Lst S' l (n + 1) kd e (va_up xs n v) ∧ FrC S S' [l] [] [e] := by
  have hb := lens_b h6
  unfold bJx4a65c_add_72be8_11
  have g1 : o_stO S e (nI n) v = some (m_sP S e (va_up (m_P S e) n (some v))) := by
    have hc : (nI n).toNatClampNeg = n := nI_clamp (by omega)
    unfold o_stO
    rw [hc, if_pos ⟨⟨h4, hv.1, hv.2.1, by rw [hv.2.2]; exact hk⟩, fun q => q.elim (nI_pos (by omega)) (fun q => by omega)⟩]
  rw [g1, Option.bind_some, at_sI (S := m_sP S e (va_up (m_P S e) n (some v))) h1]
  have hel : e ≠ l := fun q => by
    have a := h4.2.2
    rw [q, h1.2.2] at a
    omega
  refine ⟨_, rfl, ⟨⟨h1, ?_, ?_⟩, .inr ⟨h4, h5, h6⟩, ?_⟩, ?_⟩
  · rw [mI_same, upd_s, nI_1]
  · show va_up (m_P S) e _ l 1 = _
    rw [up_n (Ne.symm hel)]
    exact h3
  · intro i hi
    have : m_P (m_sI (m_sP S e (va_up (m_P S e) n (some v))) l (upd (m_I (m_sP S e (va_up (m_P S e) n (some v))) l) 2 (nI n + 1))) e = va_up (m_P S e) n (some v) := up_s
    rw [this]
    by_cases hin : i = n
    · subst hin
      rw [up_s, up_s]
      exact ⟨rfl, hv⟩
    · rw [up_n hin, up_n hin]
      exact h7 i (by omega)
  · exact (FrC.sP (by simp)).tr (FrC.sI hl1 (by simp))
theorem cpyQ_eq {S : MS} {a b n kd : Nat} {ys : Nat → Nat} (ha : m_at S a 15) (hb : m_at S b 15) (h1 : n ≤ m_L S a) (h2 : n ≤ m_L S b) (hn : n < 2 ^ 31) (hk : o_okk kd) (h : ∀ i, i < n → m_P S a i = some (ys i) ∧ m_at S (ys i) kd) : o_cpyQ S a 0 b 0 (nI n) = some (m_sP S b (va_cpy (m_P S a) (m_P S b) 0 0 n)) := by
  have h00 : (0 : Int32).toNatClampNeg = 0 := rfl
  unfold o_cpyQ
  rw [nI_clamp hn, h00, if_pos]
  refine ⟨⟨ha, hb⟩, ⟨by decide, by decide, nI_pos hn⟩, ⟨by omega, by omega⟩, kd, hk, fun i hi y hy => ?_⟩
  rw [Nat.zero_add, (h i hi).1] at hy
  cases hy
  exact (h i hi).2
theorem min_self (x : Int32) : fJ9_min_7cf53 x x = some x := by
  rw [C_min]
  unfold mn
  rw [if_neg]
  rw [i_lt]
  omega
/-- a copy of a full array, longer -/
theorem C_copyOf {e n m : Nat} {xs : Nat → Nat} {kd : Nat} (h4 : m_at S e 15) (hn : n = m_L S e) (hm : n ≤ m) (hm2 : m ≤ 40) (hk : o_okk kd) (h7 : ∀ i, i < n → m_P S e i = some (xs i) ∧ m_at S (xs i) kd) :
    ∃ S', fJ7_copyOf_1904c S e (nI m) = some (m_n S + 1, S') ∧ m_n S' = m_n S + 1 ∧ m_at S' (m_n S + 1) 15 ∧ m_L S' (m_n S + 1) = m ∧ (∀ i, i < n → m_P S' (m_n S + 1) i = some (xs i)) ∧ FrC S S' [] [] [] := by
  have hx : ∀ (α : Type) (f : Nat → α) (v : α) (b : Nat), b ≤ m_n S → va_up f (S.1 + 1) v b = f b := fun α f v b hb => by
    unfold va_up
    rw [if_neg (by have : b ≤ S.1 := hb; omega)]
  have hle : o_le 40 (nI m) = some m := by
    unfold o_le
    rw [nI_clamp (by omega), if_pos ⟨nI_pos (by omega), hm2⟩]
  have f1 : FrC S (m_new S 15 m) [] [] [] := FrC.new (Nat.lt_of_lt_of_le h4.1 h4.2.1)
  have a1 : m_at (m_new S 15 m) e 15 := h4.fr f1
  have a2 : m_L (m_new S 15 m) e = m_L S e := (f1.2.1 e h4.1 h4.2.1).2.1
  have a3 : m_P (m_new S 15 m) e = m_P S e := (f1.2.1 e h4.1 h4.2.1).2.2.2 (by simp)
  have b1 : m_at (m_new S 15 m) (m_n S + 1) 15 := ⟨by omega, Nat.le_refl _, up_s⟩
  have b2 : m_L (m_new S 15 m) (m_n S + 1) = m := up_s
  unfold fJ7_copyOf_1904c fJ7_copyOf_6403c
  rw [at_is h4, Option.bind_some, hle]
  simp only [Option.bind_some]
  have hln : o_lnE (m_new S 15 m) e = some (nI n) := by
    unfold o_lnE
    rw [if_neg (by have := h4.1; omega), at_ln a1, a2, hn]
  rw [hln, Option.bind_some]
  have hmn : fJ9_min_7cf53 (nI n) (nI m) = some (nI n) := by
    by_cases hnm : n = m
    · rw [hnm, min_self]
    · rw [C_min]
      unfold mn
      rw [if_pos (nI_lt (by omega) (by omega))]
  rw [hmn, Option.bind_some, cpyQ_eq (ys := xs) (n := n) (kd := kd) a1 b1 (by omega) (by omega) (by omega) hk (fun i hi => by rw [a3]; exact ⟨(h7 i hi).1, (h7 i hi).2.fr f1⟩), Option.bind_some]
  refine ⟨_, rfl, rfl, b1, b2, fun i hi => ?_, ?_⟩
  · show va_up (m_P (m_new S 15 m)) (m_n S + 1) _ (m_n S + 1) i = _
    rw [up_s]
    unfold va_cpy
    rw [if_pos (by omega), a3, show 0 + (i - 0) = i by omega]
    exact (h7 i hi).1
  · exact FrC.big (b := m_n S + 1) ((f1.mono (by simp) (by simp) (by simp)).tr (FrC.sP (by simp))) (by omega)
theorem L_grow (h1 : m_at S l 0) (h2 : m_I S l 2 = nI n) (h3 : m_P S l 1 = some e) (h4 : (e = 0 ∧ n = 0) ∨ (m_at S e 15 ∧ n = m_L S e ∧ (n = 10 ∨ n = 15 ∨ n = 22))) (h7 : ∀ i, i < n → m_P S e i = some (xs i) ∧ m_at S (xs i) kd) (hk : o_okk kd) :
    ∃ S' e', fJx4a65c_grow_d5877 S l = some (e', S') ∧ m_n S < e' ∧ m_at S' e' 15 ∧ n < m_L S' e' ∧ lens (m_L S' e') ∧ m_P S' l 1 = some e' ∧ (∀ i, i < n → m_P S' e' i = some (xs i)) ∧ FrC S S' [] [] [l] := by
  unfold fJx4a65c_grow_d5877 bJx4a65c_grow_d5877_0 fJx4a65c_grow_92f84 bJx4a65c_grow_92f84_0
  rw [at_gI h1, Option.bind_some, at_is h1, Option.bind_some, h2, nI_1, at_gP h1 h3, Option.bind_some]
  rcases h4 with ⟨he, hn⟩ | ⟨h4, h5, h6⟩
  · subst he hn
    have q0 : o_lnE S 0 = some 0 := rfl
    rw [q0, Option.bind_some, if_neg (by decide), Option.bind_some, if_pos rfl]
    have hmax : fJ9_max_7cf53 10 (nI (0 + 1)) = some 10 := by rw [C_max]; rfl
    have hle : o_le 40 10 = some 10 := by decide
    rw [hmax, Option.bind_some, hle]
    simp only [Option.bind_some]
    have f1 : FrC S (m_new S 15 10) [] [] [] := FrC.new (Nat.lt_of_lt_of_le h1.1 h1.2.1)
    rw [at_sP (h1.fr f1)]
    refine ⟨_, _, rfl, by omega, ⟨by omega, Nat.le_refl _, up_s⟩, ?_, ?_, ?_, fun i hi => by omega, ?_⟩
    · show 0 < va_up S.2.2.1 (S.1 + 1) 10 (S.1 + 1)
      rw [up_s]
      decide
    · show lens (va_up S.2.2.1 (S.1 + 1) 10 (S.1 + 1))
      rw [up_s]
      exact .inl rfl
    · show va_up (m_P (m_new S 15 10)) l _ l 1 = _
      rw [up_s, up_s]
    · exact (f1.mono (by simp) (by simp) (by simp)).tr (FrC.sP (by simp))
  · have hq : o_lnE S e = some (nI n) := by
      unfold o_lnE
      rw [if_neg (by have := h4.1; omega), at_ln h4, h5]
    rw [hq, Option.bind_some, if_pos (by rcases h6 with h6 | h6 | h6 <;> subst h6 <;> decide)]
    unfold bJx4a65c_grow_92f84_20
    have hnl : ∃ m, n < m ∧ m ≤ 33 ∧ lens m ∧ fJ8_newLength_cabcc (nI n) (nI (n + 1) - nI n) (nI n >>> ((1 : Int32) &&& 31)) = some (nI m) := by
      rcases h6 with h6 | h6 | h6
      · refine ⟨15, by omega, by omega, .inr (.inl rfl), ?_⟩
        rw [h6]
        unfold fJ8_newLength_cabcc bJ8_newLength_cabcc_0
        rw [C_max, Option.bind_some, Option.bind_some, if_neg (by decide), if_neg (by decide)]
        decide
      · refine ⟨22, by omega, by omega, .inr (.inr (.inl rfl)), ?_⟩
        rw [h6]
        unfold fJ8_newLength_cabcc bJ8_newLength_cabcc_0
        rw [C_max, Option.bind_some, Option.bind_some, if_neg (by decide), if_neg (by decide)]
        decide
      · refine ⟨33, by omega, by omega, .inr (.inr (.inr rfl)), ?_⟩
        rw [h6]
        unfold fJ8_newLength_cabcc bJ8_newLength_cabcc_0
        rw [C_max, Option.bind_some, Option.bind_some, if_neg (by decide), if_neg (by decide)]
        decide
    obtain ⟨m, m1, m2, m3, m4⟩ := hnl
    obtain ⟨S', c1, c2, c3, c4, c5, c6⟩ := C_copyOf (xs := xs) (kd := kd) (m := m) h4 h5 (by omega) (by omega) hk h7
    rw [m4, Option.bind_some, at_gP h1 h3, Option.bind_some, c1, b2_s, at_sP (h1.fr c6), Option.bind_some, b2_s]
    have hl := h1.2.1
    refine ⟨_, _, rfl, by omega, c3, ?_, ?_, ?_, fun i hi => ?_, ?_⟩
    · show n < m_L S' (m_n S + 1)
      omega
    · show lens (m_L S' (m_n S + 1))
      rw [c4]
      exact m3
    · show va_up (m_P S') l _ l 1 = _
      rw [up_s, up_s]
    · show va_up (m_P S') l _ (m_n S + 1) i = _
      rw [up_n (by omega)]
      exact c5 i hi
    · exact (c6.mono (by simp) (by simp) (by simp)).tr (FrC.sP (by simp))
theorem L_add {v : Nat} (h : Lst S l n kd e xs) (hl1 : l ≠ 1) (hn : n < 33) (hk : o_okk kd) (hv : m_at S v kd) :
    ∃ S' e', fJx4a65c_add_9ea2d S l v = some (1, S') ∧ Lst S' l (n + 1) kd e' (va_up xs n v) ∧ FrC S S' [l] [] [l, e] ∧ (e' = e ∨ m_n S < e') := by
  obtain ⟨⟨a1, a2, a3⟩, a4, a5⟩ := h
  unfold fJx4a65c_add_9ea2d bJx4a65c_add_9ea2d_0 fJx4a65c_add_72be8 bJx4a65c_add_72be8_0
  rw [at_gI a1, Option.bind_some, at_sI a1, Option.bind_some]
  generalize hS7 : m_sI S l (upd (m_I S l) 0 (m_I S l 0 + 1)) = S7
  have f7 : FrC S S7 [l] [] [] := by rw [← hS7]; exact FrC.sI hl1 (by simp)
  have b1 : m_at S7 l 0 := a1.fr f7
  have b2 : m_I S7 l 2 = nI n := by rw [← hS7, mI_same, upd_n (by decide)]; exact a2
  have b3 : m_P S7 l 1 = some e := by rw [← hS7]; exact a3
  have b5 : ∀ i, i < n → m_P S7 e i = some (xs i) ∧ m_at S7 (xs i) kd := fun i hi => ⟨by rw [← hS7]; exact (a5 i hi).1, (a5 i hi).2.fr f7⟩
  have hn7 : m_n S7 = m_n S := by rw [← hS7]; rfl
  rw [at_gP b1 b3, Option.bind_some, at_gI b1, b2, Option.bind_some, at_is b1, Option.bind_some]
  by_cases hg : (e = 0 ∧ n = 0) ∨ (m_at S7 e 15 ∧ n = m_L S7 e ∧ (n = 10 ∨ n = 15 ∨ n = 22))
  · have hq : o_lnE S7 e = some (nI n) := by
      rcases hg with ⟨g1, g2⟩ | ⟨g1, g2, -⟩
      · rw [g1, g2]; rfl
      · unfold o_lnE
        rw [if_neg (by have := g1.1; omega), at_ln g1, g2]
    obtain ⟨S8, e', c1, c2, c3, c4, c5, c6, c7, c8⟩ := L_grow b1 b2 b3 hg b5 hk
    have hl := b1.2.1
    have d2 : m_I S8 l 2 = nI n := by rw [(c8.2.1 l b1.1 b1.2.1).2.2.1 hl1 (by simp)]; exact b2
    obtain ⟨S9, g1, g2, g3⟩ := L_add_11 (S := S8) (v := v) (b1.fr c8) hl1 d2 c6 c3 c4 c5 (fun i hi => ⟨c7 i hi, (b5 i hi).2.fr c8⟩) hk ((hv.fr f7).fr c8)
    rw [hq, Option.bind_some, if_pos rfl, Option.bind_some, c1, b2_s, g1, Option.bind_some]
    refine ⟨S9, e', rfl, g2, ?_, .inr (by omega)⟩
    refine FrC.big (b := e') ?_ (by omega)
    exact ((f7.mono (by simp) (by simp) (by simp)).tr (c8.mono (by simp) (by simp) (by simp))).tr (g3.mono (by simp) (by simp) (by simp))
  · rcases a4 with a4 | ⟨a41, a42, a43⟩
    · exact absurd (.inl a4) hg
    · have c1 : m_at S7 e 15 := a41.fr f7
      have c2 : m_L S7 e = m_L S e := (f7.2.1 e a41.1 a41.2.1).2.1
      have hlb := lens_b a43
      have c3 : n < m_L S7 e := by
        refine Nat.lt_of_le_of_ne (by omega) (fun q => hg (.inr ⟨c1, q, ?_⟩))
        unfold lens at a43
        omega
      have hq : o_lnE S7 e = some (nI (m_L S7 e)) := by
        unfold o_lnE
        rw [if_neg (by have := a41.1; omega), at_ln c1]
      obtain ⟨S9, g1, g2, g3⟩ := L_add_11 (S := S7) (v := v) b1 hl1 b2 b3 c1 c3 (by rw [c2]; exact a43) b5 hk (hv.fr f7)
      rw [hq, Option.bind_some, if_neg (by rw [nI_eq (by omega) (by omega)]; omega), g1, Option.bind_some]
      exact ⟨S9, e, rfl, g2, (f7.mono (by simp) (by simp) (by simp)).tr (g3.mono (by simp) (by simp) (by simp)), .inl rfl⟩
end LL
