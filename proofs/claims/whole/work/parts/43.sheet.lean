/-! sheets, fault, trace: tools, and the calls that need nothing else -/
theorem b2_s {α β γ : Type} {a : α} {b : β} {f : α → β → Option γ} : b2 (some (a, b)) f = f a b := rfl
theorem e10 : ((1 : Int32) = 0) = False := by decide
theorem e00 : ((0 : Int32) = 0) = True := by decide
theorem up_up {α : Type} {f : Nat → α} {a : Nat} {u v : α} : va_up (va_up f a u) a v = va_up f a v := by
  funext b
  unfold va_up
  by_cases h : b = a
  · rw [if_pos h, if_pos h]
  · rw [if_neg h, if_neg h, if_neg h]
theorem up_id {α : Type} {f : Nat → α} {a : Nat} : va_up f a (f a) = f := by
  funext b
  unfold va_up
  by_cases h : b = a
  · rw [if_pos h, h]
  · rw [if_neg h]
theorem sI_sI {S : MS} {a : Nat} {f g : Nat → Int32} : m_sI (m_sI S a f) a g = m_sI S a g := by
  show (S.1, S.2.1, S.2.2.1, va_up (va_up S.2.2.2.1 a f) a g, S.2.2.2.2) = _
  rw [up_up]
  rfl
theorem sI_id {S : MS} {a : Nat} : m_sI S a (m_I S a) = S := by
  show (S.1, S.2.1, S.2.2.1, va_up S.2.2.2.1 a (S.2.2.2.1 a), S.2.2.2.2) = _
  rw [up_id]
theorem i_nI {x : Int32} {n : Nat} (h1 : 0 ≤ x.toInt) (h2 : x.toInt < n) : ∃ j, j < n ∧ x = nI j := by
  refine ⟨x.toInt.toNat, by omega, ?_⟩
  rw [i_eq, nI_toInt (by have := i_hi x; omega)]
  omega
/-- a row's cells from lo on, n of them, are those of g -/
def fil (f : Nat → Int32) (lo n : Nat) (g : Nat → Int32) : Nat → Int32 := fun i => if lo ≤ i ∧ i < lo + n then g (i - lo) else f i
theorem fil_0 {f g : Nat → Int32} {lo : Nat} : fil f lo 0 g = f := by
  funext i
  exact if_neg (by omega)
theorem fil_s {f g : Nat → Int32} {lo n : Nat} : upd (fil f lo n g) (lo + n) (g n) = fil f lo (n + 1) g := by
  funext i
  by_cases h : i = lo + n
  · subst h
    rw [upd_s]
    unfold fil
    rw [if_pos (by omega), show lo + n - lo = n by omega]
  · rw [upd_n h]
    unfold fil
    by_cases h2 : lo ≤ i ∧ i < lo + n
    · rw [if_pos h2, if_pos (by omega)]
    · rw [if_neg h2, if_neg (by omega)]
theorem fil_i {f g : Nat → Int32} {lo n i : Nat} (h : i < n) : fil f lo n g (lo + i) = g i := by
  unfold fil
  rw [if_pos (by omega), show lo + i - lo = i by omega]
theorem fil_o {f g : Nat → Int32} {lo n i : Nat} (h : i < lo ∨ lo + n ≤ i) : fil f lo n g i = f i := if_neg (by omega)
/-- Arrays.fill -/
theorem C_fill {S : MS} {a n : Nat} {v : Int32} (h : m_at S a 12) (hl : m_L S a = n) (hn : n < 2 ^ 31) : fJ7_fill_53178 S a v = some (m_sI S a (fil (m_I S a) 0 n (fun _ => v))) := by
  have hh : ∀ (d j : Nat), j + d = n → hJ7_fill_53178_5 (m_sI S a (fil (m_I S a) 0 j (fun _ => v))) a v (nI j) (nI n) = some (m_sI S a (fil (m_I S a) 0 n (fun _ => v))) := by
    intro d
    induction d with
    | zero =>
      intro j hj
      have : j = n := by omega
      subst this
      rw [qJ7_fill_53178_5]
      unfold bJ7_fill_53178_5
      rw [if_pos (nI_le (Nat.le_refl _) hn), fin_r]
    | succ d ih =>
      intro j hj
      rw [qJ7_fill_53178_5]
      unfold bJ7_fill_53178_5
      rw [if_neg (nI_ge (by omega) hn), at_st (S := m_sI S a (fil (m_I S a) 0 j (fun _ => v))) (k := 12) (n := n) (j := j) h hl hn rfl (by omega)]
      simp only [Option.bind_some]
      rw [nI_1, fin_l, sI_sI, mI_same]
      have h2 := fil_s (f := m_I S a) (lo := 0) (n := j) (g := fun _ => v)
      rw [Nat.zero_add] at h2
      rw [h2]
      exact ih (j + 1) (by omega)
  unfold fJ7_fill_53178 bJ7_fill_53178_0
  rw [at_ln h, Option.bind_some, fin_l, hl]
  have := hh n 0 (by omega)
  rw [fil_0, sI_id] at this
  exact this
theorem C_below_t {x m : Int32} {n : Int} (hm : m.toInt = n) (h : 0 ≤ x.toInt ∧ x.toInt < n) : fX9_isBelow x m = some 1 := by rw [C_isBelow, hm, bz_t h]
theorem C_below_f {x m : Int32} {n : Int} (hm : m.toInt = n) (h : ¬ (0 ≤ x.toInt ∧ x.toInt < n)) : fX9_isBelow x m = some 0 := by rw [C_isBelow, hm, bz_f h]
theorem R_in_t {x : Int32} {a b : Int64} {a' b' : Int} (ha : a.toInt = a') (hb : b.toInt = b') (h : a' ≤ x.toInt ∧ x.toInt ≤ b') : fX10_in x.toInt64 a b = some 1 := by rw [R_inI x ha hb, bz_t h]
theorem R_in_f {x : Int32} {a b : Int64} {a' b' : Int} (ha : a.toInt = a') (hb : b.toInt = b') (h : ¬ (a' ≤ x.toInt ∧ x.toInt ≤ b')) : fX10_in x.toInt64 a b = some 0 := by rw [R_inI x ha hb, bz_f h]
/-! the number of a sheet -/
theorem R_noSheet_i {k : Nat} (hk : k < 4) : fX10_noSheet (nI k) = some 0 := by
  unfold fX10_noSheet bX10_noSheet_0 bX10_noSheet_17
  rw [R_inI (nI k) (a := 0) (b := 3) (a' := 0) (b' := 3) rfl rfl, nI_toInt (by omega), bz_t (by omega)]
  rfl
theorem C_isSheet_i {k : Nat} (hk : k < 4) : fX9_isSheet (nI k) = some 1 := by
  unfold fX9_isSheet bX9_isSheet_0
  rw [C_isBelow, nI_toInt (by omega), bz_t (by simp only [show (4 : Int32).toInt = 4 from rfl]; omega)]
  rfl
theorem R_noSheet_o {x : Int32} (h : ¬ ∃ k, k < 4 ∧ x = nI k) : fX10_noSheet x = some 1 := by
  unfold fX10_noSheet bX10_noSheet_0 bX10_noSheet_17
  rw [R_inI x (a := 0) (b := 3) (a' := 0) (b' := 3) rfl rfl, bz_f (fun q => h (i_nI q.1 (by omega)))]
  rfl
theorem C_isSheet_o {x : Int32} (h : ¬ ∃ k, k < 4 ∧ x = nI k) : fX9_isSheet x = some 0 := by
  unfold fX9_isSheet bX9_isSheet_0
  rw [C_isBelow, bz_f (fun q => h (i_nI q.1 (by have := q.2; rw [show (4 : Int32).toInt = 4 from rfl] at this; omega)))]
  rfl
/-! what both hold of sheets, of fault and trace -/
def i_ev (S : MS) (I : Nat → Nat → Int32) : Prop := m_I S 1 12 = I 1 0 ∧ m_I S 1 11 = I 1 57
def shAt (S : MS) (I : Nat → Nat → Int32) (k : Nat) : Prop := (m_I S (43 + 2 * k) 0 = -1 ∧ I 40 k = -1) ∨ ∃ ln sz, ln < 3 ∧ sz ≤ 60 ∧ m_I S (43 + 2 * k) 0 = nI ln ∧ I 41 k = nI ln ∧ m_I S (43 + 2 * k) 1 = nI sz ∧ I 40 k = nI sz ∧ ∀ j, j < sz → m_I S (44 + 2 * k) j = I 42 (60 * k + j)
def i_sh (S : MS) (I : Nat → Nat → Int32) : Prop := ∀ k, k < 4 → shAt S I k
theorem four {P : Nat → Prop} (h0 : P 0) (h1 : P 1) (h2 : P 2) (h3 : P 3) : ∀ k, k < 4 → P k := by
  intro k hk
  match k, hk with
  | 0, _ => exact h0
  | 1, _ => exact h1
  | 2, _ => exact h2
  | 3, _ => exact h3
section SH
variable {S : MS}
theorem cP42 (h : CS S) : ∀ k, k < 4 → o_ldP S 42 14 (nI k) = some (43 + 2 * k) :=
  four (at_ldP (n := 4) (h.at 42 (by decide) (by decide)) (h.2.1 42 (by decide) (by decide)).2 (by decide) rfl (by decide) (h.2.2.1 (42, 0, 43) (by decide)))
    (at_ldP (n := 4) (h.at 42 (by decide) (by decide)) (h.2.1 42 (by decide) (by decide)).2 (by decide) rfl (by decide) (h.2.2.1 (42, 1, 45) (by decide)))
    (at_ldP (n := 4) (h.at 42 (by decide) (by decide)) (h.2.1 42 (by decide) (by decide)).2 (by decide) rfl (by decide) (h.2.2.1 (42, 2, 47) (by decide)))
    (at_ldP (n := 4) (h.at 42 (by decide) (by decide)) (h.2.1 42 (by decide) (by decide)).2 (by decide) rfl (by decide) (h.2.2.1 (42, 3, 49) (by decide)))
theorem cAt43 (h : CS S) : ∀ k, k < 4 → m_at S (43 + 2 * k) 8 := four (h.at 43 (by decide) (by decide)) (h.at 45 (by decide) (by decide)) (h.at 47 (by decide) (by decide)) (h.at 49 (by decide) (by decide))
theorem cAt44 (h : CS S) : ∀ k, k < 4 → m_at S (44 + 2 * k) 12 := four (h.at 44 (by decide) (by decide)) (h.at 46 (by decide) (by decide)) (h.at 48 (by decide) (by decide)) (h.at 50 (by decide) (by decide))
theorem cLn44 (h : CS S) : ∀ k, k < 4 → m_L S (44 + 2 * k) = 60 := four (h.2.1 44 (by decide) (by decide)).2 (h.2.1 46 (by decide) (by decide)).2 (h.2.1 48 (by decide) (by decide)).2 (h.2.1 50 (by decide) (by decide)).2
theorem cPsh (h : CS S) : ∀ k, k < 4 → o_gP S (43 + 2 * k) 8 2 = some (44 + 2 * k) := four (cP43_2 h) (cP45_2 h) (cP47_2 h) (cP49_2 h)
theorem cIssh (h : CS S) : ∀ k, k < 4 → o_is S (43 + 2 * k) 8 = some (43 + 2 * k) := fun k hk => at_is (cAt43 h k hk)
theorem cIsh (h : CS S) (j : Nat) : ∀ k, k < 4 → o_gI S (43 + 2 * k) 8 j = some (m_I S (43 + 2 * k) j) := fun k hk => at_gI (cAt43 h k hk)
theorem cSIsh (h : CS S) (j : Nat) (v : Int32) : ∀ k, k < 4 → o_sI S (43 + 2 * k) 8 j v = some (m_sI S (43 + 2 * k) (upd (m_I S (43 + 2 * k)) j v)) := fun k hk => at_sI (cAt43 h k hk)
theorem nm1 {n : Nat} (h : n < 2 ^ 31) : ¬ nI n = -1 := by
  rw [i_eq, nI_toInt h]
  show ¬ (n : Int) = -1
  omega
theorem C_isEmpty_0 (h : CS S) {k : Nat} (hk : k < 4) (he : m_I S (43 + 2 * k) 0 = -1) : fX7_isEmpty S (43 + 2 * k) = some 1 := by
  unfold fX7_isEmpty bX7_isEmpty_0 bX7_isEmpty_13
  rw [cIsh h 0 k hk, Option.bind_some, if_pos he]
  rfl
theorem C_isEmpty_1 (h : CS S) {k ln : Nat} (hk : k < 4) (hl : ln < 3) (he : m_I S (43 + 2 * k) 0 = nI ln) : fX7_isEmpty S (43 + 2 * k) = some 0 := by
  unfold fX7_isEmpty bX7_isEmpty_0 bX7_isEmpty_13
  rw [cIsh h 0 k hk, Option.bind_some, if_neg (by rw [he]; exact nm1 (by omega))]
  rfl
end SH
theorem shAt.st {S S' : MS} {I I' : Nat → Nat → Int32} {k : Nat} (h : shAt S I k) (h1 : m_I S' (43 + 2 * k) = m_I S (43 + 2 * k)) (h2 : m_I S' (44 + 2 * k) = m_I S (44 + 2 * k)) (h3 : I' 40 k = I 40 k) (h4 : I' 41 k = I 41 k) (h5 : ∀ j, j < 60 → I' 42 (60 * k + j) = I 42 (60 * k + j)) : shAt S' I' k := by
  unfold shAt
  rw [h1, h2, h3, h4]
  rcases h with h | ⟨ln, sz, a1, a2, a3, a4, a5, a6, a7⟩
  · exact .inl h
  · exact .inr ⟨ln, sz, a1, a2, a3, a4, a5, a6, fun j hj => by rw [h5 j (by omega)]; exact a7 j hj⟩
theorem i_sh.fr {S S' : MS} {I I' : Nat → Nat → Int32} {PI Q PL P QR : List Nat} (h : i_sh S I) (hC : CS S) (hf : FrC S S' PI Q PL) (hr : FrR I I' P QR) (h1 : ∀ a ∈ PI, a < 43 ∨ 50 < a) (h2 : 40 ∉ P ∧ 41 ∉ P ∧ 42 ∉ P) : i_sh S' I' := by
  intro k hk
  have hn := hC.1
  refine (h k hk).st ((hf.2.1 _ (by omega) (by omega)).2.2.1 (by omega) (fun q => ?_)) ((hf.2.1 _ (by omega) (by omega)).2.2.1 (by omega) (fun q => ?_)) (by rw [hr.1 40 (by decide) h2.1]) (by rw [hr.1 41 (by decide) h2.2.1]) (fun j _ => by rw [hr.1 42 (by decide) h2.2.2])
  · have := h1 _ q; omega
  · have := h1 _ q; omega
theorem i_ev.fr {S S' : MS} {I I' : Nat → Nat → Int32} {PI Q PL P QR : List Nat} (h : i_ev S I) (hf : FrC S S' PI Q PL) (hr : FrR I I' P QR) (h1 : 11 ∉ Q ∧ 12 ∉ Q) (h2 : 0 ∉ QR ∧ 57 ∉ QR) : i_ev S' I' := by
  unfold i_ev
  rw [hf.2.2 12 h1.2, hf.2.2 11 h1.1, hr.2 0 h2.1, hr.2 57 h2.2]
  exact h
/-! fault -/
def cF (S : MS) (v : Int32) : MS := m_sI S 1 (upd (m_I S 1) 12 v)
def rF (I : Nat → Nat → Int32) (v : Int32) : Nat → Nat → Int32 := va_up I 1 (upd (I 1) 0 v)
def rT (I : Nat → Nat → Int32) (v : Int32) : Nat → Nat → Int32 := va_up I 1 (upd (I 1) 57 (31 * I 1 57 + v))
def cT (S : MS) (v : Int32) : MS := m_sI S 1 (upd (m_I S 1) 11 (31 * m_I S 1 11 + v))
section EV
variable {S : MS} {I : Nat → Nat → Int32} {J : Nat → Nat → Int64}
theorem cF_C {v : Int32} (h : CS S) : CS (cF S v) := h
theorem cT_C {v : Int32} (h : CS S) : CS (cT S v) := h
theorem cF_f {v : Int32} : FrC S (cF S v) [] [12] [] := FrC.sI1 (by decide)
theorem rF_f {v : Int32} : FrR I (rF I v) [] [0] := FrR.up1 (by decide)
theorem cT_f {v : Int32} : FrC S (cT S v) [] [11] [] := FrC.sI1 (by decide)
theorem rT_f {v : Int32} : FrR I (rT I v) [] [57] := FrR.up1 (by decide)
theorem cF_1 {v : Int32} {a : Nat} (ha : a ≠ 1) : m_I (cF S v) a = m_I S a := mI_ne ha
theorem rF_1 {v : Int32} {a : Nat} (ha : a ≠ 1) : rF I v a = I a := up_n ha
theorem cF_o {v : Int32} {k : Nat} (hk : k ≠ 12) : m_I (cF S v) 1 k = m_I S 1 k := by
  unfold cF
  rw [mI_same, upd_n hk]
theorem rF_o {v : Int32} {k : Nat} (hk : k ≠ 0) : rF I v 1 k = I 1 k := by
  unfold rF
  rw [up_s, upd_n hk]
theorem cF_s {v : Int32} : m_I (cF S v) 1 12 = v := by
  unfold cF
  rw [mI_same, upd_s]
theorem rF_s {v : Int32} : rF I v 1 0 = v := by
  unfold rF
  rw [up_s, upd_s]
theorem upd_upd {f : Nat → Int32} {k : Nat} {u v : Int32} : upd (upd f k u) k v = upd f k v := by
  funext b
  by_cases h : b = k
  · subst h; rw [upd_s, upd_s]
  · rw [upd_n h, upd_n h, upd_n h]
theorem cF_cF {u v : Int32} : cF (cF S u) v = cF S v := by
  unfold cF
  rw [mI_same, sI_sI, upd_upd]
theorem rF_rF {u v : Int32} : rF (rF I u) v = rF I v := by
  unfold rF
  rw [up_s, up_up, upd_upd]
theorem ev_F (h : i_ev S I) (v : Int32) : i_ev (cF S v) (rF I v) := by
  unfold i_ev
  rw [cF_s, rF_s, cF_o (by decide), rF_o (by decide)]
  exact ⟨rfl, h.2⟩
theorem ev_T (h : i_ev S I) (v : Int32) : i_ev (cT S v) (rT I v) := by
  unfold i_ev cT rT
  rw [mI_same, up_s, upd_n (by decide), upd_s, upd_n (by decide), upd_s, h.2]
  exact ⟨h.1, rfl⟩
theorem sh_F (hC : CS S) (h : i_sh S I) (v : Int32) : i_sh (cF S v) (rF I v) := h.fr hC cF_f rF_f (by simp) (by simp)
theorem sh_T (hC : CS S) (h : i_sh S I) (v : Int32) : i_sh (cT S v) (rT I v) := h.fr hC cT_f rT_f (by simp) (by simp)
theorem C_comeTo (h : CS S) (v : Int32) : fX9_comeTo S 1 v = some (-10 - v, cF S v) := by
  unfold fX9_comeTo bX9_comeTo_0
  rw [cSI1 h]
  rfl
theorem C_f0 (h : CS S) (v : Int32) : o_sI S 1 10 12 v = some (cF S v) := cSI1 h 12 v
theorem C_leave (h : CS S) (v : Int32) : fX9_leaveInTrace S 1 v = some (cT S v) := by
  unfold fX9_leaveInTrace bX9_leaveInTrace_0
  rw [cI1 h, Option.bind_some, cSI1 h]
  rfl
theorem R_traced (v : Int32) : fX10_traced (mkR I J) 1 v = some (mkR (rT I v) J) := by
  unfold fX10_traced bX10_traced_0
  rw [rI, Option.bind_some, rSI]
  rfl
theorem R_refused (v : Int32) : fX10_refused (mkR I J) 1 v = some (v, mkR (rF I 0) J) := by
  unfold fX10_refused bX10_refused_0
  rw [rSI]
  rfl
theorem R_failed (v : Int32) : fX10_failed (mkR I J) 1 v = some (-10 - v, mkR (rF I v) J) := by
  unfold fX10_failed bX10_failed_0
  rw [rSI]
  rfl
theorem R_failedLong (v : Int32) : fX10_failedLong (mkR I J) 1 v = some (-9223372036854775808, mkR (rF I v) J) := by
  unfold fX10_failedLong bX10_failedLong_0
  rw [rSI]
  rfl
end EV
/-- both answer alike and keep Kp; what else may have changed -/
def Ok {α : Type} (S : MS) (I : Nat → Nat → Int32) (J : Nat → Nat → Int64) (c r : Option (α × MS)) (Kp : MS → (Nat → Nat → Int32) → Prop) (PI Q PL P QR : List Nat) : Prop :=
  ∃ (x : α) (S' : MS) (I' : Nat → Nat → Int32), c = some (x, S') ∧ r = some (x, mkR I' J) ∧ CS S' ∧ Kp S' I' ∧ FrC S S' PI Q PL ∧ FrR I I' P QR
def KSh (S : MS) (I : Nat → Nat → Int32) : Prop := i_ev S I ∧ i_sh S I
theorem KSh.F {S : MS} {I : Nat → Nat → Int32} (hC : CS S) (h : KSh S I) (v : Int32) : KSh (cF S v) (rF I v) := ⟨ev_F h.1 v, sh_F hC h.2 v⟩
section SC
variable {S : MS} {I : Nat → Nat → Int32} {J : Nat → Nat → Int64}
theorem ok_F {α : Type} {x : α} {v : Int32} {c r : Option (α × MS)} {PI Q PL P QR : List Nat} (hC : CS S) (hk : KSh S I) (h1 : c = some (x, cF S v)) (h2 : r = some (x, mkR (rF I v) J)) (h3 : 12 ∈ Q) (h4 : 0 ∈ QR) : Ok S I J c r KSh PI Q PL P QR :=
  ⟨x, _, _, h1, h2, cF_C hC, hk.F hC v, cF_f.mono (by simp) (by simpa using h3) (by simp), rF_f.mono (by simp) (by simpa using h4)⟩
theorem n60 (k j : Nat) : (60 : Int32) * nI k + nI j = nI (60 * k + j) := by
  rw [show (60 : Int32) = nI 60 from rfl, ← nI_add]
  congr 1
  exact (Int32.ofNat_mul 60 k).symm
theorem R_sheetLoop {k n : Nat} (hk : k < 4) (hn : n ≤ 60) : hX10_sheet_65 (mkR I J) 1 (nI k) (nI n) (nI 0) = some (1, mkR (rF (va_up I 42 (fil (I 42) (60 * k) n (fun _ => 0))) 0) J) := by
  have hh : ∀ (d j : Nat), j + d = n → hX10_sheet_65 (mkR (va_up I 42 (fil (I 42) (60 * k) j (fun _ => 0))) J) 1 (nI k) (nI n) (nI j) = some (1, mkR (rF (va_up I 42 (fil (I 42) (60 * k) n (fun _ => 0))) 0) J) := by
    intro d
    induction d with
    | zero =>
      intro j hj
      have : j = n := by omega
      subst this
      rw [qX10_sheet_65]
      unfold bX10_sheet_65
      rw [if_pos (nI_le (Nat.le_refl _) (by omega)), rIs, Option.bind_some, R_refused, b2_s, fin_r]
    | succ d ih =>
      intro j hj
      rw [qX10_sheet_65]
      unfold bX10_sheet_65
      rw [if_neg (nI_ge (by omega) (by omega)), rP55, Option.bind_some, n60, rS42 rfl (by omega)]
      simp only [Option.bind_some]
      rw [nI_1, fin_l, up_s, up_up, fil_s]
      exact ih (j + 1) (by omega)
  have := hh n 0 (by omega)
  rw [fil_0, up_id] at this
  exact this
theorem C_renew (hC : CS S) {k : Nat} (hk : k < 4) (u v : Int32) : ∃ S', fX7_renew S (43 + 2 * k) u v = some S' ∧ CS S' ∧ m_I S' (43 + 2 * k) = upd (upd (m_I S (43 + 2 * k)) 0 u) 1 v ∧ m_I S' (44 + 2 * k) = fil (m_I S (44 + 2 * k)) 0 60 (fun _ => 0) ∧ (∀ a, a ≠ 43 + 2 * k → a ≠ 44 + 2 * k → m_I S' a = m_I S a) ∧ FrC S S' [43, 44, 45, 46, 47, 48, 49, 50] [] [] := by
  unfold fX7_renew bX7_renew_0
  rw [cSIsh hC 0 u k hk, Option.bind_some]
  have h1 : CS (m_sI S (43 + 2 * k) (upd (m_I S (43 + 2 * k)) 0 u)) := hC
  rw [cSIsh h1 1 v k hk, Option.bind_some, mI_same, sI_sI]
  have h2 : CS (m_sI S (43 + 2 * k) (upd (upd (m_I S (43 + 2 * k)) 0 u) 1 v)) := hC
  rw [cPsh h2 k hk, Option.bind_some, C_fill (cAt44 h2 k hk) (cLn44 h2 k hk) (by decide), Option.bind_some]
  refine ⟨_, rfl, hC, ?_, ?_, ?_, ?_⟩
  · rw [mI_ne (by omega), mI_same]
  · rw [mI_same, mI_ne (by omega)]
  · intro a ha hb
    rw [mI_ne hb, mI_ne ha]
  · exact (FrC.sI (by omega) (by simp; omega)).tr (FrC.sI (by omega) (by simp; omega))
theorem sheet_ok (hC : CS S) (hk : KSh S I) (x1 x2 x3 : Int32) : Ok S I J (fX9_sheet S 1 x1 x2 x3) (fX10_sheet (mkR I J) 1 x1 x2 x3) KSh [43, 44, 45, 46, 47, 48, 49, 50] [12] [] [40, 41, 42] [0] := by
  unfold fX9_sheet bX9_sheet_0 bX9_sheet_28 fX10_sheet bX10_sheet_0 bX10_sheet_31
  rw [C_f0 hC, Option.bind_some]
  by_cases h1 : ∃ k, k < 4 ∧ x1 = nI k
  · obtain ⟨k, hk4, rfl⟩ := h1
    rw [C_isSheet_i hk4, R_noSheet_i hk4]
    simp only [Option.bind_some, e10, e00, if_true, if_false]
    by_cases h2 : 0 ≤ x2.toInt ∧ x2.toInt < 3
    · rw [C_below_t (n := 3) rfl h2, R_in_t (a' := 0) (b' := 2) rfl rfl (by omega)]
      simp only [Option.bind_some, e10, if_false]
      by_cases h3 : x3 ≤ 60
      · rw [if_pos h3, if_pos h3]
        by_cases h4 : 0 ≤ x3
        · rw [if_pos h4, if_pos h4]
          obtain ⟨ln, hln, rfl⟩ := i_nI h2.1 h2.2
          obtain ⟨n, hn, rfl⟩ := nI_of2 (M := 60) (n := 60) rfl (by rw [i_lt]; rw [i_le] at h4; omega) h3
          obtain ⟨S', g1, g2, g3, g4, g5, g6⟩ := C_renew (cF_C (v := 0) hC) hk4 (nI ln) (nI n)
          rw [cP1_10 (cF_C hC), Option.bind_some, cP42 (cF_C hC) k hk4, Option.bind_some, cIssh (cF_C hC) k hk4, Option.bind_some, g1, Option.bind_some]
          rw [rP53, Option.bind_some, rS40 rfl hk4, Option.bind_some, rP54, Option.bind_some, rS41 rfl hk4, Option.bind_some, fin_l]
          refine ⟨1, S', _, rfl, R_sheetLoop hk4 hn, g2, ⟨?_, ?_⟩, (cF_f.mono (by simp) (by simp) (by simp)).tr (g6.mono (by simp) (by simp) (by simp)), ?_⟩
          · unfold i_ev
            rw [g5 1 (by omega) (by omega), rF_s, rF_o (by decide), cF_s, cF_o (by decide), up_n (by decide), up_n (by decide), up_n (by decide)]
            exact ⟨rfl, hk.1.2⟩
          · intro j hj
            by_cases hjk : j = k
            · subst hjk
              refine .inr ⟨ln, n, hln, hn, ?_, ?_, ?_, ?_, ?_⟩
              · rw [g3, upd_n (by decide), upd_s]
              · rw [rF_1 (by decide), up_n (by decide), up_s, upd_s]
              · rw [g3, upd_s]
              · rw [rF_1 (by decide), up_n (by decide), up_n (by decide), up_s, upd_s]
              · intro i hi
                rw [g4, rF_1 (by decide), up_s, fil_i hi]
                have := fil_i (f := m_I (cF S 0) (44 + 2 * j)) (lo := 0) (n := 60) (i := i) (g := fun _ => 0) (by omega)
                rw [Nat.zero_add] at this
                exact this
            · refine (sh_F hC hk.2 0 j hj).st (g5 _ (by omega) (by omega)) (g5 _ (by omega) (by omega)) ?_ ?_ ?_
              · rw [rF_1 (by decide), rF_1 (by decide), up_n (by decide), up_n (by decide), up_s, upd_n hjk]
              · rw [rF_1 (by decide), rF_1 (by decide), up_n (by decide), up_s, upd_n hjk]
                rfl
              · intro i hi
                rw [rF_1 (by decide), rF_1 (by decide), up_s, fil_o (by omega)]
                rfl
          · refine FrR.tr ?_ (rF_f.mono (by simp) (by simp))
            exact ((FrR.up (by decide) (by simp)).tr (FrR.up (by decide) (by simp))).tr (FrR.up (by decide) (by simp))
        · rw [if_neg h4, if_neg h4, rIs, cIs1 (cF_C hC)]
          simp only [Option.bind_some]
          rw [C_comeTo (cF_C hC), R_failed, b2_s, b2_s, fin_r, cF_cF]
          exact ok_F hC hk rfl rfl (by simp) (by simp)
      · rw [if_neg h3, if_neg h3, rIs, Option.bind_some, R_refused, b2_s, fin_r]
        exact ok_F hC hk rfl rfl (by simp) (by simp)
    · rw [C_below_f (n := 3) rfl h2, R_in_f (a' := 0) (b' := 2) rfl rfl (by omega)]
      simp only [Option.bind_some, e00, if_true]
      rw [rIs, Option.bind_some, R_refused, b2_s, fin_r]
      exact ok_F hC hk rfl rfl (by simp) (by simp)
  · rw [C_isSheet_o h1, R_noSheet_o h1]
    simp only [Option.bind_some, e10, e00, if_true, if_false]
    rw [rIs, Option.bind_some, R_refused, b2_s, fin_r]
    exact ok_F hC hk rfl rfl (by simp) (by simp)
theorem l_add {x y : Int64} (h1 : -9223372036854775808 ≤ x.toInt + y.toInt) (h2 : x.toInt + y.toInt < 9223372036854775808) : (x + y).toInt = x.toInt + y.toInt := by rw [Int64.toInt_add, l_bm h1 h2]
theorem l_sub {x y : Int64} (h1 : -9223372036854775808 ≤ x.toInt - y.toInt) (h2 : x.toInt - y.toInt < 9223372036854775808) : (x - y).toInt = x.toInt - y.toInt := by rw [Int64.toInt_sub, l_bm h1 h2]
theorem l_n1 {n : Nat} (h : n < 2 ^ 31) : ((nI n).toInt64 - 1).toInt = (n : Int) - 1 := by
  have h1 : (1 : Int64).toInt = 1 := rfl
  rw [l_sub, i_l, nI_toInt h, h1] <;> rw [i_l, nI_toInt h, h1] <;> omega
theorem m1n : ¬ (0 : Int32) ≤ -1 := by decide
theorem R_noCell_e {k : Nat} (hk : k < 4) (he : I 40 k = -1) (x : Int32) : fX10_noCell (mkR I J) 1 (nI k) x = some 1 := by
  unfold fX10_noCell bX10_noCell_0 bX10_noCell_36
  rw [rP53, Option.bind_some, rL40 rfl hk, Option.bind_some, he, if_neg m1n]
theorem R_noCell_t {k n j : Nat} (hk : k < 4) (hn : n ≤ 60) (he : I 40 k = nI n) (hj : j < n) : fX10_noCell (mkR I J) 1 (nI k) (nI j) = some 0 := by
  unfold fX10_noCell bX10_noCell_0 bX10_noCell_36
  rw [rP53, Option.bind_some, rL40 rfl hk, Option.bind_some, he, if_pos (nI_pos' (by omega)), Option.bind_some, rL40 rfl hk, Option.bind_some, he, R_in_t (a' := 0) (b' := (n : Int) - 1) rfl (l_n1 (by omega)) (by rw [nI_toInt (by omega)]; omega)]
  rfl
theorem R_noCell_f {k n : Nat} {x : Int32} (hk : k < 4) (hn : n ≤ 60) (he : I 40 k = nI n) (hj : ¬ ∃ j, j < n ∧ x = nI j) : fX10_noCell (mkR I J) 1 (nI k) x = some 3 := by
  unfold fX10_noCell bX10_noCell_0 bX10_noCell_36
  rw [rP53, Option.bind_some, rL40 rfl hk, Option.bind_some, he, if_pos (nI_pos' (by omega)), Option.bind_some, rL40 rfl hk, Option.bind_some, he, R_in_f (a' := 0) (b' := (n : Int) - 1) rfl (l_n1 (by omega)) (fun q => hj (i_nI q.1 (by omega)))]
  rfl
theorem C_hasCells {k n : Nat} {x y : Int32} (hC : CS S) (hk : k < 4) (hn : n ≤ 60) (he : m_I S (43 + 2 * k) 1 = nI n) : fX7_hasCells S (43 + 2 * k) x y.toInt64 = some (bz (0 ≤ x.toInt ∧ 0 ≤ y.toInt ∧ x.toInt + y.toInt ≤ n)) := by
  unfold fX7_hasCells bX7_hasCells_0 bX7_hasCells_27 bX7_hasCells_28
  rw [cIsh hC 1 k hk, Option.bind_some, he]
  have a1 := i_lo x
  have a2 := i_hi x
  have a3 := i_lo y
  have a4 := i_hi y
  simp only [lg_lt, lg_gt, n0, i_l, show (0 : Int64).toInt = 0 from rfl, nI_toInt (show n < 2 ^ 31 by omega)]
  simp only [i_lt, n0]
  rw [l_add (by rw [i_l, i_l]; omega) (by rw [i_l, i_l]; omega), i_l, i_l]
  by_cases h1 : x.toInt < 0
  · rw [if_pos h1, bz_f (by omega)]
    rfl
  · rw [if_neg h1]
    by_cases h2 : y.toInt < 0
    · rw [if_pos h2, bz_f (by omega)]
      rfl
    · rw [if_neg h2]
      by_cases h3 : (n : Int) < x.toInt + y.toInt
      · rw [if_pos h3, bz_f (by omega)]
        rfl
      · rw [if_neg h3, bz_t (by omega)]
        rfl
theorem C_taking_e {k : Nat} {ln x : Int32} (hC : CS S) (hk : k < 4) (he : m_I S (43 + 2 * k) 0 = -1) : fX7_faultOfTaking S (43 + 2 * k) ln x 1 = some 1 := by
  unfold fX7_faultOfTaking bX7_faultOfTaking_0 bX7_faultOfTaking_17 bX7_faultOfTaking_48
  rw [cIssh hC k hk, Option.bind_some, C_isEmpty_0 hC hk he, Option.bind_some, if_neg (by decide), Option.bind_some, Option.bind_some, if_neg (by decide)]
theorem C_taking {k n l : Nat} {ln x : Int32} (hC : CS S) (hk : k < 4) (hn : n ≤ 60) (hl : l < 3) (he : m_I S (43 + 2 * k) 0 = nI l) (he2 : m_I S (43 + 2 * k) 1 = nI n) : fX7_faultOfTaking S (43 + 2 * k) ln x 1 = some (if nI l = ln then (if 0 ≤ x.toInt ∧ x.toInt < n then 0 else 3) else 2) := by
  unfold fX7_faultOfTaking bX7_faultOfTaking_0 bX7_faultOfTaking_17 bX7_faultOfTaking_48
  rw [cIssh hC k hk, Option.bind_some, C_isEmpty_1 hC hk hl he, Option.bind_some, if_pos rfl, cIsh hC 0 k hk, Option.bind_some, he]
  by_cases h : nI l = ln
  · rw [if_pos h, if_pos h, Option.bind_some, Option.bind_some, if_pos rfl, if_pos (by decide), Option.bind_some]
    rw [show (1 : Int64) = (1 : Int32).toInt64 from rfl, C_hasCells hC hk hn he2, Option.bind_some]
    simp only [bz_0, show (1 : Int32).toInt = 1 from rfl]
    by_cases h2 : 0 ≤ x.toInt ∧ x.toInt < n
    · rw [if_neg (by omega), if_pos h2]
    · rw [if_pos (by omega), if_neg h2]
  · rw [if_neg h, if_neg h]
theorem lose_ok (hC : CS S) (hk : KSh S I) (x1 : Int32) : Ok S I J (fX9_lose S 1 x1) (fX10_lose (mkR I J) 1 x1) KSh [43, 44, 45, 46, 47, 48, 49, 50] [] [] [40] [] := by
  unfold fX9_lose bX9_lose_0 fX10_lose bX10_lose_0 bX10_lose_23
  by_cases h1 : ∃ k, k < 4 ∧ x1 = nI k
  · obtain ⟨k, hk4, rfl⟩ := h1
    rw [C_isSheet_i hk4, R_noSheet_i hk4]
    simp only [Option.bind_some, e10, e00, if_true, if_false]
    simp only [cP1_10 hC, Option.bind_some, cP42 hC k hk4, cIssh hC k hk4, rP53, rL40 rfl hk4, rS40 rfl hk4]
    rcases hk.2 k hk4 with ⟨a1, a2⟩ | ⟨ln, sz, a1, a2, a3, a4, a5, a6, a7⟩
    · rw [C_isEmpty_0 hC hk4 a1, Option.bind_some, if_neg (by decide), a2, if_neg m1n]
      have : upd (I 40) k (-1) = I 40 := by
        funext j
        by_cases h : j = k
        · subst h; rw [upd_s, a2]
        · rw [upd_n h]
      rw [this, up_id]
      exact ⟨0, S, I, rfl, rfl, hC, hk, FrC.rf, FrR.rf⟩
    · rw [C_isEmpty_1 hC hk4 a1 a3, Option.bind_some, if_pos rfl, a6, if_pos (nI_pos' (by omega))]
      unfold fX7_drop bX7_drop_0
      rw [cSIsh hC 0 _ k hk4, Option.bind_some]
      have h2 : CS (m_sI S (43 + 2 * k) (upd (m_I S (43 + 2 * k)) 0 (-1))) := hC
      rw [cSIsh h2 1 _ k hk4, Option.bind_some, Option.bind_some, mI_same, sI_sI]
      refine ⟨1, _, _, rfl, rfl, hC, ⟨?_, ?_⟩, FrC.sI (by omega) (by simp; omega), FrR.up (by decide) (by simp)⟩
      · unfold i_ev
        rw [mI_ne (by omega), up_n (by decide)]
        exact hk.1
      · intro j hj
        by_cases hjk : j = k
        · subst hjk
          refine .inl ⟨?_, ?_⟩
          · rw [mI_same, upd_n (by decide), upd_s]
          · rw [up_s, upd_s]
        · refine (hk.2 j hj).st (mI_ne (by omega)) (mI_ne (by omega)) ?_ (by rw [up_n (by decide)]) (fun i _ => by rw [up_n (by decide)])
          rw [up_s, upd_n hjk]
  · rw [C_isSheet_o h1, R_noSheet_o h1]
    exact ⟨-1, S, I, rfl, rfl, hC, hk, FrC.rf, FrR.rf⟩
theorem C_taking_b {k n l : Nat} {x : Int32} (hC : CS S) (hk : k < 4) (hn : n ≤ 60) (hl : l < 3) (he : m_I S (43 + 2 * k) 0 = nI l) (he2 : m_I S (43 + 2 * k) 1 = nI n) : fX7_faultOfTaking S (43 + 2 * k) (nI l) x 1 = some (if 0 ≤ x.toInt ∧ x.toInt < n then 0 else 3) := by rw [C_taking hC hk hn hl he he2, if_pos rfl]
theorem put_ok (hC : CS S) (hk : KSh S I) (x1 x2 x3 : Int32) : Ok S I J (fX9_put S 1 x1 x2 x3) (fX10_put (mkR I J) 1 x1 x2 x3) KSh [43, 44, 45, 46, 47, 48, 49, 50] [12] [] [42] [0] := by
  unfold fX9_put bX9_put_0 fX10_put bX10_put_0 bX10_put_73
  rw [C_f0 hC, Option.bind_some]
  by_cases h1 : ∃ k, k < 4 ∧ x1 = nI k
  · obtain ⟨k, hk4, rfl⟩ := h1
    rw [C_isSheet_i hk4, R_noSheet_i hk4]
    simp only [Option.bind_some, e10, e00, if_true, if_false]
    have hC' := cF_C (v := 0) hC
    simp only [cP1_10 hC', Option.bind_some, cP42 hC' k hk4, cIssh hC' k hk4, cIsh hC' 0 k hk4, cIs1 hC', rIs]
    rcases hk.2 k hk4 with ⟨a1, a2⟩ | ⟨ln, sz, a1, a2, a3, a4, a5, a6, a7⟩
    · rw [C_taking_e hC' hk4 (by rw [cF_1 (by omega)]; exact a1), R_noCell_e hk4 a2]
      simp only [Option.bind_some]
      rw [if_neg (by decide), if_neg (by decide), C_comeTo hC', R_failed, b2_s, b2_s, cF_cF]
      exact ok_F hC hk rfl rfl (by simp) (by simp)
    · have b1 : m_I (cF S 0) (43 + 2 * k) = m_I S (43 + 2 * k) := cF_1 (by omega)
      rw [b1, a3, C_taking_b hC' hk4 a2 a1 (by rw [b1]; exact a3) (by rw [b1]; exact a5)]
      by_cases h2 : ∃ j, j < sz ∧ x2 = nI j
      · obtain ⟨j, hj, rfl⟩ := h2
        rw [if_pos (by rw [nI_toInt (by omega)]; omega), R_noCell_t hk4 a2 a6 hj]
        simp only [Option.bind_some, rP55, rP54, rL41 rfl hk4, a4]
        rw [if_pos trivial, if_pos (by decide)]
        unfold fX7_write bX7_write_0 bX7_write_61
        simp only [cIsh hC' 0 k hk4, cPsh hC' k hk4, b1, a3, Option.bind_some]
        have key : ∀ v : Int32, ((o_st (cF S 0) (44 + 2 * k) 12 (nI j) v).bind fun S39 => some ((1 : Int32), S39)) = some (1, m_sI (cF S 0) (44 + 2 * k) (upd (m_I (cF S 0) (44 + 2 * k)) j v)) := fun v => by
          rw [at_st (cAt44 hC' k hk4) (cLn44 hC' k hk4) (by decide) rfl (by omega)]
          rfl
        have key2 : ∀ v : Int32, ((o_st (mkR I J) 42 12 (60 * nI k + nI j) v).bind fun S73 => (o_is S73 1 11).bind fun _ => b2 (fX10_refused S73 1 1) fun v76 S76 => some (v76, S76)) = some (1, mkR (rF (va_up I 42 (upd (I 42) (60 * k + j) v)) 0) J) := fun v => by
          rw [n60, rS42 rfl (by omega), Option.bind_some, rIs, Option.bind_some, R_refused]
          rfl
        have fin : ∀ v : Int32, Ok S I J (some ((1 : Int32), m_sI (cF S 0) (44 + 2 * k) (upd (m_I (cF S 0) (44 + 2 * k)) j v))) (some (1, mkR (rF (va_up I 42 (upd (I 42) (60 * k + j) v)) 0) J)) KSh [43, 44, 45, 46, 47, 48, 49, 50] [12] [] [42] [0] := fun v => by
          refine ⟨1, _, _, rfl, rfl, hC, ⟨?_, ?_⟩, (cF_f.mono (by simp) (by simp) (by simp)).tr (FrC.sI (by omega) (by simp; omega)), (FrR.up (by decide) (by simp)).tr (rF_f.mono (by simp) (by simp))⟩
          · unfold i_ev
            rw [mI_ne (by omega), rF_s, rF_o (by decide), cF_s, cF_o (by decide), up_n (by decide)]
            exact ⟨rfl, hk.1.2⟩
          · intro i hi
            by_cases hik : i = k
            · subst hik
              refine .inr ⟨ln, sz, a1, a2, ?_, ?_, ?_, ?_, ?_⟩
              · rw [mI_ne (by omega), b1, a3]
              · rw [rF_1 (by decide), up_n (by decide), a4]
              · rw [mI_ne (by omega), b1, a5]
              · rw [rF_1 (by decide), up_n (by decide), a6]
              · intro m hm
                rw [mI_same, rF_1 (by decide), up_s]
                by_cases hmj : m = j
                · subst hmj
                  rw [upd_s, upd_s]
                · rw [upd_n hmj, upd_n (by omega), cF_1 (by omega)]
                  exact a7 m hm
            · refine (hk.2 i hi).st ((mI_ne (by omega)).trans (cF_1 (by omega))) ((mI_ne (by omega)).trans (cF_1 (by omega))) ?_ ?_ ?_
              · rw [rF_1 (by decide), up_n (by decide)]
              · rw [rF_1 (by decide), up_n (by decide)]
              · intro m hm
                rw [rF_1 (by decide), up_s, upd_n (by omega)]
        match ln, a1 with
        | 0, _ =>
          simp only [show ((nI 0) = 0) = True from eq_true rfl, if_true, key2, at_st (cAt44 hC' k hk4) (cLn44 hC' k hk4) (by decide) rfl (show j < 60 by omega), Option.bind_some]
          exact fin _
        | 1, _ =>
          simp only [show ((nI 1) = 0) = False by decide, show ((nI 1) = 1) = True from eq_true rfl, if_true, if_false, key2, at_st (cAt44 hC' k hk4) (cLn44 hC' k hk4) (by decide) rfl (show j < 60 by omega), Option.bind_some]
          exact fin _
        | 2, _ =>
          simp only [show ((nI 2) = 0) = False by decide, show ((nI 2) = 1) = False by decide, if_true, if_false, key2, at_st (cAt44 hC' k hk4) (cLn44 hC' k hk4) (by decide) rfl (show j < 60 by omega), Option.bind_some]
          exact fin _
      · rw [if_neg (fun q => h2 (i_nI q.1 q.2)), R_noCell_f hk4 a2 a6 h2]
        simp only [Option.bind_some]
        rw [if_neg (by decide), if_neg (by decide), C_comeTo hC', R_failed, b2_s, b2_s, cF_cF]
        exact ok_F hC hk rfl rfl (by simp) (by simp)
  · rw [C_isSheet_o h1, R_noSheet_o h1]
    simp only [Option.bind_some, e10, e00, if_true, if_false]
    rw [rIs, Option.bind_some, R_refused, b2_s]
    exact ok_F hC hk rfl rfl (by simp) (by simp)
theorem cell_ok (hC : CS S) (hk : KSh S I) (x1 x2 x3 : Int32) : Ok S I J (fX9_cell S 1 x1 x2 x3) (fX10_cell (mkR I J) 1 x1 x2 x3) KSh [] [12] [] [] [0] := by
  have hr0 : o_sI (mkR I J) 1 11 0 0 = some (mkR (rF I 0) J) := rSI 0 0
  unfold fX9_cell bX9_cell_0 bX9_cell_20 fX10_cell bX10_cell_0 bX10_cell_53 bX10_cell_87 bX10_cell_24 fX10_lost bX10_lost_0
  rw [C_f0 hC, Option.bind_some, hr0, Option.bind_some]
  have hC' := cF_C (v := 0) hC
  by_cases h1 : ∃ k, k < 4 ∧ x1 = nI k
  · obtain ⟨k, hk4, rfl⟩ := h1
    rw [C_isSheet_i hk4, R_noSheet_i hk4]
    simp only [Option.bind_some, e10, e00, if_true, if_false]
    by_cases h2 : 0 ≤ x3.toInt ∧ x3.toInt < 3
    · rw [C_below_t (n := 3) rfl h2, R_in_t (a' := 0) (b' := 2) rfl rfl (by omega)]
      simp only [Option.bind_some, e10, if_false, cP1_10 hC', cP42 hC' k hk4, cIssh hC' k hk4, rIs, rP53, rP54, rP55, rL40 rfl hk4, rL41 rfl hk4, rF_1 (show 40 ≠ 1 by decide), rF_1 (show 41 ≠ 1 by decide)]
      have b1 : m_I (cF S 0) (43 + 2 * k) = m_I S (43 + 2 * k) := cF_1 (by omega)
      rcases hk.2 k hk4 with ⟨a1, a2⟩ | ⟨ln, sz, a1, a2, a3, a4, a5, a6, a7⟩
      · rw [C_taking_e hC' hk4 (by rw [b1]; exact a1), a2, if_pos (by decide), R_noCell_e hk4 (by rw [rF_1 (by decide)]; exact a2)]
        simp only [Option.bind_some, C_f0 hC', cF_cF, cI1 (cF_C (v := 1) hC), cF_s, e10, if_false, if_neg (show ¬ (1 : Int32) ≤ 0 by decide), R_failedLong, b2_s, rF_rF]
        exact ok_F hC hk rfl rfl (by simp) (by simp)
      · rw [C_taking hC' hk4 a2 a1 (by rw [b1]; exact a3) (by rw [b1]; exact a5), a4, a6, if_neg (nI_pos (by omega))]
        by_cases h3 : nI ln = x3
        · rw [if_pos h3, if_pos h3]
          by_cases h4 : ∃ j, j < sz ∧ x2 = nI j
          · obtain ⟨j, hj, rfl⟩ := h4
            rw [if_pos (by rw [nI_toInt (by omega)]; omega), R_noCell_t hk4 a2 (by rw [rF_1 (by decide)]; exact a6) hj]
            simp only [Option.bind_some, C_f0 hC', cF_cF, n60, rL42 rfl (show 60 * k + j < 240 by omega), cI1 hC', cF_s, if_true, cP1_10 hC', cP42 hC' k hk4, cPsh hC' k hk4, at_ld (cAt44 hC' k hk4) (cLn44 hC' k hk4) (by decide) rfl (show j < 60 by omega), if_pos (show (0 : Int32) ≤ 0 by decide), rF_1 (show 42 ≠ 1 by decide), cF_1 (show 44 + 2 * k ≠ 1 by omega), a7 j hj]
            exact ok_F hC hk rfl rfl (by simp) (by simp)
          · rw [if_neg (fun q => h4 (i_nI q.1 q.2)), R_noCell_f hk4 a2 (by rw [rF_1 (by decide)]; exact a6) h4]
            simp only [Option.bind_some, C_f0 hC', cF_cF, cI1 (cF_C (v := 3) hC), cF_s, show ((3 : Int32) = 0) = False by decide, if_false, if_neg (show ¬ (3 : Int32) ≤ 0 by decide), R_failedLong, b2_s, rF_rF]
            exact ok_F hC hk rfl rfl (by simp) (by simp)
        · rw [if_neg h3, if_neg h3]
          simp only [Option.bind_some, C_f0 hC', cF_cF, cI1 (cF_C (v := 2) hC), cF_s, show ((2 : Int32) = 0) = False by decide, if_false, R_failedLong, b2_s, rF_rF]
          exact ok_F hC hk rfl rfl (by simp) (by simp)
    · rw [C_below_f (n := 3) rfl h2, R_in_f (a' := 0) (b' := 2) rfl rfl (by omega)]
      exact ok_F hC hk rfl rfl (by simp) (by simp)
  · rw [C_isSheet_o h1, R_noSheet_o h1]
    exact ok_F hC hk rfl rfl (by simp) (by simp)
theorem R_beyond (x y z : Int32) : fX10_isBeyond x y.toInt64 z = some (bz (¬ (0 ≤ x.toInt ∧ 0 ≤ y.toInt ∧ x.toInt + y.toInt ≤ z.toInt))) := by
  unfold fX10_isBeyond bX10_isBeyond_0 bX10_isBeyond_20 bX10_isBeyond_25
  have a1 := i_lo x
  have a2 := i_hi x
  have a3 := i_lo y
  have a4 := i_hi y
  have hle : ∀ u v : Int64, lg_cmp u v ≤ 0 ↔ u.toInt ≤ v.toInt := fun u v => by
    rw [← Int.not_lt, ← lg_gt, i_le, i_lt, Int.not_lt]
  simp only [lg_lt, hle, i_l, show (0 : Int64).toInt = 0 from rfl]
  rw [l_add (by rw [i_l, i_l]; omega) (by rw [i_l, i_l]; omega), i_l, i_l]
  simp only [i_lt, n0]
  by_cases h1 : x.toInt < 0
  · rw [if_pos h1, bz_t (by omega)]
    rfl
  · rw [if_neg h1]
    by_cases h2 : y.toInt < 0
    · rw [if_pos h2, bz_t (by omega)]
      rfl
    · rw [if_neg h2]
      by_cases h3 : x.toInt + y.toInt ≤ z.toInt
      · rw [if_pos h3, bz_f (by omega)]
        rfl
      · rw [if_neg h3, bz_t (by omega)]
        rfl
theorem cpy_fil {f g : Nat → Int32} {sp dp n : Nat} : va_cpy f g sp dp n = fil g dp n (fun i => f (sp + i)) := by
  funext i
  unfold va_cpy fil
  rfl
theorem n60b (k i j : Nat) : (60 : Int32) * nI k + nI i + nI j = nI (60 * k + i + j) := by rw [n60, nI_add]
theorem fin_fin (S : MS) : S = S := rfl
/-- from and to a row, by the hands -/
theorem R_copyA {k i l j n : Nat} (hk : k < 4) (hl : l < 4) (hi : i + n ≤ 60) (hj : j + n ≤ 60) : hX10_copy_107 (mkR I J) 1 (nI k) (nI i) (nI l) (nI j) (nI n) (nI 0) = hX10_copy_144 (mkR (va_up I 43 (fil (I 43) 0 n (fun m => I 42 (60 * k + i + m)))) J) 1 (nI l) (nI j) (nI n) (nI 0) := by
  have hh : ∀ (d m : Nat), m + d = n → hX10_copy_107 (mkR (va_up I 43 (fil (I 43) 0 m (fun m => I 42 (60 * k + i + m)))) J) 1 (nI k) (nI i) (nI l) (nI j) (nI n) (nI m) = hX10_copy_144 (mkR (va_up I 43 (fil (I 43) 0 n (fun m => I 42 (60 * k + i + m)))) J) 1 (nI l) (nI j) (nI n) (nI 0) := by
    intro d
    induction d with
    | zero =>
      intro m hm
      have : m = n := by omega
      subst this
      rw [qX10_copy_107]
      unfold bX10_copy_107
      rw [if_pos (nI_le (Nat.le_refl _) (by omega))]
      exact fin_l
    | succ d ih =>
      intro m hm
      rw [qX10_copy_107]
      unfold bX10_copy_107
      rw [if_neg (nI_ge (by omega) (by omega)), n60b]
      simp only [rP55, rP56, Option.bind_some, rL42 rfl (show 60 * k + i + m < 240 by omega), rS43 rfl (show m < 60 by omega)]
      rw [nI_1, fin_l, up_s, up_up, up_n (by decide)]
      have h2 := fil_s (f := I 43) (lo := 0) (n := m) (g := fun m => I 42 (60 * k + i + m))
      rw [Nat.zero_add] at h2
      rw [h2]
      exact ih (m + 1) (by omega)
  have := hh n 0 (by omega)
  rw [fil_0, up_id] at this
  exact this
theorem R_copyB {l j n : Nat} (hl : l < 4) (hj : j + n ≤ 60) : hX10_copy_144 (mkR I J) 1 (nI l) (nI j) (nI n) (nI 0) = some (nI n, mkR (rF (va_up I 42 (fil (I 42) (60 * l + j) n (fun m => I 43 m))) 0) J) := by
  have hh : ∀ (d m : Nat), m + d = n → hX10_copy_144 (mkR (va_up I 42 (fil (I 42) (60 * l + j) m (fun m => I 43 m))) J) 1 (nI l) (nI j) (nI n) (nI m) = some (nI n, mkR (rF (va_up I 42 (fil (I 42) (60 * l + j) n (fun m => I 43 m))) 0) J) := by
    intro d
    induction d with
    | zero =>
      intro m hm
      have : m = n := by omega
      subst this
      rw [qX10_copy_144]
      unfold bX10_copy_144
      rw [if_pos (nI_le (Nat.le_refl _) (by omega)), rIs, Option.bind_some, R_refused, b2_s, fin_r]
    | succ d ih =>
      intro m hm
      rw [qX10_copy_144]
      unfold bX10_copy_144
      rw [if_neg (nI_ge (by omega) (by omega)), n60b]
      simp only [rP55, rP56, Option.bind_some, rS42 rfl (show 60 * l + j + m < 240 by omega), rL43 rfl (show m < 60 by omega)]
      rw [nI_1, fin_l, up_s, up_up, up_n (by decide), fil_s]
      exact ih (m + 1) (by omega)
  have := hh n 0 (by omega)
  rw [fil_0, up_id] at this
  exact this
theorem copy_ok (hC : CS S) (hk : KSh S I) (x1 x2 x3 x4 x5 : Int32) : Ok S I J (fX9_copy S 1 x1 x2 x3 x4 x5) (fX10_copy (mkR I J) 1 x1 x2 x3 x4 x5) KSh [43, 44, 45, 46, 47, 48, 49, 50] [12] [] [42, 43] [0] := by
  unfold fX9_copy bX9_copy_0 bX9_copy_103 bX9_copy_53 bX9_copy_19 fX10_copy bX10_copy_0 bX10_copy_98 bX10_copy_38 bX10_copy_14
  rw [C_f0 hC, Option.bind_some]
  have hC' := cF_C (v := 0) hC
  by_cases h1 : ∃ k, k < 4 ∧ x1 = nI k
  · obtain ⟨k, hk4, rfl⟩ := h1
    rw [C_isSheet_i hk4, R_noSheet_i hk4]
    simp only [Option.bind_some, e10, e00, if_true, if_false]
    by_cases h2 : ∃ k, k < 4 ∧ x3 = nI k
    · obtain ⟨l, hl4, rfl⟩ := h2
      rw [C_isSheet_i hl4, R_noSheet_i hl4]
      have b1 : m_I (cF S 0) (43 + 2 * k) = m_I S (43 + 2 * k) := cF_1 (by omega)
      have b2 : m_I (cF S 0) (43 + 2 * l) = m_I S (43 + 2 * l) := cF_1 (by omega)
      simp only [Option.bind_some, e10, e00, if_true, if_false, cP1_10 hC', cP42 hC' k hk4, cIssh hC' k hk4, cP42 hC' l hl4, cIssh hC' l hl4, rIs, cIs1 hC', rP53, rP54, rL40 rfl hk4, rL41 rfl hk4, rL40 rfl hl4, rL41 rfl hl4, cIsh hC' 0 k hk4, cIsh hC' 0 l hl4, b1, b2]
      rcases hk.2 k hk4 with ⟨a1, a2⟩ | ⟨ln, sz, a1, a2, a3, a4, a5, a6, a7⟩
      · rw [C_isEmpty_0 hC' hk4 (by rw [b1]; exact a1), a2, if_pos (show (-1 : Int32) < 0 by decide)]
        simp only [Option.bind_some, e10, if_false, C_comeTo hC', R_failed, b2_s, cF_cF, fin_r]
        exact ok_F hC hk rfl rfl (by simp) (by simp)
      · rw [C_isEmpty_1 hC' hk4 a1 (by rw [b1]; exact a3), a6, if_neg (nI_pos (by omega))]
        simp only [Option.bind_some, e00, if_true]
        rcases hk.2 l hl4 with ⟨c1, c2⟩ | ⟨ln', sz', c1, c2, c3, c4, c5, c6, c7⟩
        · rw [C_isEmpty_0 hC' hl4 (by rw [b2]; exact c1), c2, if_neg m1n]
          simp only [Option.bind_some, e10, if_false, C_comeTo hC', R_failed, b2_s, cF_cF, fin_r]
          exact ok_F hC hk rfl rfl (by simp) (by simp)
        · rw [C_isEmpty_1 hC' hl4 c1 (by rw [b2]; exact c3), c6, if_pos (nI_pos' (by omega)), a3, a4, c3, c4]
          simp only [Option.bind_some, e00, if_true]
          by_cases h3 : nI ln = nI ln'
          · rw [if_pos h3, if_pos h3, C_hasCells hC' hk4 a2 (by rw [b1]; exact a5), R_beyond, nI_toInt (show sz < 2 ^ 31 by omega)]
            simp only [Option.bind_some, bz_0, Decidable.not_not]
            by_cases h4 : 0 ≤ x2.toInt ∧ 0 ≤ x5.toInt ∧ x2.toInt + x5.toInt ≤ sz
            · rw [if_neg (fun q => q h4), if_pos h4, C_hasCells hC' hl4 c2 (by rw [b2]; exact c5), R_beyond, nI_toInt (show sz' < 2 ^ 31 by omega)]
              simp only [Option.bind_some, bz_0, Decidable.not_not]
              by_cases h5 : 0 ≤ x4.toInt ∧ 0 ≤ x5.toInt ∧ x4.toInt + x5.toInt ≤ sz'
              · rw [if_neg (fun q => q h5), if_pos h5, fin_l]
                obtain ⟨n, hn, rfl⟩ := i_nI (x := x5) (n := 61) h4.2.1 (by omega)
                obtain ⟨i, hi, rfl⟩ := i_nI (x := x2) (n := 61) h4.1 (by omega)
                obtain ⟨j, hj, rfl⟩ := i_nI (x := x4) (n := 61) h5.1 (by omega)
                rw [nI_toInt (by omega), nI_toInt (by omega)] at h4 h5
                simp only [cPsh hC' k hk4, cPsh hC' l hl4, Option.bind_some]
                have q1 : o_cpy (cF S 0) (44 + 2 * k) (nI i) (44 + 2 * l) (nI j) (nI n) = some (m_sI (cF S 0) (44 + 2 * l) (fil (m_I S (44 + 2 * l)) j n (fun m => m_I S (44 + 2 * k) (i + m)))) := by
                  unfold o_cpy
                  rw [if_pos ⟨⟨cAt44 hC' k hk4, cAt44 hC' l hl4⟩, ⟨nI_pos (by omega), nI_pos (by omega), nI_pos (by omega)⟩, by rw [nI_clamp (by omega), nI_clamp (by omega), cLn44 hC' k hk4]; omega, by rw [nI_clamp (by omega), nI_clamp (by omega), cLn44 hC' l hl4]; omega⟩]
                  rw [nI_clamp (by omega), nI_clamp (by omega), nI_clamp (by omega), cpy_fil, cF_1 (by omega), cF_1 (by omega)]
                have q2 := R_copyA (I := I) (J := J) (k := k) (i := i) (l := l) (j := j) (n := n) hk4 hl4 (by omega) (by omega)
                rw [R_copyB hl4 (by omega), up_n (by decide), up_s] at q2
                rw [q1]
                refine ⟨nI n, _, _, rfl, q2, hC, ⟨?_, ?_⟩, (cF_f.mono (by simp) (by simp) (by simp)).tr (FrC.sI (by omega) (by simp; omega)), ((FrR.up (by decide) (by simp)).tr (FrR.up (by decide) (by simp))).tr (rF_f.mono (by simp) (by simp))⟩
                · unfold i_ev
                  rw [mI_ne (by omega), rF_s, rF_o (by decide), cF_s, cF_o (by decide), up_n (by decide), up_n (by decide)]
                  exact ⟨rfl, hk.1.2⟩
                · intro o ho
                  by_cases hol : o = l
                  · subst hol
                    refine .inr ⟨ln', sz', c1, c2, ?_, ?_, ?_, ?_, ?_⟩
                    · rw [mI_ne (by omega), b2, c3]
                    · rw [rF_1 (by decide), up_n (by decide), up_n (by decide), c4]
                    · rw [mI_ne (by omega), b2, c5]
                    · rw [rF_1 (by decide), up_n (by decide), up_n (by decide), c6]
                    · intro m hm
                      rw [mI_same, rF_1 (by decide), up_s]
                      by_cases hmj : j ≤ m ∧ m < j + n
                      · obtain ⟨d, rfl⟩ : ∃ d, m = j + d := ⟨m - j, by omega⟩
                        rw [fil_i (by omega), ← Nat.add_assoc, fil_i (by omega)]
                        have := fil_i (f := I 43) (lo := 0) (n := n) (i := d) (g := fun m => I 42 (60 * k + i + m)) (by omega)
                        rw [Nat.zero_add] at this
                        rw [this, a7 _ (by omega), Nat.add_assoc]
                      · rw [fil_o (by omega), fil_o (by omega)]
                        exact c7 m hm
                  · refine (hk.2 o ho).st ((mI_ne (by omega)).trans (cF_1 (by omega))) ((mI_ne (by omega)).trans (cF_1 (by omega))) ?_ ?_ ?_
                    · rw [rF_1 (by decide), up_n (by decide), up_n (by decide)]
                    · rw [rF_1 (by decide), up_n (by decide), up_n (by decide)]
                    · intro m hm
                      rw [rF_1 (by decide), up_s, fil_o (by omega)]
              · rw [if_pos h5, if_neg h5]
                simp only [Option.bind_some, C_comeTo hC', R_failed, b2_s, cF_cF, fin_r]
                exact ok_F hC hk rfl rfl (by simp) (by simp)
            · rw [if_pos h4, if_neg h4]
              simp only [Option.bind_some, C_comeTo hC', R_failed, b2_s, cF_cF, fin_r]
              exact ok_F hC hk rfl rfl (by simp) (by simp)
          · rw [if_neg h3, if_neg h3]
            simp only [Option.bind_some, C_comeTo hC', R_failed, b2_s, cF_cF, fin_r]
            exact ok_F hC hk rfl rfl (by simp) (by simp)
    · rw [C_isSheet_o h2, R_noSheet_o h2]
      simp only [Option.bind_some, e10, e00, if_true, if_false, rIs, R_refused, b2_s, fin_r]
      exact ok_F hC hk rfl rfl (by simp) (by simp)
  · rw [C_isSheet_o h1, R_noSheet_o h1]
    simp only [Option.bind_some, e10, e00, if_true, if_false, rIs, R_refused, b2_s, fin_r]
    exact ok_F hC hk rfl rfl (by simp) (by simp)
end SC
