/-! the pen of the class: weighs, finds the best start, takes gates -/
section PN
variable {S : MS} {I : Nat → Nat → Int32} {J : Nat → Nat → Int64} {lo hi : Nat → Nat}
def ctp (S : MS) (lo hi : Nat → Nat) (b x y l : Nat) : Prop := ∀ y' l', y' < 12 → l' < 6 → (y' < y ∨ (y' = y ∧ l' < l)) → m_I S 19 (6 * (12 * y' + x) + l') = nI (ccv lo hi b x y' l')
/-- columns behind x are told -/
def ctr (S : MS) (lo hi : Nat → Nat) (b x : Nat) : Prop := ∀ x', x < x' → x' ≤ b → ctb S lo hi b x'
theorem gts.fr {S' : MS} {PI Q PL : List Nat} (h : gts S lo hi) (hC : CS S) (hf : FrC S S' PI Q PL) (h1 : 17 ∉ PI ∧ 18 ∉ PI) : gts S' lo hi := fun x hx => by
  rw [hf.row hC (a := 17) (by omega) (by omega) h1.1, hf.row hC (a := 18) (by omega) (by omega) h1.2]
  exact h x hx
theorem C_weighL {a b x y : Nat} (hC : CS S) (hg : gts S lo hi) (hb : b < 12) (hx : x ≤ b) (hy : y < 12) (hr : ctr S lo hi b x) (hp : ctp S lo hi b x y 0) : ∃ S', lim sX5_weigh (.inr (.inl (16, nI a, nI b, nI x, nI y, S))) = lim sX5_weigh (.inr (.inl (16, nI a, nI b, nI x, nI (y + 1), S'))) ∧ FrC S S' [19] [] [] ∧ ctr S' lo hi b x ∧ ctp S' lo hi b x (y + 1) 0 := by
  obtain ⟨s, ⟨S', hs, f, k1, k2⟩, he⟩ := lim_inv (step := sX5_weigh) (K := fun l s => ∃ S', s = .inr (.inr (16, nI a, nI b, nI x, nI y, nI l, S')) ∧ FrC S S' [19] [] [] ∧ ctr S' lo hi b x ∧ ctp S' lo hi b x y l) 6 (s0 := .inr (.inr (16, nI a, nI b, nI x, nI y, nI 0, S))) ⟨S, rfl, FrC.rf, hr, hp⟩ (fun l hl s hs => by
    obtain ⟨S', rfl, f, k1, k2⟩ := hs
    have hC' : CS S' := hC.fr f (by simp) (by simp)
    have hlc := C_leastCost (l := l) hC' (hg.fr hC f (by simp)) hx hb hy hl (fun h => k1 (x + 1) (by omega) (by omega))
    refine ⟨.inr (.inr (16, nI a, nI b, nI x, nI y, nI (l + 1), m_sI S' 19 (upd (m_I S' 19) (6 * (12 * y + x) + l) (nI (ccv lo hi b x y l))))), ?_, _, rfl, f.tr (FrC.sI (by decide) (by simp)), fun x' h1 h2 y' l' h3 h4 => ?_, fun y' l' h3 h4 h5 => ?_⟩
    · show bX5_weigh_20 S' 16 (nI a) (nI b) (nI x) (nI y) (nI l) = _
      unfold bX5_weigh_20
      rw [if_neg (show ¬ (6 : Int32) ≤ nI l from nI_ge (b := 6) hl (by omega)), cP16_2 hC', Option.bind_some, C_slot, Option.bind_some, cIs16 hC', Option.bind_some, hlc, Option.bind_some, cS19 hC' rfl (show 6 * (12 * y + x) + l < 864 by omega), Option.bind_some, Option.bind_some, nI_1]
    · rw [mI_same, upd_n (by omega)]
      exact k1 x' h1 h2 y' l' h3 h4
    · rw [mI_same]
      by_cases he : y' = y ∧ l' = l
      · rw [he.1, he.2, upd_s]
      · rw [upd_n (by omega)]
        exact k2 y' l' h3 h4 (by omega))
  refine ⟨S', ?_, f, k1, fun y' l' h3 h4 h5 => k2 y' l' h3 h4 (by omega)⟩
  rw [lim_eq]
  show fin sX5_weigh (bX5_weigh_10 S 16 (nI a) (nI b) (nI x) (nI y)) = _
  unfold bX5_weigh_10
  rw [if_neg (show ¬ (12 : Int32) ≤ nI y from nI_ge (b := 12) hy (by omega)), fin_l, show lim sX5_weigh (.inr (.inr (16, nI a, nI b, nI x, nI y, 0, S))) = _ from he, hs, lim_eq]
  show fin sX5_weigh (bX5_weigh_20 S' 16 (nI a) (nI b) (nI x) (nI y) (nI 6)) = _
  unfold bX5_weigh_20
  rw [if_pos (by decide), Option.bind_some, fin_l, nI_1]
theorem C_weighX {a b x : Nat} (hC : CS S) (hg : gts S lo hi) (hb : b < 12) (hx : x ≤ b) (ha : a ≤ x) (hr : ctr S lo hi b x) : ∃ S', lim sX5_weigh (.inl (16, nI a, nI b, nI x, S)) = lim sX5_weigh (.inl (16, nI a, nI b, nI x + (-1), S')) ∧ FrC S S' [19] [] [] ∧ ∀ x', x ≤ x' → x' ≤ b → ctb S' lo hi b x' := by
  have all : ∀ y, y ≤ 12 → ∃ S', lim sX5_weigh (.inr (.inl (16, nI a, nI b, nI x, nI 0, S))) = lim sX5_weigh (.inr (.inl (16, nI a, nI b, nI x, nI y, S'))) ∧ FrC S S' [19] [] [] ∧ ctr S' lo hi b x ∧ ctp S' lo hi b x y 0 := by
    intro y
    induction y with
    | zero => intro _; exact ⟨S, rfl, FrC.rf, hr, fun y' l' _ _ h => by omega⟩
    | succ y ih =>
      intro hy
      obtain ⟨S1, e1, f1, a1, a2⟩ := ih (by omega)
      have hC1 : CS S1 := hC.fr f1 (by simp) (by simp)
      obtain ⟨S2, e2, f2, b1, b2⟩ := C_weighL (a := a) hC1 (hg.fr hC f1 (by simp)) hb hx (show y < 12 by omega) a1 a2
      exact ⟨S2, e1.trans e2, f1.tr f2, b1, b2⟩
  obtain ⟨S', e1, f1, a1, a2⟩ := all 12 (Nat.le_refl _)
  refine ⟨S', ?_, f1, fun x' h1 h2 y l hy hl => ?_⟩
  · rw [lim_eq]
    show fin sX5_weigh (bX5_weigh_2 S 16 (nI a) (nI b) (nI x)) = _
    unfold bX5_weigh_2
    rw [if_neg (nI_nlt ha (by omega)), fin_l, show lim sX5_weigh (.inr (.inl (16, nI a, nI b, nI x, 0, S))) = _ from e1, lim_eq]
    show fin sX5_weigh (bX5_weigh_10 S' 16 (nI a) (nI b) (nI x) (nI 12)) = _
    unfold bX5_weigh_10
    rw [if_pos (by decide), Option.bind_some, fin_l]
  · by_cases hxx : x' = x
    · subst hxx
      exact a2 y l hy hl (by omega)
    · exact a1 x' (by omega) h2 y l hy hl
theorem C_weigh {a b : Nat} (hC : CS S) (hg : gts S lo hi) (hb : b < 12) (hab : a ≤ b) : ∃ S', fX5_weigh S 16 (nI a) (nI b) = some S' ∧ FrC S S' [19] [] [] ∧ ∀ x, a ≤ x → x ≤ b → ctb S' lo hi b x := by
  have all : ∀ k, k ≤ b - a + 1 → ∃ S', lim sX5_weigh (.inl (16, nI a, nI b, nI (b + 1 - 0) + (-1), S)) = lim sX5_weigh (.inl (16, nI a, nI b, nI (b + 1 - k) + (-1), S')) ∧ FrC S S' [19] [] [] ∧ ∀ x, b + 1 - k ≤ x → x ≤ b → ctb S' lo hi b x := by
    intro k
    induction k with
    | zero => intro _; exact ⟨S, rfl, FrC.rf, fun x h1 h2 => by omega⟩
    | succ k ih =>
      intro hk
      obtain ⟨S1, e1, f1, a1⟩ := ih (by omega)
      have hC1 : CS S1 := hC.fr f1 (by simp) (by simp)
      obtain ⟨S2, e2, f2, b1⟩ := C_weighX (a := a) (x := b - k) hC1 (hg.fr hC f1 (by simp)) hb (by omega) (by omega) (fun x' h1 h2 => a1 x' (by omega) h2)
      refine ⟨S2, ?_, f1.tr f2, fun x h1 h2 => b1 x (by omega) h2⟩
      rw [e1, show b + 1 - k = (b - k) + 1 by omega, nI_dec, e2, show b + 1 - (k + 1) = b - k by omega]
  obtain ⟨S', e1, f1, a1⟩ := all (b - a + 1) (Nat.le_refl _)
  refine ⟨S', ?_, f1, fun x h1 h2 => a1 x (by omega) h2⟩
  unfold fX5_weigh bX5_weigh_0
  rw [fin_l]
  rw [show b + 1 - 0 = b + 1 by omega, nI_dec] at e1
  rw [e1]
  apply lim_end
  show bX5_weigh_2 S' 16 (nI a) (nI b) (nI (b + 1 - (b - a + 1)) + (-1)) = _
  unfold bX5_weigh_2
  rw [if_pos]
  rw [i_lt, i_add, nI_toInt (by omega), nI_toInt (by omega), m1i]
  · omega
  · rw [nI_toInt (by omega), m1i]; omega
  · rw [nI_toInt (by omega), m1i]; omega
/-- the first of the least of f below B -/
def bsO (f : Nat → Nat) (B : Nat) : Nat → Option Nat × Nat
  | 0 => (none, B)
  | c + 1 => if f c < (bsO f B c).2 then (some c, f c) else bsO f B c
theorem bsO_le (f : Nat → Nat) (B c : Nat) : (bsO f B c).2 ≤ B := by
  induction c with
  | zero => exact Nat.le_refl _
  | succ c ih =>
    unfold bsO
    split
    · show f c ≤ B; omega
    · exact ih
theorem bsO_sim {f f' : Nat → Nat} {B B' m : Nat} (hB : m < B) (hB' : m < B') (h : ∀ c, sim B B' m (f c) (f' c)) : ∀ c, (bsO f B c).1 = (bsO f' B' c).1 ∧ sim B B' m (bsO f B c).2 (bsO f' B' c).2 := by
  intro c
  induction c with
  | zero => exact ⟨rfl, .inl ⟨rfl, rfl⟩⟩
  | succ c ih =>
    obtain ⟨h1, h2⟩ := ih
    have hc := h c
    have hiff : f c < (bsO f B c).2 ↔ f' c < (bsO f' B' c).2 := by
      unfold sim at h2 hc
      omega
    unfold bsO
    by_cases hl : f c < (bsO f B c).2
    · rw [if_pos hl, if_pos (hiff.mp hl)]
      exact ⟨rfl, hc⟩
    · rw [if_neg hl, if_neg (fun q => hl (hiff.mpr q))]
      exact ⟨h1, h2⟩
theorem bsO_some {f : Nat → Nat} {B y : Nat} : ∀ c, (bsO f B c).1 = some y → y < c ∧ (bsO f B c).2 = f y ∧ f y < B := by
  intro c
  induction c with
  | zero => intro h; cases h
  | succ c ih =>
    unfold bsO
    by_cases hl : f c < (bsO f B c).2
    · rw [if_pos hl]
      intro h
      have hle := bsO_le f B c
      cases h
      exact ⟨by omega, rfl, by omega⟩
    · rw [if_neg hl]
      intro h
      obtain ⟨a1, a2, a3⟩ := ih h
      exact ⟨by omega, a2, a3⟩
theorem bsO_none {f : Nat → Nat} {B : Nat} : ∀ c, (bsO f B c).1 = none → (bsO f B c).2 = B := by
  intro c
  induction c with
  | zero => intro _; rfl
  | succ c ih =>
    unfold bsO
    by_cases hl : f c < (bsO f B c).2
    · rw [if_pos hl]
      intro h
      cases h
    · rw [if_neg hl]
      exact ih
theorem C_bestStart {a b : Nat} (hC : CS S) (hg : gts S lo hi) (hb : b < 12) (hab : a ≤ b) : ∃ S', fX5_bestStart S 16 (nI a) (nI b) = some (bn (bsO (fun y => ccv lo hi b a y 5) 1000 12).1, S') ∧ FrC S S' [19] [] [] ∧ ∀ x, a ≤ x → x ≤ b → ctb S' lo hi b x := by
  obtain ⟨S', e1, f1, a1⟩ := C_weigh hC hg hb hab
  refine ⟨S', ?_, f1, a1⟩
  have hC' : CS S' := hC.fr f1 (by simp) (by simp)
  unfold fX5_bestStart bX5_bestStart_0
  rw [cIs16 hC, Option.bind_some, e1, Option.bind_some, fin_l]
  refine lim_it2 (step := sX5_bestStart) (st := fun y => (16, nI a, bn (bsO (fun y => ccv lo hi b a y 5) 1000 y).1, nI (bsO (fun y => ccv lo hi b a y 5) 1000 y).2, nI y, S')) 12 (fun y hy => ?_) ?_
  · show bX5_bestStart_17 S' 16 (nI a) (bn (bsO (fun y => ccv lo hi b a y 5) 1000 y).1) (nI (bsO (fun y => ccv lo hi b a y 5) 1000 y).2) (nI y) = _
    have hle := bsO_le (fun y => ccv lo hi b a y 5) 1000 y
    have hcc := ccv_le (lo := lo) (hi := hi) b a y 5
    have hsl : fX5_slotOf (nI a) (nI y) 5 = some (nI (6 * (12 * y + a) + 5)) := C_slot (l := 5)
    have hs : bsO (fun y => ccv lo hi b a y 5) 1000 (y + 1) = if ccv lo hi b a y 5 < (bsO (fun y => ccv lo hi b a y 5) 1000 y).2 then (some y, ccv lo hi b a y 5) else bsO (fun y => ccv lo hi b a y 5) 1000 y := rfl
    unfold bX5_bestStart_17 bX5_bestStart_52
    rw [if_neg (show ¬ (12 : Int32) ≤ nI y from nI_ge (b := 12) hy (by omega)), cP16_2 hC', Option.bind_some, hsl, Option.bind_some, cL19 hC' rfl (show 6 * (12 * y + a) + 5 < 864 by omega), Option.bind_some, a1 a (Nat.le_refl _) hab y 5 hy (by omega), Option.bind_some, Option.bind_some, nI_1, hs]
    by_cases h : ccv lo hi b a y 5 < (bsO (fun y => ccv lo hi b a y 5) 1000 y).2
    · rw [if_pos h, if_neg (nI_ge h (by omega))]
      rfl
    · rw [if_neg h, if_pos (nI_le (by omega) (by omega))]
  · show bX5_bestStart_17 S' 16 (nI a) _ _ (nI 12) = _
    unfold bX5_bestStart_17
    rw [if_pos (by decide)]
/-- gates as they are told -/
def gok (D : Nat → Int32) (g : Nat) : Prop := (0 ≤ (D (3 * g)).toInt ∧ (D (3 * g)).toInt ≤ 11) ∧ (0 ≤ (D (3 * g + 1)).toInt ∧ (D (3 * g + 1)).toInt ≤ 11) ∧ (D (3 * g + 1)).toInt ≤ (D (3 * g + 2)).toInt ∧ (D (3 * g + 2)).toInt ≤ 11
def loG (D : Nat → Int32) : Nat → Nat → Nat
  | 0, _ => 0
  | g + 1, x => if x = (D (3 * g)).toNatClampNeg then max (loG D g x) (D (3 * g + 1)).toNatClampNeg else loG D g x
def hiG (D : Nat → Int32) : Nat → Nat → Nat
  | 0, _ => 11
  | g + 1, x => if x = (D (3 * g)).toNatClampNeg then min (hiG D g x) (D (3 * g + 2)).toNatClampNeg else hiG D g x
theorem gok_i {D : Nat → Int32} {g : Nat} (h : gok D g) : ∃ x l u, x < 12 ∧ l < 12 ∧ u < 12 ∧ l ≤ u ∧ D (3 * g) = nI x ∧ D (3 * g + 1) = nI l ∧ D (3 * g + 2) = nI u := by
  obtain ⟨h1, h2, h3, h4⟩ := h
  obtain ⟨x, hx, ex⟩ := i_nI (n := 12) h1.1 (by omega)
  obtain ⟨l, hl, el⟩ := i_nI (n := 12) h2.1 (by omega)
  obtain ⟨u, hu, eu⟩ := i_nI (x := D (3 * g + 2)) (n := 12) (by omega) (by omega)
  rw [el, eu, nI_toInt (by omega), nI_toInt (by omega)] at h3
  exact ⟨x, l, u, hx, hl, hu, by omega, ex, el, eu⟩
theorem n3 (i g : Nat) : nI i + (3 : Int32) * nI g = nI (i + 3 * g) := by rw [show (3 : Int32) = nI 3 from rfl, nI_mul, nI_add]
theorem C_takesGates {k i n : Nat} {D : Nat → Int32} (hC : CS S) (hk : k < 4) (hi : i + 3 * n ≤ 60) (hD : ∀ j, j < 3 * n → m_I S (44 + 2 * k) (i + j) = D j) : ∃ (r : Int32) (S' : MS), fX5_takesGates S 16 (44 + 2 * k) (nI i) (nI n) = some (r, S') ∧ FrC S S' [17, 18] [] [] ∧ (r = 1 ∧ (∀ g, g < n → gok D g) ∧ gts S' (loG D n) (hiG D n) ∨ r = 0 ∧ ¬ ∀ g, g < n → gok D g) := by
  have hl17 : m_L S 17 = 12 := (hC.2.1 17 (by decide) (by decide)).2
  have hl18 : m_L S 18 = 12 := (hC.2.1 18 (by decide) (by decide)).2
  have q1 : fJ7_fill_53178 S 17 0 = some (m_sI S 17 (fil (m_I S 17) 0 12 (fun _ => 0))) := C_fill (hC.at 17 (by decide) (by decide)) hl17 (by decide)
  generalize hT : m_sI S 17 (fil (m_I S 17) 0 12 (fun _ => 0)) = T at q1
  have CT : CS T := by rw [← hT]; exact hC
  have fT : FrC S T [17, 18] [] [] := by rw [← hT]; exact FrC.sI (by decide) (by simp)
  have q2 : fJ7_fill_53178 T 18 11 = some (m_sI T 18 (fil (m_I T 18) 0 12 (fun _ => 11))) := C_fill (CT.at 18 (by decide) (by decide)) (CT.2.1 18 (by decide) (by decide)).2 (by decide)
  generalize hU : m_sI T 18 (fil (m_I T 18) 0 12 (fun _ => 11)) = U at q2
  have CU : CS U := by rw [← hU]; exact CT
  have fU : FrC T U [17, 18] [] [] := by rw [← hU]; exact FrC.sI (by decide) (by simp)
  have g0 : gts U (loG D 0) (hiG D 0) := fun x hx => by
    refine ⟨?_, ?_, by show (0 : Nat) < 12; omega, by show (11 : Nat) < 12; omega⟩
    · rw [← hU, mI_ne (by decide), ← hT, mI_same]
      have := fil_i (f := m_I S 17) (lo := 0) (n := 12) (i := x) (g := fun _ => 0) hx
      rw [Nat.zero_add] at this
      exact this
    · rw [← hU, mI_same]
      have := fil_i (f := m_I T 18) (lo := 0) (n := 12) (i := x) (g := fun _ => 11) hx
      rw [Nat.zero_add] at this
      exact this
  have fSU : FrC S U [17, 18] [] [] := fT.tr fU
  have head : fX5_takesGates S 16 (44 + 2 * k) (nI i) (nI n) = lim sX5_takesGates (16, 44 + 2 * k, nI i, nI n, nI 0, U) := by
    unfold fX5_takesGates bX5_takesGates_0
    rw [cP16_0 hC, Option.bind_some, q1, Option.bind_some, cP16_1 CT, Option.bind_some, q2, Option.bind_some, fin_l]
    rfl
  have rd : ∀ (S1 : MS), FrC S S1 [17, 18] [] [] → ∀ j, j < 3 * n → o_ld S1 (44 + 2 * k) 12 (nI (i + j)) = some (D j) := fun S1 f j hj => by
    have C1 : CS S1 := hC.fr f (by simp) (by simp)
    rw [at_ld (cAt44 C1 k hk) (cLn44 C1 k hk) (by decide) rfl (by omega), f.row hC (a := 44 + 2 * k) (by omega) (by omega) (by simp; omega), hD j hj]
  have step : ∀ (g : Nat) (S1 : MS), g < n → FrC S S1 [17, 18] [] [] → gts S1 (loG D g) (hiG D g) → gok D g → ∃ S2, sX5_takesGates (16, 44 + 2 * k, nI i, nI n, nI g, S1) = some (.inl (16, 44 + 2 * k, nI i, nI n, nI (g + 1), S2)) ∧ FrC S S2 [17, 18] [] [] ∧ gts S2 (loG D (g + 1)) (hiG D (g + 1)) := by
    intro g S1 hgn f hgt hok
    have C1 : CS S1 := hC.fr f (by simp) (by simp)
    obtain ⟨x, l, u, hx, hl, hu, hlu, ex, el, eu⟩ := gok_i hok
    have r0 := rd S1 f (3 * g) (by omega)
    have r1 := rd S1 f (3 * g + 1) (by omega)
    have r2 := rd S1 f (3 * g + 2) (by omega)
    rw [ex] at r0
    rw [el] at r1
    rw [eu] at r2
    have e1 : nI (i + 3 * g) + 1 = nI (i + (3 * g + 1)) := nI_1 _
    have e2 : nI (i + 3 * g) + 2 = nI (i + (3 * g + 2)) := nI_add _ 2
    obtain ⟨a1, a2, a3, a4⟩ := hgt x hx
    have p1 : bPl (nI x) (nI l) = 1 := bPl_t (by rw [nI_toInt (by omega), nI_toInt (by omega)]; omega)
    have p2 : bPl (nI x) (nI u) = 1 := bPl_t (by rw [nI_toInt (by omega), nI_toInt (by omega)]; omega)
    refine ⟨m_sI (m_sI S1 17 (upd (m_I S1 17) x (nI (max (loG D g x) l)))) 18 (upd (m_I S1 18) x (nI (min (hiG D g x) u))), ?_, f.tr ((FrC.sI (by decide) (by simp)).tr (FrC.sI (by decide) (by simp))), fun x' hx' => ?_⟩
    · show bX5_takesGates_20 S1 16 (44 + 2 * k) (nI i) (nI n) (nI g) = _
      have C2 : ∀ f : Nat → Int32, CS (m_sI S1 17 f) := fun _ => C1
      unfold bX5_takesGates_20
      simp only [if_neg (nI_ge hgn (show n < 2 ^ 31 by omega)), n3, e1, e2, r0, r1, r2, Option.bind_some, C_isPlace, p1, p2, e10, if_false, if_pos (nI_le hlu (show u < 2 ^ 31 by omega)), cP16_0 C1, cL17 C1 rfl hx, a1, C_max, mx_i (show loG D g x < 2 ^ 31 by omega) (show l < 2 ^ 31 by omega), cS17 C1 rfl hx]
      have h18 : m_I (m_sI S1 17 (upd (m_I S1 17) x (nI (max (loG D g x) l)))) 18 = m_I S1 18 := mI_ne (by decide)
      generalize hS2 : m_sI S1 17 (upd (m_I S1 17) x (nI (max (loG D g x) l))) = S2 at h18
      have C2 : CS S2 := by rw [← hS2]; exact C1
      simp only [cP16_1 C2, cL18 C2 rfl hx, h18, a2, C_min, mn_i (show hiG D g x < 2 ^ 31 by omega) (show u < 2 ^ 31 by omega), cS18 C2 rfl hx, Option.bind_some, nI_1]
    · have cx : (D (3 * g)).toNatClampNeg = x := by rw [ex, nI_clamp (by omega)]
      have cl : (D (3 * g + 1)).toNatClampNeg = l := by rw [el, nI_clamp (by omega)]
      have cu : (D (3 * g + 2)).toNatClampNeg = u := by rw [eu, nI_clamp (by omega)]
      obtain ⟨b1, b2, b3, b4⟩ := hgt x' hx'
      rw [mI_ne (by decide), mI_same, mI_same]
      have s1 : loG D (g + 1) x' = if x' = x then max (loG D g x') l else loG D g x' := by
        show (if x' = (D (3 * g)).toNatClampNeg then max (loG D g x') (D (3 * g + 1)).toNatClampNeg else loG D g x') = _
        rw [cx, cl]
      have s2 : hiG D (g + 1) x' = if x' = x then min (hiG D g x') u else hiG D g x' := by
        show (if x' = (D (3 * g)).toNatClampNeg then min (hiG D g x') (D (3 * g + 2)).toNatClampNeg else hiG D g x') = _
        rw [cx, cu]
      rw [s1, s2]
      by_cases hxx : x' = x
      · subst hxx
        rw [if_pos rfl, if_pos rfl, upd_s, upd_s]
        exact ⟨rfl, rfl, by omega, by omega⟩
      · rw [if_neg hxx, if_neg hxx, upd_n hxx, upd_n hxx]
        exact ⟨b1, b2, b3, b4⟩
  rcases fbad (P := fun g => gok D g) n with hall | ⟨g, hg1, hg2, hg3⟩
  · obtain ⟨s, ⟨S', hs, f, k1⟩, he⟩ := lim_inv (step := sX5_takesGates) (K := fun g s => ∃ S', s = (16, 44 + 2 * k, nI i, nI n, nI g, S') ∧ FrC S S' [17, 18] [] [] ∧ gts S' (loG D g) (hiG D g)) n (s0 := (16, 44 + 2 * k, nI i, nI n, nI 0, U)) ⟨U, rfl, fSU, g0⟩ (fun g hg s hs => by
      obtain ⟨S', rfl, f, k1⟩ := hs
      obtain ⟨S2, e, f2, k2⟩ := step g S' hg f k1 (hall g hg)
      exact ⟨_, e, S2, rfl, f2, k2⟩)
    refine ⟨1, S', ?_, f, .inl ⟨rfl, hall, k1⟩⟩
    rw [head, he, hs]
    apply lim_end
    show bX5_takesGates_20 S' 16 (44 + 2 * k) (nI i) (nI n) (nI n) = _
    unfold bX5_takesGates_20
    rw [if_pos (nI_le (Nat.le_refl _) (by omega))]
  · obtain ⟨s, ⟨S', hs, f, k1⟩, he⟩ := lim_inv (step := sX5_takesGates) (K := fun g s => ∃ S', s = (16, 44 + 2 * k, nI i, nI n, nI g, S') ∧ FrC S S' [17, 18] [] [] ∧ gts S' (loG D g) (hiG D g)) g (s0 := (16, 44 + 2 * k, nI i, nI n, nI 0, U)) ⟨U, rfl, fSU, g0⟩ (fun m hm s hs => by
      obtain ⟨S', rfl, f, k1⟩ := hs
      obtain ⟨S2, e, f2, k2⟩ := step m S' (by omega) f k1 (hg3 m hm)
      exact ⟨_, e, S2, rfl, f2, k2⟩)
    refine ⟨0, S', ?_, f, .inr ⟨rfl, fun q => hg2 (q g hg1)⟩⟩
    rw [head, he, hs]
    apply lim_end
    show bX5_takesGates_20 S' 16 (44 + 2 * k) (nI i) (nI n) (nI g) = _
    have e1 : nI (i + 3 * g) + 1 = nI (i + (3 * g + 1)) := nI_1 _
    have e2 : nI (i + 3 * g) + 2 = nI (i + (3 * g + 2)) := nI_add _ 2
    unfold bX5_takesGates_20 bX5_takesGates_87
    simp only [if_neg (nI_ge hg1 (show n < 2 ^ 31 by omega)), n3, e1, e2, rd S' f (3 * g) (by omega), rd S' f (3 * g + 1) (by omega), rd S' f (3 * g + 2) (by omega), Option.bind_some, C_isPlace]
    by_cases p1 : bPl (D (3 * g)) (D (3 * g + 1)) = 0
    · rw [if_pos p1]
    · rw [if_neg p1]
      by_cases p2 : bPl (D (3 * g)) (D (3 * g + 2)) = 0
      · rw [if_pos p2]
      · rw [if_neg p2]
        unfold bPl at p1 p2
        rw [bz_0, Decidable.not_not] at p1 p2
        rw [if_neg (fun q => hg2 ⟨p1.1, p1.2, by rw [i_le] at q; exact q, p2.2.2⟩)]
end PN
