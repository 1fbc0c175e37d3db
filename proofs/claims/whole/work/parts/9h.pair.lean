/-! what a pair of fronts costs, both sides -/
section PA
variable {S S' : MS} {I I' : Nat → Nat → Int32} {J : Nat → Nat → Int64} {c d f g : Nat}
def zI (z : Int) : Int32 := Int32.ofInt z
theorem zI_t {z : Int} (h1 : -2147483648 ≤ z) (h2 : z < 2147483648) : (zI z).toInt = z := Int32.toInt_ofInt_of_le h1 h2
theorem zI_add (a b : Int) : zI a + zI b = zI (a + b) := (Int32.ofInt_add a b).symm
theorem zI_sub (a b : Int) : zI a - zI b = zI (a - b) := (Int32.ofInt_sub a b).symm
theorem zI_mul (a b : Int) : zI a * zI b = zI (a * b) := (Int32.ofInt_mul a b).symm
theorem zI_n (n : Nat) : zI (n : Int) = nI n := rfl
def du (u v : Nat) : Nat := if u ≤ v then v - u else u - v
def jin (a b a' b' x : Nat) : Prop := (a ≤ x ∧ x ≤ b) ∧ a' ≤ x ∧ x ≤ b'
noncomputable def jsm (a b a' b' : Nat) (u v : Nat → Nat) : Nat → Nat
  | 0 => 0
  | x + 1 => jsm a b a' b' u v x + @ite Nat (jin a b a' b' x) (Classical.propDecidable _) (du (u x) (v x)) 0
def jq (I : Nat → Nat → Int32) (f x : Nat) : Nat := (I 26 (12 * f + x)).toNatClampNeg
def jW (I : Nat → Nat → Int32) (f : Nat) : Nat := (I 23 f).toNatClampNeg
def jE (I : Nat → Nat → Int32) (f : Nat) : Nat := (I 24 f).toNatClampNeg
noncomputable def jcG (big : Int) (I : Nat → Nat → Int32) (f g : Nat) : Int := if I 22 f = I 22 g ∧ max (jW I f) (jW I g) ≤ min (jE I f) (jE I g) then (jsm (jW I f) (jE I f) (jW I g) (jE I g) (jq I f) (jq I g) 12 : Nat) else big
def frI (I : Nat → Nat → Int32) (f : Nat) : Prop := ∃ a b, a < b ∧ b < 12 ∧ I 23 f = nI a ∧ I 24 f = nI b ∧ ∀ x, a ≤ x → x ≤ b → ∃ y, y < 12 ∧ I 26 (12 * f + x) = nI y
theorem frC.i (h : frC S I c f) : frI I f := by
  obtain ⟨q, -, -, -, -, -, -, a, b, h1, h2, h3, h4, h5⟩ := h
  exact ⟨a, b, h1, h2, h3, h4, fun x h6 h7 => (h5 x h6 h7).2⟩
theorem frI.s (h : frI I f) : I 23 f = nI (jW I f) ∧ I 24 f = nI (jE I f) ∧ jW I f < jE I f ∧ jE I f < 12 ∧ ∀ x, jW I f ≤ x → x ≤ jE I f → jq I f x < 12 ∧ I 26 (12 * f + x) = nI (jq I f x) := by
  obtain ⟨a, b, h1, h2, h3, h4, h5⟩ := h
  have e1 : jW I f = a := by unfold jW; rw [h3]; exact nI_clamp (by omega)
  have e2 : jE I f = b := by unfold jE; rw [h4]; exact nI_clamp (by omega)
  rw [e1, e2]
  refine ⟨h3, h4, h1, h2, fun x h6 h7 => ?_⟩
  obtain ⟨y, hy, e⟩ := h5 x h6 h7
  have e3 : jq I f x = y := by unfold jq; rw [e]; exact nI_clamp (by omega)
  rw [e3]
  exact ⟨hy, e⟩
theorem du_i {u v : Nat} (hu : u < 12) (hv : v < 12) : ab (nI u - nI v) = nI (du u v) := ab_sub (by omega) (by omega)
theorem du_b {u v : Nat} (hu : u < 12) (hv : v < 12) : du u v ≤ 11 := by unfold du; split <;> omega
theorem jsm_b {a b a' b' : Nat} {u v : Nat → Nat} (h : ∀ x, jin a b a' b' x → u x < 12 ∧ v x < 12) (x : Nat) : jsm a b a' b' u v x ≤ 11 * x := by
  induction x with
  | zero => exact Nat.le_refl _
  | succ x ih =>
    unfold jsm
    by_cases hj : jin a b a' b' x
    · have := du_b (h x hj).1 (h x hj).2
      rw [if_pos hj]; omega
    · rw [if_neg hj]; omega
theorem jsm_0 {a b a' b' : Nat} {u v : Nat → Nat} (x : Nat) (h : ∀ y, y < x → ¬ jin a b a' b' y) : jsm a b a' b' u v x = 0 := by
  induction x with
  | zero => rfl
  | succ x ih =>
    unfold jsm
    rw [ih (fun y hy => h y (by omega)), if_neg (h x (by omega))]
theorem jsm_e {a b a' b' : Nat} {u v : Nat → Nat} (x k : Nat) (h : ∀ y, x ≤ y → y < x + k → ¬ jin a b a' b' y) : jsm a b a' b' u v (x + k) = jsm a b a' b' u v x := by
  induction k with
  | zero => rfl
  | succ k ih =>
    show jsm a b a' b' u v (x + k) + _ = _
    rw [ih (fun y h1 h2 => h y h1 (by omega)), if_neg (show ¬ jin a b a' b' (x.add k) from h (x + k) (by omega) (by omega)), Nat.add_zero]
theorem jsm_y {a b a' b' x : Nat} {u v : Nat → Nat} (h : jin a b a' b' x) : jsm a b a' b' u v (x + 1) = jsm a b a' b' u v x + du (u x) (v x) := by
  show _ + @ite Nat _ (Classical.propDecidable _) _ _ = _
  rw [if_pos h]
theorem jcG_b (hf : frI I f) (hg : frI I g) (big : Int) : (0 ≤ jcG big I f g ∧ jcG big I f g ≤ 132 ∧ ∀ b', jcG b' I f g = jcG big I f g) ∨ ∀ b', jcG b' I f g = b' := by
  obtain ⟨-, -, -, -, f5⟩ := hf.s
  obtain ⟨-, -, -, -, g5⟩ := hg.s
  by_cases h : I 22 f = I 22 g ∧ max (jW I f) (jW I g) ≤ min (jE I f) (jE I g)
  · left
    unfold jcG
    rw [if_pos h]
    have := jsm_b (a := jW I f) (b := jE I f) (a' := jW I g) (b' := jE I g) (u := jq I f) (v := jq I g) (fun x hx => ⟨(f5 x hx.1.1 hx.1.2).1, (g5 x hx.2.1 hx.2.2).1⟩) 12
    refine ⟨by omega, by omega, fun b' => by rw [if_pos h]⟩
  · right
    intro b'
    unfold jcG
    rw [if_neg h]
theorem R_costOf (hf5 : f < 5) (hg5 : g < 5) (hf : frI I f) (hg : frI I (5 + g)) : fX10_costOf (mkR I J) 1 (nI f) (nI g) = some (zI (jcG 1000000 I f (5 + g))) := by
  obtain ⟨f1, f2, f3, f4, f5⟩ := hf.s
  obtain ⟨g1, g2, g3, g4, g5⟩ := hg.s
  have n5 : (5 : Int32) + nI g = nI (5 + g) := nI_add 5 g
  have n12 : ∀ f x, (12 : Int32) * nI f + nI x = nI (12 * f + x) := fun f x => by rw [show (12 : Int32) = nI 12 from rfl, nI_mul, nI_add]
  unfold fX10_costOf bX10_costOf_0
  rw [fin_l]
  have h0 : ((1 : Nat), nI f, nI g, (0 : Int32), (0 : Int32), (0 : Int32)) = (1, nI f, nI g, nI (jsm (jW I f) (jE I f) (jW I (5 + g)) (jE I (5 + g)) (jq I f) (jq I (5 + g)) 0), fl (∃ x, x < 0 ∧ jin (jW I f) (jE I f) (jW I (5 + g)) (jE I (5 + g)) x), nI 0) := by
    rw [fl_f (fun ⟨x, hx, _⟩ => by omega)]
    rfl
  rw [h0]
  refine lim_it2 (step := sX10_costOf (mkR I J)) (st := fun x => (1, nI f, nI g, nI (jsm (jW I f) (jE I f) (jW I (5 + g)) (jE I (5 + g)) (jq I f) (jq I (5 + g)) x), fl (∃ y, y < x ∧ jin (jW I f) (jE I f) (jW I (5 + g)) (jE I (5 + g)) y), nI x)) 12 (fun x hx => ?_) ?_
  · show bX10_costOf_8 (mkR I J) 1 (nI f) (nI g) (nI (jsm (jW I f) (jE I f) (jW I (5 + g)) (jE I (5 + g)) (jq I f) (jq I (5 + g)) x)) (fl (∃ y, y < x ∧ jin (jW I f) (jE I f) (jW I (5 + g)) (jE I (5 + g)) y)) (nI x) = _
    have skip : ¬ jin (jW I f) (jE I f) (jW I (5 + g)) (jE I (5 + g)) x → ∀ A : Int32 → Int32 → Option ((Nat × Int32 × Int32 × Int32 × Int32 × Int32) ⊕ Int32), A (nI (jsm (jW I f) (jE I f) (jW I (5 + g)) (jE I (5 + g)) (jq I f) (jq I (5 + g)) x)) (fl (∃ y, y < x ∧ jin (jW I f) (jE I f) (jW I (5 + g)) (jE I (5 + g)) y)) = A (nI (jsm (jW I f) (jE I f) (jW I (5 + g)) (jE I (5 + g)) (jq I f) (jq I (5 + g)) (x + 1))) (fl (∃ y, y < x + 1 ∧ jin (jW I f) (jE I f) (jW I (5 + g)) (jE I (5 + g)) y)) := fun h A => by
      rw [show jsm (jW I f) (jE I f) (jW I (5 + g)) (jE I (5 + g)) (jq I f) (jq I (5 + g)) (x + 1) = jsm (jW I f) (jE I f) (jW I (5 + g)) (jE I (5 + g)) (jq I f) (jq I (5 + g)) x from jsm_e x 1 (fun y h1 h2 => by rw [show y = x by omega]; exact h), fl_c (P := ∃ y, y < x ∧ jin (jW I f) (jE I f) (jW I (5 + g)) (jE I (5 + g)) y) (Q := ∃ y, y < x + 1 ∧ jin (jW I f) (jE I f) (jW I (5 + g)) (jE I (5 + g)) y) ⟨fun ⟨y, a, b⟩ => ⟨y, by omega, b⟩, fun ⟨y, a, b⟩ => ⟨y, by
        have : y ≠ x := fun q => h (by rw [← q]; exact b)
        omega, b⟩⟩]
    have hs : jsm (jW I f) (jE I f) (jW I (5 + g)) (jE I (5 + g)) (jq I f) (jq I (5 + g)) (x + 1) = jsm (jW I f) (jE I f) (jW I (5 + g)) (jE I (5 + g)) (jq I f) (jq I (5 + g)) x + @ite Nat (jin (jW I f) (jE I f) (jW I (5 + g)) (jE I (5 + g)) x) (Classical.propDecidable _) (du (jq I f x) (jq I (5 + g) x)) 0 := rfl
    generalize jsm (jW I f) (jE I f) (jW I (5 + g)) (jE I (5 + g)) (jq I f) (jq I (5 + g)) x = s0 at *
    generalize jsm (jW I f) (jE I f) (jW I (5 + g)) (jE I (5 + g)) (jq I f) (jq I (5 + g)) (x + 1) = s1 at *
    unfold bX10_costOf_8 bX10_costOf_101
    rw [if_neg (show ¬ (12 : Int32) ≤ nI x from nI_ge (b := 12) hx (by omega)), rP30, Option.bind_some, rL23 rfl (by omega), f1, Option.bind_some, rP31, Option.bind_some, rL24 rfl (by omega), f2, Option.bind_some, R_in, i_l, i_l, i_l, nI_toInt (by omega), nI_toInt (by omega), nI_toInt (by omega), Option.bind_some, nI_1]
    by_cases h1 : ((jW I f : Nat) : Int) ≤ x ∧ (x : Int) ≤ (jE I f : Nat)
    · rw [bz_t h1, if_neg (by decide)]
      simp only [Option.bind_some]
      rw [n5, rL23 rfl (by omega), g1, Option.bind_some, rL24 rfl (by omega), g2, Option.bind_some, R_in, i_l, i_l, i_l, nI_toInt (by omega), nI_toInt (by omega), nI_toInt (by omega), Option.bind_some]
      by_cases h2 : ((jW I (5 + g) : Nat) : Int) ≤ x ∧ (x : Int) ≤ (jE I (5 + g) : Nat)
      · have hj : jin (jW I f) (jE I f) (jW I (5 + g)) (jE I (5 + g)) x := ⟨by omega, by omega⟩
        obtain ⟨u1, u2⟩ := f5 x (by omega) (by omega)
        obtain ⟨v1, v2⟩ := g5 x (by omega) (by omega)
        rw [if_pos hj] at hs
        rw [bz_t h2, if_neg (by decide), rP33, Option.bind_some, n12, rL26 rfl (by omega), u2, Option.bind_some, Option.bind_some, n12, rL26 rfl (by omega), v2, Option.bind_some, R_sizeOf, du_i u1 v1, Option.bind_some, nI_add, ← hs, fl_t (P := ∃ y, y < x + 1 ∧ jin (jW I f) (jE I f) (jW I (5 + g)) (jE I (5 + g)) y) ⟨x, by omega, hj⟩]
      · rw [bz_f h2, if_pos rfl]
        exact skip (fun q => h2 ⟨by have := q.2.1; omega, by have := q.2.2; omega⟩) (fun a b => some (.inl (1, nI f, nI g, a, b, nI (x + 1))))
    · rw [bz_f h1, if_pos rfl]
      exact skip (fun q => h1 ⟨by have := q.1.1; omega, by have := q.1.2; omega⟩) (fun a b => some (.inl (1, nI f, nI g, a, b, nI (x + 1))))
  · show bX10_costOf_8 (mkR I J) 1 (nI f) (nI g) (nI (jsm (jW I f) (jE I f) (jW I (5 + g)) (jE I (5 + g)) (jq I f) (jq I (5 + g)) 12)) (fl (∃ y, y < 12 ∧ jin (jW I f) (jE I f) (jW I (5 + g)) (jE I (5 + g)) y)) (nI 12) = _
    unfold bX10_costOf_8 bX10_costOf_133 bX10_costOf_136 jcG
    rw [if_pos (by decide)]
    have hm : (∃ y, y < 12 ∧ jin (jW I f) (jE I f) (jW I (5 + g)) (jE I (5 + g)) y) ↔ max (jW I f) (jW I (5 + g)) ≤ min (jE I f) (jE I (5 + g)) := ⟨fun ⟨y, h1, h2⟩ => by
      have := h2.1; have := h2.2
      omega, fun q => ⟨max (jW I f) (jW I (5 + g)), by omega, ⟨by omega, by omega⟩, by omega, by omega⟩⟩
    by_cases h1 : ∃ y, y < 12 ∧ jin (jW I f) (jE I f) (jW I (5 + g)) (jE I (5 + g)) y
    · rw [fl_t h1, if_neg (by decide), rP29, Option.bind_some, rL22 rfl (by omega), Option.bind_some, Option.bind_some, n5, rL22 rfl (by omega), Option.bind_some]
      by_cases h2 : I 22 f = I 22 (5 + g)
      · rw [if_pos h2, if_pos ⟨h2, hm.mp h1⟩]; rfl
      · rw [if_neg h2, if_neg (fun q => h2 q.1)]; rfl
    · rw [fl_f h1, if_pos rfl, if_neg (fun q => h1 (hm.mpr q.2))]; rfl
theorem mx_n {a b : Nat} (ha : a < 2 ^ 31) (hb : b < 2 ^ 31) : mx (nI a) (nI b) = nI (max a b) := by
  unfold mx
  by_cases h : nI b < nI a
  · rw [if_pos h]
    rw [i_lt, nI_toInt ha, nI_toInt hb] at h
    rw [show max a b = a by omega]
  · rw [if_neg h]
    rw [i_lt, nI_toInt ha, nI_toInt hb] at h
    rw [show max a b = b by omega]
theorem mn_n {a b : Nat} (ha : a < 2 ^ 31) (hb : b < 2 ^ 31) : mn (nI a) (nI b) = nI (min a b) := by
  unfold mn
  by_cases h : nI a < nI b
  · rw [if_pos h]
    rw [i_lt, nI_toInt ha, nI_toInt hb] at h
    rw [show min a b = a by omega]
  · rw [if_neg h]
    rw [i_lt, nI_toInt ha, nI_toInt hb] at h
    rw [show min a b = b by omega]
theorem C_pairCost (h1 : frC S I c f) (h2 : frC S I d g) : fX4_pairCost S c d = some (zI (jcG 1000 I f g)) := by
  obtain ⟨f1, f2, f3, f4, f5⟩ := h1.i.s
  obtain ⟨g1, g2, g3, g4, g5⟩ := h2.i.s
  obtain ⟨q, -, ca, cp, qa, ql, ⟨k0, k1, k2, -⟩, a, b, hab, hb, e1, e2, hq⟩ := h1
  obtain ⟨q', -, ca', cp', qa', ql', ⟨k0', k1', k2', -⟩, a', b', hab', hb', e1', e2', hq'⟩ := h2
  rw [f1] at k1 e1
  rw [f2] at k2 e2
  rw [g1] at k1' e1'
  rw [g2] at k2' e2'
  have ea := (nI_eq (by omega) (by omega)).mp e1
  have eb := (nI_eq (by omega) (by omega)).mp e2
  have ea' := (nI_eq (by omega) (by omega)).mp e1'
  have eb' := (nI_eq (by omega) (by omega)).mp e2'
  unfold fX4_pairCost bX4_pairCost_0 bX4_pairCost_40 jcG
  rw [at_gI ca, Option.bind_some, at_gI ca', Option.bind_some, k1, k1', C_max, mx_n (by omega) (by omega), Option.bind_some, at_gI ca, Option.bind_some, at_gI ca', Option.bind_some, k2, k2', C_min, mn_n (by omega) (by omega), Option.bind_some, at_gI ca, Option.bind_some, at_gI ca', Option.bind_some, k0, k0']
  by_cases hk : I 22 f = I 22 g
  · rw [if_pos hk]
    by_cases hw : max (jW I f) (jW I g) ≤ min (jE I f) (jE I g)
    · rw [if_pos (nI_le hw (by omega)), if_pos ⟨hk, hw⟩, fin_l]
      obtain ⟨w, hwe⟩ : ∃ w, w = max (jW I f) (jW I g) := ⟨_, rfl⟩
      obtain ⟨z, hze⟩ : ∃ z, z = min (jE I f) (jE I g) := ⟨_, rfl⟩
      rw [← hwe, ← hze] at hw ⊢
      have j0 : jsm (jW I f) (jE I f) (jW I g) (jE I g) (jq I f) (jq I g) w = 0 := jsm_0 w (fun y hy q => by
        have := q.1.1; have := q.2.1
        omega)
      have j12 : jsm (jW I f) (jE I f) (jW I g) (jE I g) (jq I f) (jq I g) 12 = jsm (jW I f) (jE I f) (jW I g) (jE I g) (jq I f) (jq I g) (w + (z + 1 - w)) := by
        have := jsm_e (a := jW I f) (b := jE I f) (a' := jW I g) (b' := jE I g) (u := jq I f) (v := jq I g) (z + 1) (12 - (z + 1)) (fun y h1 h2 q => by
          have := q.1.2; have := q.2.2
          omega)
        rw [show z + 1 + (12 - (z + 1)) = 12 by omega] at this
        rw [show w + (z + 1 - w) = z + 1 by omega]
        exact this
      have h0 : (c, d, nI z, (0 : Int32), nI w) = (c, d, nI z, nI (jsm (jW I f) (jE I f) (jW I g) (jE I g) (jq I f) (jq I g) (w + 0)), nI (w + 0)) := by
        rw [Nat.add_zero w, j0]
        rfl
      rw [h0]
      refine lim_it2 (step := sX4_pairCost S) (st := fun j => (c, d, nI z, nI (jsm (jW I f) (jE I f) (jW I g) (jE I g) (jq I f) (jq I g) (w + j)), nI (w + j))) (z + 1 - w) (fun j hj => ?_) ?_
      · show bX4_pairCost_50 S c d (nI z) (nI (jsm (jW I f) (jE I f) (jW I g) (jE I g) (jq I f) (jq I g) (w + j))) (nI (w + j)) = _
        have hjn : jin (jW I f) (jE I f) (jW I g) (jE I g) (w + j) := ⟨⟨by omega, by omega⟩, by omega, by omega⟩
        obtain ⟨u1, u2⟩ := f5 (w + j) hjn.1.1 hjn.1.2
        obtain ⟨v1, v2⟩ := g5 (w + j) hjn.2.1 hjn.2.2
        have hs : jsm (jW I f) (jE I f) (jW I g) (jE I g) (jq I f) (jq I g) (w + (j + 1)) = jsm (jW I f) (jE I f) (jW I g) (jE I g) (jq I f) (jq I g) (w + j) + du (jq I f (w + j)) (jq I g (w + j)) := by
          exact jsm_y hjn
        unfold bX4_pairCost_50
        rw [if_neg (show ¬ nI z < nI (w + j) by rw [i_lt, nI_toInt (by omega), nI_toInt (by omega)]; omega), at_gP ca cp, Option.bind_some, at_ld qa ql (by decide) rfl (by omega), Option.bind_some, at_gP ca' cp', Option.bind_some, at_ld qa' ql' (by decide) rfl (by omega), Option.bind_some, (hq (w + j) (by omega) (by omega)).1, (hq' (w + j) (by omega) (by omega)).1, u2, v2, C_abs, du_i u1 v1, Option.bind_some, nI_add, ← hs, nI_1, Option.bind_some, Option.bind_some]
        rfl
      · show bX4_pairCost_50 S c d (nI z) (nI (jsm (jW I f) (jE I f) (jW I g) (jE I g) (jq I f) (jq I g) (w + (z + 1 - w)))) (nI (w + (z + 1 - w))) = _
        unfold bX4_pairCost_50
        rw [if_pos (show nI z < nI (w + (z + 1 - w)) by rw [i_lt, nI_toInt (by omega), nI_toInt (by omega)]; omega), j12]
        rfl
    · rw [if_neg (nI_ge (by omega) (by omega)), if_neg (fun q => hw q.2), fin_r]
      rfl
  · rw [if_neg hk, if_neg (fun q => hk q.1), fin_r]
    rfl
end PA
