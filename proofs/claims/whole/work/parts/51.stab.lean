/-! what keeps posts and wires -/
theorem lim_inv {σ ρ : Type} {step : σ → Option (σ ⊕ ρ)} (K : Nat → σ → Prop) (n : Nat) {s0 : σ} (h0 : K 0 s0) (hs : ∀ j, j < n → ∀ s, K j s → ∃ s', step s = some (.inl s') ∧ K (j + 1) s') : ∃ s, K n s ∧ lim step s0 = lim step s := by
  induction n with
  | zero => exact ⟨s0, h0, rfl⟩
  | succ n ih =>
    obtain ⟨s, h1, h2⟩ := ih (fun j hj => hs j (by omega))
    obtain ⟨s', h3, h4⟩ := hs n (by omega) s h1
    exact ⟨s', h4, by rw [h2, lim_eq, h3, fin_l]⟩
/-- a frame that leaves what was made (cells above 50) alone -/
def Fx (S S' : MS) (PI PL : List Nat) : Prop := (∀ a ∈ PI, a ≤ 50) ∧ ∀ a ∈ PL, m_K S a = 0 ∨ m_K S a = 15 ∨ a ≤ 1
theorem FrC.hi {S S' : MS} {PI Q PL : List Nat} (hf : FrC S S' PI Q PL) (hx : Fx S S' PI PL) {a k : Nat} (ha : m_at S a k) (h : 50 < a) : m_I S' a = m_I S a := (hf.2.1 a ha.1 ha.2.1).2.2.1 (by omega) (fun q => by have := hx.1 a q; omega)
theorem FrC.hiP {S S' : MS} {PI Q PL : List Nat} (hf : FrC S S' PI Q PL) (hx : Fx S S' PI PL) {a k : Nat} (ha : m_at S a k) (h : 1 < a) (hk : 0 < k ∧ k < 15) : m_P S' a = m_P S a := (hf.2.1 a ha.1 ha.2.1).2.2.2 (fun q => by
  have h1 := hx.2 a q
  rw [ha.2.2] at h1
  omega)
section ST
variable {S S' : MS} {I I' : Nat → Nat → Int32} {np nw ep ew : Nat} {ps ws : Nat → Nat} {PI Q PL : List Nat}
theorem Pos.fr (h : Pos S I np ep ps) (hf : FrC S S' PI Q PL) (hx : Fx S S' PI PL) (h1 : 3 ∉ PI) (h2 : 3 ∉ PL) (h3 : ep = 0 ∨ ep ∉ PL) (h4 : I' 1 1 = I 1 1) (h5 : ∀ r, 2 ≤ r → r ≤ 7 → I' r = I r) : Pos S' I' np ep ps := by
  obtain ⟨a1, a2, a3, a4⟩ := h
  refine ⟨a1, h4.trans a2, a3.fr hf (by decide) h1 h2 h3, fun p hp => ?_⟩
  obtain ⟨b1, b2⟩ := a4 p hp
  refine ⟨?_, ?_⟩
  · unfold poC
    rw [hf.hi hx (a3.2.2 p hp).2 b1.1, h5 2 (by omega) (by omega), h5 3 (by omega) (by omega), h5 4 (by omega) (by omega), h5 5 (by omega) (by omega), h5 6 (by omega) (by omega), h5 7 (by omega) (by omega)]
    exact b1
  · unfold poR
    rw [h5 2 (by omega) (by omega), h5 3 (by omega) (by omega), h5 4 (by omega) (by omega), h5 5 (by omega) (by omega), h5 6 (by omega) (by omega), h5 7 (by omega) (by omega)]
    exact b2
theorem Wd.fr {a q : Nat} (h : Wd S a q) (hf : FrC S S' PI Q PL) (hx : Fx S S' PI PL) (ha : 50 < a) (hq : 50 < q) : Wd S' a q := by
  obtain ⟨h1, h2, h3, h4, h5⟩ := h
  refine ⟨h1.fr hf, ?_, h3.fr hf, ?_, ?_⟩
  · rw [hf.hiP hx h1 (by omega) (by omega)]
    exact h2
  · rw [(hf.2.1 q h3.1 h3.2.1).2.1]
    exact h4
  · rw [hf.hi hx h3 hq]
    exact h5
theorem Dig_c {w : Nat} (h : I' 11 = I 11) (g : Nat) : Dig I' w g = Dig I w g := by
  funext x
  unfold Dig
  rw [h]
theorem wiC.fr {np' a w : Nat} (h : wiC S I np a w) (hf : FrC S S' PI Q PL) (hx : Fx S S' PI PL) (h5 : ∀ p, p < np → I' 5 p = I 5 p) (h6 : np ≤ np') (h8 : I' 8 w = I 8 w) (h9 : I' 9 w = I 9 w) (h10 : I' 10 w = I 10 w) (h11 : ∀ x, x < 15 → I' 11 (15 * w + x) = I 11 (15 * w + x)) : wiC S' I' np' a w := by
  obtain ⟨q, c, ⟨b1, b2, b3⟩, b4, ⟨b5, b6, b7⟩, b8, b9, p, d1, d2, d3, d4, d5, d6⟩ := h
  have hD : ∀ g, g < 3 → RD (Dig I' w g) g = RD (Dig I w g) g := fun g hg => RD_c (fun x hx => by
    unfold Dig
    rw [Nat.add_assoc, h11 _ (by omega)]) g
  refine ⟨q, c, ⟨b1, b2, b3⟩, b4.fr hf hx b1 b2, ⟨?_, b6.fr hf, ?_⟩, ?_, ?_, p, by omega, ?_⟩
  · rw [hf.hiP hx b4.1 (by omega) (by omega)]
    exact b5
  · rw [(hf.2.1 c b6.1 b6.2.1).2.1]
    exact b7
  · intro x hx'
    rw [hf.hi hx b4.2.2.1 b2, h11 x hx']
    exact b8 x hx'
  · intro g hg
    rw [hf.hi hx b6 b3, hD g hg]
    exact b9 g hg
  · rw [hf.hi hx b4.1 b1, h8, h9, h10, h5 p d1]
    exact ⟨d2, d3, d4, d5, d6⟩
theorem wiR.st {w : Nat} (h : wiR I w) (h11 : ∀ x, x < 15 → I' 11 (15 * w + x) = I 11 (15 * w + x)) (h12 : I' 12 w = I 12 w) (h13 : I' 13 w = I 13 w) : wiR I' w := by
  have hD : RD (Dig I' w 1) 1 = RD (Dig I w 1) 1 := RD_c (fun x hx => by
    unfold Dig
    rw [Nat.add_assoc, h11 _ (by omega)]) 1
  have h1 : rmy I' w = rmy I w := by unfold rmy; rw [hD]
  have h2 : rf1 I' w = rf1 I w := by unfold rf1; rw [hD]
  unfold wiR
  rw [h1, h2, h12, h13]
  exact h
theorem Wir.fr {np' : Nat} (h : Wir S I np nw ew ws) (hf : FrC S S' PI Q PL) (hx : Fx S S' PI PL) (h1 : 4 ∉ PI) (h2 : 4 ∉ PL) (h3 : ew = 0 ∨ ew ∉ PL) (h4 : I' 1 8 = I 1 8) (h5 : ∀ p, p < np → I' 5 p = I 5 p) (h6 : np ≤ np') (h7 : ∀ r, 8 ≤ r → r ≤ 13 → I' r = I r) : Wir S' I' np' nw ew ws := by
  obtain ⟨a1, a2, a3, a4⟩ := h
  refine ⟨a1, h4.trans a2, a3.fr hf (by decide) h1 h2 h3, fun w hw => ?_⟩
  obtain ⟨b1, b2⟩ := a4 w hw
  have e : ∀ r k, 8 ≤ r → r ≤ 13 → I' r k = I r k := fun r k x y => by rw [h7 r x y]
  exact ⟨b1.fr hf hx h5 h6 (e 8 w (by omega) (by omega)) (e 9 w (by omega) (by omega)) (e 10 w (by omega) (by omega)) (fun x _ => e 11 _ (by omega) (by omega)), b2.st (fun x _ => e 11 _ (by omega) (by omega)) (e 12 w (by omega) (by omega)) (e 13 w (by omega) (by omega))⟩
end ST
/-- a wire that is the last of a post is of that post -/
theorem lw_post {I : Nat → Nat → Int32} {p n w : Nat} (h : lw I p n = some w) : ask I p w := by
  induction n generalizing w with
  | zero => cases h
  | succ n ih =>
    by_cases ha : ask I p n
    · rw [lw_t ha] at h
      cases hb : lw I p n with
      | none => rw [hb] at h; cases h; exact ha
      | some b =>
        rw [hb] at h
        simp only at h
        split at h
        · cases h; exact ih hb
        · cases h; exact ha
    · rw [lw_f ha] at h
      exact ih h
theorem sw_lt {I : Nat → Nat → Int32} {nw p w : Nat} (h : sw I nw p = some w) : w < nw ∧ ask I p w ∧ rmy I w ≠ 0 := by
  unfold sw at h
  cases hb : lw I p nw with
  | none => rw [hb] at h; cases h
  | some b =>
    rw [hb] at h
    simp only at h
    split at h
    · cases h
    · cases h
      exact ⟨lw_lt hb, lw_post hb, by assumption⟩
/-- the wire in view of a post -/
noncomputable def shn (I : Nat → Nat → Int32) (nw p : Nat) : Option Nat := if plc I p (I 1 15) = -9 then none else sw I nw p
noncomputable def inV (I : Nat → Nat → Int32) (nw p : Nat) : Bool := (shn I nw p).isSome
noncomputable def sur (I : Nat → Nat → Int32) (nw p : Nat) : Bool := match shn I nw p with
  | none => false
  | some w => rmy I w == 1
noncomputable def slv (I : Nat → Nat → Int32) (nw p : Nat) : Int32 := match shn I nw p with
  | none => 0
  | some w => lvl (I 5 p) (rf1 I w)
theorem shn_lt {I : Nat → Nat → Int32} {nw p w : Nat} (h : shn I nw p = some w) : w < nw ∧ ask I p w ∧ rmy I w ≠ 0 ∧ ¬ plc I p (I 1 15) = -9 := by
  unfold shn at h
  split at h
  · cases h
  · have := sw_lt h
    exact ⟨this.1, this.2.1, this.2.2, by assumption⟩
/-- the desk as it was last looked over -/
def Dsk (S : MS) (I : Nat → Nat → Int32) (np nw : Nat) : Prop := (m_I S 2 2 = I 1 15 ∧ m_I S 2 3 = I 1 16) ∧ (m_I S 2 7 = nI (mk (inV I nw) np) ∧ m_I S 2 8 = nI (mk (sur I nw) np)) ∧ ∀ p, p < np → m_I S 5 p = plc I p (I 1 15) ∧ m_I S 6 p = bn (shn I nw p) ∧ (sur I nw p = true → m_I S 7 p = slv I nw p)
