/-! the path of a front, the reference -/
section RP
variable {I : Nat → Nat → Int32} {J : Nat → Nat → Int64} {lo hi : Nat → Nat}
theorem gtsR.fr {I' : Nat → Nat → Int32} {P QR : List Nat} (h : gtsR I lo hi) (hf : FrR I I' P QR) (h1 : 27 ∉ P ∧ 28 ∉ P) : gtsR I' lo hi := fun x hx => by
  rw [hf.1 27 (by decide) h1.1, hf.1 28 (by decide) h1.2]
  exact h x hx
def rtp (I : Nat → Nat → Int32) (lo hi : Nat → Nat) (b x y l : Nat) : Prop := ∀ y' l', y' < 12 → l' < 5 → (y' < y ∨ (y' = y ∧ l' < l)) → I 29 (60 * x + 5 * y' + l') = nI (gg lo hi b 1000000 (b - x) y' l')
def rtr (I : Nat → Nat → Int32) (lo hi : Nat → Nat) (b x : Nat) : Prop := ∀ x', x < x' → x' ≤ b → rtb I lo hi b x'
theorem R_idx (x y l : Nat) : ((60 : Int32) * nI x + 5 * nI y) + nI l = nI (60 * x + 5 * y + l) := by rw [show (60 : Int32) = nI 60 from rfl, show (5 : Int32) = nI 5 from rfl, nI_mul, nI_mul, nI_add, nI_add]
theorem R_layL {a b x y : Nat} (hg : gtsR I lo hi) (hb : b < 12) (hx : x ≤ b) (hy : y < 12) (hr : rtr I lo hi b x) (hp : rtp I lo hi b x y 0) : ∃ I', lim sX10_layToCome (.inr (.inl (1, nI a, nI b, nI x, nI y, mkR I J))) = lim sX10_layToCome (.inr (.inl (1, nI a, nI b, nI x, nI (y + 1), mkR I' J))) ∧ FrR I I' [29] [] ∧ rtr I' lo hi b x ∧ rtp I' lo hi b x (y + 1) 0 := by
  obtain ⟨s, ⟨I', hs, f, k1, k2⟩, he⟩ := lim_inv (step := sX10_layToCome) (K := fun l s => ∃ I', s = .inr (.inr (1, nI a, nI b, nI x, nI y, nI l, mkR I' J)) ∧ FrR I I' [29] [] ∧ rtr I' lo hi b x ∧ rtp I' lo hi b x y l) 5 (s0 := .inr (.inr (1, nI a, nI b, nI x, nI y, nI 0, mkR I J))) ⟨I, rfl, FrR.rf, hr, hp⟩ (fun l hl s hs => by
    obtain ⟨I', rfl, f, k1, k2⟩ := hs
    have hlc := R_bendsAt (J := J) (l := l) (hg.fr f (by simp)) hx hb hy (by omega) (fun h => k1 (x + 1) (by omega) (by omega))
    refine ⟨.inr (.inr (1, nI a, nI b, nI x, nI y, nI (l + 1), mkR (va_up I' 29 (upd (I' 29) (60 * x + 5 * y + l) (nI (gg lo hi b 1000000 (b - x) y l)))) J)), ?_, _, rfl, f.tr (FrR.up (by decide) (by simp)), fun x' h1 h2 y' l' h3 h4 => ?_, fun y' l' h3 h4 h5 => ?_⟩
    · show bX10_layToCome_20 (mkR I' J) 1 (nI a) (nI b) (nI x) (nI y) (nI l) = _
      unfold bX10_layToCome_20
      rw [if_neg (show ¬ (5 : Int32) ≤ nI l from nI_ge (b := 5) hl (by omega)), rP36, Option.bind_some, rIs, Option.bind_some, hlc, Option.bind_some, R_idx, rS29 rfl (show 60 * x + 5 * y + l < 720 by omega), Option.bind_some, Option.bind_some, nI_1]
    · rw [up_s, upd_n (by omega)]
      exact k1 x' h1 h2 y' l' h3 h4
    · rw [up_s]
      by_cases he : y' = y ∧ l' = l
      · rw [he.1, he.2, upd_s]
      · rw [upd_n (by omega)]
        exact k2 y' l' h3 h4 (by omega))
  refine ⟨I', ?_, f, k1, fun y' l' h3 h4 h5 => k2 y' l' h3 h4 (by omega)⟩
  rw [lim_eq]
  show fin sX10_layToCome (bX10_layToCome_10 (mkR I J) 1 (nI a) (nI b) (nI x) (nI y)) = _
  unfold bX10_layToCome_10
  rw [if_neg (show ¬ (12 : Int32) ≤ nI y from nI_ge (b := 12) hy (by omega)), fin_l, show lim sX10_layToCome (.inr (.inr (1, nI a, nI b, nI x, nI y, 0, mkR I J))) = _ from he, hs, lim_eq]
  show fin sX10_layToCome (bX10_layToCome_20 (mkR I' J) 1 (nI a) (nI b) (nI x) (nI y) (nI 5)) = _
  unfold bX10_layToCome_20
  rw [if_pos (by decide), Option.bind_some, fin_l, nI_1]
theorem R_layX {a b x : Nat} (hg : gtsR I lo hi) (hb : b < 12) (hx : x ≤ b) (ha : a < x) (hr : rtr I lo hi b x) : ∃ I', lim sX10_layToCome (.inl (1, nI a, nI b, nI x, mkR I J)) = lim sX10_layToCome (.inl (1, nI a, nI b, nI x + (-1), mkR I' J)) ∧ FrR I I' [29] [] ∧ ∀ x', x ≤ x' → x' ≤ b → rtb I' lo hi b x' := by
  have all : ∀ y, y ≤ 12 → ∃ I', lim sX10_layToCome (.inr (.inl (1, nI a, nI b, nI x, nI 0, mkR I J))) = lim sX10_layToCome (.inr (.inl (1, nI a, nI b, nI x, nI y, mkR I' J))) ∧ FrR I I' [29] [] ∧ rtr I' lo hi b x ∧ rtp I' lo hi b x y 0 := by
    intro y
    induction y with
    | zero => intro _; exact ⟨I, rfl, FrR.rf, hr, fun y' l' _ _ h => by omega⟩
    | succ y ih =>
      intro hy
      obtain ⟨I1, e1, f1, a1, a2⟩ := ih (by omega)
      obtain ⟨I2, e2, f2, b1, b2⟩ := R_layL (J := J) (a := a) (hg.fr f1 (by simp)) hb hx (show y < 12 by omega) a1 a2
      exact ⟨I2, e1.trans e2, f1.tr f2, b1, b2⟩
  obtain ⟨I', e1, f1, a1, a2⟩ := all 12 (Nat.le_refl _)
  refine ⟨I', ?_, f1, fun x' h1 h2 y l hy hl => ?_⟩
  · rw [lim_eq]
    show fin sX10_layToCome (bX10_layToCome_2 (mkR I J) 1 (nI a) (nI b) (nI x)) = _
    unfold bX10_layToCome_2
    rw [if_neg (nI_ge ha (by omega)), fin_l, show lim sX10_layToCome (.inr (.inl (1, nI a, nI b, nI x, 0, mkR I J))) = _ from e1, lim_eq]
    show fin sX10_layToCome (bX10_layToCome_10 (mkR I' J) 1 (nI a) (nI b) (nI x) (nI 12)) = _
    unfold bX10_layToCome_10
    rw [if_pos (by decide), Option.bind_some, fin_l]
  · by_cases hxx : x' = x
    · subst hxx
      exact a2 y l hy hl (by omega)
    · exact a1 x' (by omega) h2 y l hy hl
theorem R_layToCome {a b : Nat} (hg : gtsR I lo hi) (hb : b < 12) (hab : a ≤ b) : ∃ I', fX10_layToCome (mkR I J) 1 (nI a) (nI b) = some (mkR I' J) ∧ FrR I I' [29] [] ∧ ∀ x, a < x → x ≤ b → rtb I' lo hi b x := by
  have all : ∀ k, k ≤ b - a → ∃ I', lim sX10_layToCome (.inl (1, nI a, nI b, nI (b - 0), mkR I J)) = lim sX10_layToCome (.inl (1, nI a, nI b, nI (b - k), mkR I' J)) ∧ FrR I I' [29] [] ∧ ∀ x, b - k < x → x ≤ b → rtb I' lo hi b x := by
    intro k
    induction k with
    | zero => intro _; exact ⟨I, rfl, FrR.rf, fun x h1 h2 => by omega⟩
    | succ k ih =>
      intro hk
      obtain ⟨I1, e1, f1, a1⟩ := ih (by omega)
      obtain ⟨I2, e2, f2, b1⟩ := R_layX (J := J) (a := a) (x := b - k) (hg.fr f1 (by simp)) hb (by omega) (by omega) (fun x' h1 h2 => a1 x' h1 h2)
      refine ⟨I2, ?_, f1.tr f2, fun x h1 h2 => b1 x (by omega) h2⟩
      rw [e1, e2, show b - k = (b - (k + 1)) + 1 by omega, nI_dec]
  obtain ⟨I', e1, f1, a1⟩ := all (b - a) (Nat.le_refl _)
  refine ⟨I', ?_, f1, fun x h1 h2 => a1 x (by omega) h2⟩
  unfold fX10_layToCome bX10_layToCome_0
  rw [fin_l, show lim sX10_layToCome (.inl (1, nI a, nI b, nI b, mkR I J)) = _ from e1]
  apply lim_end
  show bX10_layToCome_2 (mkR I' J) 1 (nI a) (nI b) (nI (b - (b - a))) = _
  unfold bX10_layToCome_2
  rw [if_pos (nI_le (by omega) (by omega))]
/-- what it costs to begin at y -/
def rst0 (lo hi : Nat → Nat) (b a y : Nat) : Nat := if letb lo hi a y = true then gg lo hi b 1000000 (b - a) y 5 else 1000000
theorem rst0_sim {b a : Nat} (hb : b < 12) (y : Nat) : sim 1000 1000000 44 (ccv lo hi b a y 5) (rst0 lo hi b a y) := by
  unfold ccv rst0
  by_cases h : letb lo hi a y = true
  · rw [if_pos h, if_pos h]
    have := gg_sim (lo := lo) (hi := hi) (b := b) (B := 1000) (B' := 1000000) (by omega) (by omega) (b - a) y 5 (by omega) (by omega)
    unfold sim at *
    omega
  · rw [if_neg h, if_neg h]
    exact .inl ⟨rfl, rfl⟩
theorem R_isLetY {a y : Nat} (hg : gtsR I lo hi) (ha : a < 12) (hy : y < 12) : fX10_isLet (mkR I J) 1 (nI a) (nI y) = some (b01 (letb lo hi a y)) := by
  rw [R_isLet hg ha, nI_toInt (by omega), nI_clamp (by omega)]
  unfold b01
  by_cases h : letb lo hi a y = true
  · rw [if_pos ⟨by omega, by omega, h⟩, if_pos h]
  · rw [if_neg (fun q => h q.2.2), if_neg h]
theorem R_starts {a b : Nat} (hg : gtsR I lo hi) (hb : b < 12) (hab : a < b) (hr : ∀ x, a < x → x ≤ b → rtb I lo hi b x) {y : Nat} (hy : y < 12) : fX10_bendsAt (mkR I J) 1 (nI a) (nI y) 5 (nI b) = some (nI (gg lo hi b 1000000 (b - a) y 5)) := R_bendsAt (l := 5) hg (by omega) hb hy (by omega) (fun h => hr (a + 1) (by omega) (by omega))
theorem bsO_s (f : Nat → Nat) (B c : Nat) : bsO f B (c + 1) = if f c < (bsO f B c).2 then (some c, f c) else bsO f B c := rfl
/-- a front of the reference: up to the start -/
theorem R_start {f a b : Nat} (hg : gtsR I lo hi) (hb : b < 12) (hab : a < b) : ∃ I', FrR I I' [29] [] ∧ (∀ x, a < x → x ≤ b → rtb I' lo hi b x) ∧ fX10_drawInto (mkR I J) 1 (nI f) (nI a) (nI b) = lim sX10_drawInto (.inl (1, nI f, nI a, nI b, bn (bsO (rst0 lo hi b a) 1000000 12).1, nI (bsO (rst0 lo hi b a) 1000000 12).2, nI 12, mkR I' J)) := by
  obtain ⟨I', e1, f1, a1⟩ := R_layToCome (J := J) hg hb (show a ≤ b by omega)
  have hg' := hg.fr f1 (by simp)
  refine ⟨I', f1, a1, ?_⟩
  unfold fX10_drawInto bX10_drawInto_0
  rw [rIs, Option.bind_some, e1, Option.bind_some, fin_l]
  refine lim_it (step := sX10_drawInto) (st := fun y => .inl (1, nI f, nI a, nI b, bn (bsO (rst0 lo hi b a) 1000000 y).1, nI (bsO (rst0 lo hi b a) 1000000 y).2, nI y, mkR I' J)) 12 (fun y hy => ?_)
  show bX10_drawInto_18 (mkR I' J) 1 (nI f) (nI a) (nI b) (bn (bsO (rst0 lo hi b a) 1000000 y).1) (nI (bsO (rst0 lo hi b a) 1000000 y).2) (nI y) = _
  have hle := bsO_le (rst0 lo hi b a) 1000000 y
  have hgl := gg_le lo hi b 1000000 (b - a) y 5
  rw [bsO_s]
  generalize bsO (rst0 lo hi b a) 1000000 y = w at hle
  have B50 : ∀ z, z ≤ 1000000 → bX10_drawInto_50 (mkR I' J) 1 (nI f) (nI a) (nI b) (bn w.1) (nI w.2) (nI y) (nI z) = some (.inl (.inl (1, nI f, nI a, nI b, bn (if z < w.2 then (some y, z) else w).1, nI (if z < w.2 then (some y, z) else w).2, nI (y + 1), mkR I' J))) := fun z hz => by
    unfold bX10_drawInto_50 bX10_drawInto_66 bX10_drawInto_82
    by_cases h : z < w.2
    · rw [if_neg (nI_ge h (by omega)), if_neg (nI_ge h (by omega)), if_pos h, nI_1]
      rfl
    · rw [if_pos (nI_le (by omega) (by omega)), if_pos (nI_le (by omega) (by omega)), if_neg h, nI_1]
      rfl
  unfold bX10_drawInto_18 rst0
  rw [if_neg (show ¬ (12 : Int32) ≤ nI y from nI_ge (b := 12) hy (by omega)), rIs, Option.bind_some, R_isLetY hg' (by omega) hy, Option.bind_some]
  by_cases h : letb lo hi a y = true
  · rw [h, if_neg (by decide), Option.bind_some, R_starts hg' hb hab a1 hy, Option.bind_some, B50 _ hgl]
    rfl
  · have h' : letb lo hi a y = false := by simpa using h
    rw [h', if_pos (by decide), show (1000000 : Int32) = nI 1000000 from rfl, B50 1000000 (Nat.le_refl _)]
    rfl
theorem R_goesOn {b d x y l left ch : Nat} (hg : gtsR I lo hi) (hd : d < b) (hb : b < 12) (hx : x = b - d - 1) (hy : y < 12) (hl : l < 6) (hc : ch < 5) (hleft : left < 1000000) (hr : rtb I lo hi b (x + 1)) : fX10_goesOn (mkR I J) 1 (nI x) (nI y) (nI ch + (-2)) (nI l) (nI left) = some (b01 (okc lo hi (b - d) y ch && decide (bnd l ch + gg lo hi b 1000000 d (y + ch - 2) ch = left))) := by
  have hxd : x + 1 = b - d := by omega
  have hgl := gg_le lo hi b 1000000 d (y + ch - 2) ch
  have hbl := bnd_le (l := l) (ch := ch) (by omega) hc
  unfold fX10_goesOn bX10_goesOn_0
  rw [rIs, Option.bind_some, nI_1, hxd, R_isOk hg (by omega) hy hc, Option.bind_some]
  by_cases ho : okc lo hi (b - d) y ch = true
  · obtain ⟨o1, o2, o3⟩ := okc_b ho
    have htc := R_tc (x := x) (y := y) (ch := ch) o1 (by omega) o2 hc
    have hld : o_ld (mkR I J) 29 12 ((((60 : Int32) * (nI x + 1) + 5 * (nI y + (nI ch + (-2)))) + (nI ch + (-2))) + 2) = some (nI (gg lo hi b 1000000 d (y + ch - 2) ch)) := by
      rw [rL29 htc (by omega), hr _ _ (by omega) hc, show b - (x + 1) = d by omega]
    have B32 : ∀ w : Nat, w ≤ 4 → bX10_goesOn_32 (mkR I J) 1 (nI x) (nI y) (nI ch + (-2)) (nI left) (nI w) = some (b01 (decide (w + gg lo hi b 1000000 d (y + ch - 2) ch = left))) := fun w hw => by
      unfold bX10_goesOn_32 bX10_goesOn_63 bX10_goesOn_64
      rw [rP36, Option.bind_some, hld, Option.bind_some, nI_add, zb0, zb1, Option.bind_some, Option.bind_some]
      by_cases h : w + gg lo hi b 1000000 d (y + ch - 2) ch = left
      · rw [h, if_pos rfl]
        simp [b01]
      · rw [if_neg (fun q => h ((nI_eq (by omega) (by omega)).mp q))]
        simp [b01, h]
    rw [ho, if_neg (by decide), Bool.true_and]
    by_cases h5 : l = 5
    · subst h5
      have hb5 : bnd 5 ch = 0 := if_pos rfl
      rw [if_pos (show nI 5 = 5 from rfl), hb5]
      exact B32 0 (by omega)
    · rw [if_neg (show ¬ nI l = 5 from fun q => h5 ((nI_eq (b := 5) (by omega) (by omega)).mp q)), R_bnd (by omega) hc, Option.bind_some]
      exact B32 _ hbl
  · have ho' : okc lo hi (b - d) y ch = false := by simpa using ho
    rw [ho', if_pos (by decide), Bool.false_and]
    rfl
theorem s139 (S : MS) (x0 : Nat) (x1 x3 x5 x6 x7 x8 x9 x10 : Int32) : sX10_drawInto (.inr (.inr (x0, x1, x3, x5, x6, x7, x8, x9, x10, S))) = bX10_drawInto_139 S x0 x1 x3 x5 x6 x7 x8 x9 x10 := by
  unfold sX10_drawInto
  rfl
/-- one step of the path -/
theorem R_pathStep {f b d x y l m : Nat} (hg : gtsR I lo hi) (hf : f < 10) (hd : d < b) (hb : b < 12) (hx : x = b - d - 1) (hy : y < 12) (hl : l < 6) (hr : rtb I lo hi b (x + 1)) (hgg : gg lo hi b 1000000 (d + 1) y l < 1000000) {c : Nat} (hc : isPk lo hi b 1000000 d y l c) : lim sX10_drawInto (.inr (.inl (1, nI f, nI b, nI m, nI y, nI l, nI (gg lo hi b 1000000 (d + 1) y l), nI x, mkR I J))) = lim sX10_drawInto (.inr (.inl (1, nI f, nI b, nI m, nI (y + c - 2), nI c, nI (gg lo hi b 1000000 d (y + c - 2) c), nI (x + 1), mkR (va_up I 26 (upd (I 26) (12 * f + (x + 1)) (nI (y + c - 2)))) J))) := by
  obtain ⟨hc5, ⟨ho, he⟩, hno⟩ := hc
  obtain ⟨o1, o2, o3⟩ := okc_b ho
  have hxd : x + 1 = b - d := by omega
  rw [lim_eq]
  show fin sX10_drawInto (bX10_drawInto_129 (mkR I J) 1 (nI f) (nI b) (nI m) (nI y) (nI l) (nI (gg lo hi b 1000000 (d + 1) y l)) (nI x)) = _
  unfold bX10_drawInto_129
  rw [if_neg (nI_ge (by omega) (by omega)), fin_l]
  have go := fun ch (h : ch < 5) => R_goesOn (J := J) (ch := ch) hg hd hb hx hy hl h hgg hr
  generalize hleft : gg lo hi b 1000000 (d + 1) y l = left at *
  have l1 : lim sX10_drawInto (.inr (.inr (1, nI f, nI b, nI m, nI y, nI l, nI left, nI x, nI 0 + (-2), mkR I J))) = lim sX10_drawInto (.inr (.inr (1, nI f, nI b, nI m, nI y, nI l, nI left, nI x, nI c + (-2), mkR I J))) := by
    refine lim_it (step := sX10_drawInto) (st := fun ch => .inr (.inr (1, nI f, nI b, nI m, nI y, nI l, nI left, nI x, nI ch + (-2), mkR I J))) c (fun ch hch => ?_)
    rw [s139]
    have hn := hno ch hch
    have hz : (okc lo hi (b - d) y ch && decide (bnd l ch + gg lo hi b 1000000 d (y + ch - 2) ch = left)) = false := by
      cases h1 : okc lo hi (b - d) y ch with
      | false => rfl
      | true =>
        have : ¬ bnd l ch + gg lo hi b 1000000 d (y + ch - 2) ch = left := fun q => hn ⟨h1, q⟩
        simp [this]
    have hnx : nI ch + (-2) + 1 = nI (ch + 1) + (-2) := by rw [Int32.add_assoc, Int32.add_comm (-2) 1, ← Int32.add_assoc, nI_1]
    unfold bX10_drawInto_139
    rw [rIs, Option.bind_some, go ch (by omega), Option.bind_some, hz, if_pos (by decide), Option.bind_some, hnx]
  rw [show lim sX10_drawInto (.inr (.inr (1, nI f, nI b, nI m, nI y, nI l, nI left, nI x, -2, mkR I J))) = _ from l1, lim_eq, s139]
  have hz : (okc lo hi (b - d) y c && decide (bnd l c + gg lo hi b 1000000 d (y + c - 2) c = left)) = true := by
    rw [ho, he]
    simp
  have e1 : nI c + (-2) + 2 = nI c := by rw [Int32.add_assoc, show (-2 : Int32) + 2 = 0 by decide, Int32.add_zero]
  have e2 : nI y + (nI c + (-2)) = nI (y + c - 2) := by
    rw [← yc_i o1 (by omega), Int32.sub_eq_add_neg]
  have e3 : ((12 : Int32) * nI f + nI x) + 1 = nI (12 * f + (x + 1)) := by rw [show (12 : Int32) = nI 12 from rfl, nI_mul, nI_add, nI_1]; rfl
  have hbl := bnd_le (l := l) (ch := c) (by omega) hc5
  have B184 : ∀ w : Nat, w + gg lo hi b 1000000 d (y + c - 2) c = left → bX10_drawInto_184 (mkR I J) 1 (nI f) (nI b) (nI m) (nI y) (nI x) (nI c + (-2)) (nI left) (nI w) = some (.inl (.inr (.inl (1, nI f, nI b, nI m, nI (y + c - 2), nI c, nI (gg lo hi b 1000000 d (y + c - 2) c), nI (x + 1), mkR (va_up I 26 (upd (I 26) (12 * f + (x + 1)) (nI (y + c - 2)))) J)))) := fun w hw => by
    have e4 : nI left - nI w = nI (gg lo hi b 1000000 d (y + c - 2) c) := by rw [← hw, ← nI_add, Int32.add_comm, Int32.add_sub_cancel]
    unfold bX10_drawInto_184
    rw [e4, e2, e1, Option.bind_some, Option.bind_some, Option.bind_some, rP33, Option.bind_some, e3, rS26 rfl (by omega), Option.bind_some, nI_1, Option.bind_some]
  unfold bX10_drawInto_139
  rw [rIs, Option.bind_some, go c hc5, Option.bind_some, hz, if_neg (by decide)]
  by_cases h5 : l = 5
  · subst h5
    have hb5 : bnd 5 c = 0 := if_pos rfl
    rw [hb5] at he
    rw [if_pos (show nI 5 = 5 from rfl), show (0 : Int32) = nI 0 from rfl, B184 0 he, fin_l]
  · rw [if_neg (show ¬ nI l = 5 from fun q => h5 ((nI_eq (b := 5) (by omega) (by omega)).mp q)), R_bnd (by omega) hc5, Option.bind_some, B184 _ he, fin_l]
/-- all of the path -/
theorem R_path {f a b s : Nat} (hg : gtsR I lo hi) (hf : f < 10) (hb : b < 12) (hab : a < b) (hs : s < 12) (hl : letb lo hi a s = true) (hgl : gg lo hi b 1000 (b - a) s 5 < 1000) (hr : ∀ x, a < x → x ≤ b → rtb I lo hi b x) {m : Nat} : ∃ I', lim sX10_drawInto (.inr (.inl (1, nI f, nI b, nI m, nI s, nI 5, nI (gg lo hi b 1000000 (b - a) s 5), nI a, mkR (va_up I 26 (upd (I 26) (12 * f + a) (nI s))) J))) = some (nI m, mkR I' J) ∧ FrR I I' [26] [] ∧ (∀ k, k ≤ b - a → I' 26 (12 * f + (a + k)) = nI (pth lo hi b a s k).1) ∧ ∀ i, (i < 12 * f ∨ 12 * f + 12 ≤ i) → I' 26 i = I 26 i := by
  have hpok := pth_ok hab hb hs hl hgl
  have all : ∀ k, k ≤ b - a → ∃ I', lim sX10_drawInto (.inr (.inl (1, nI f, nI b, nI m, nI s, nI 5, nI (gg lo hi b 1000000 (b - a) s 5), nI a, mkR (va_up I 26 (upd (I 26) (12 * f + a) (nI s))) J))) = lim sX10_drawInto (.inr (.inl (1, nI f, nI b, nI m, nI (pth lo hi b a s k).1, nI (pth lo hi b a s k).2, nI (gg lo hi b 1000000 (b - a - k) (pth lo hi b a s k).1 (pth lo hi b a s k).2), nI (a + k), mkR I' J))) ∧ FrR I I' [26] [] ∧ (∀ j, j ≤ k → I' 26 (12 * f + (a + j)) = nI (pth lo hi b a s j).1) ∧ ∀ i, (i < 12 * f ∨ 12 * f + 12 ≤ i) → I' 26 i = I 26 i := by
    intro k
    induction k with
    | zero =>
      intro _
      refine ⟨_, rfl, FrR.up (by decide) (by simp), fun j hj => ?_, fun i hi => ?_⟩
      · have : j = 0 := by omega
        subst this
        rw [up_s]
        exact upd_s
      · rw [up_s, upd_n (by omega)]
    | succ k ih =>
      intro hk
      obtain ⟨I1, e1, f1, a1, a2⟩ := ih (by omega)
      obtain ⟨p1, p2, p3, p4⟩ := hpok k (by omega)
      have ed : b - a - k = (b - a - k - 1) + 1 := by omega
      rw [ed] at p4 e1
      obtain ⟨c, hc⟩ := pk_ex p4
      obtain ⟨s1, s2, s3, s4⟩ := pk_sim (B' := 1000000) (by omega) (by omega) (by omega) (by omega) p4 hc
      have hr1 : rtb I1 lo hi b (a + k + 1) := fun y l hy hl => by
        rw [f1.1 29 (by decide) (by simp)]
        exact hr _ (by omega) (by omega) y l hy hl
      obtain ⟨o1, o2, o3⟩ := okc_b hc.2.1.1
      have st := R_pathStep (J := J) (f := f) (x := a + k) (m := m) (hg.fr f1 (by simp)) hf (show b - a - k - 1 < b by omega) hb (by omega) p1 p3 hr1 (by rw [s2]; omega) s1
      refine ⟨va_up I1 26 (upd (I1 26) (12 * f + (a + k + 1)) (nI ((pth lo hi b a s k).1 + c - 2))), e1.trans ?_, f1.tr (FrR.up (by decide) (by simp)), fun j hj => ?_, fun i hi => ?_⟩
      · rw [st, pth_s hc, show b - a - (k + 1) = b - a - k - 1 by omega]
        rfl
      · rw [up_s]
        by_cases hjk : j = k + 1
        · subst hjk
          rw [show a + (k + 1) = a + k + 1 by omega, upd_s, pth_s hc]
        · rw [upd_n (by omega)]
          exact a1 j (by omega)
      · rw [up_s, upd_n (by omega)]
        exact a2 i hi
  obtain ⟨I', e1, f1, a1, a2⟩ := all (b - a) (Nat.le_refl _)
  refine ⟨I', ?_, f1, a1, a2⟩
  rw [e1]
  apply lim_end
  show bX10_drawInto_129 (mkR I' J) 1 (nI f) (nI b) (nI m) _ _ _ (nI (a + (b - a))) = _
  unfold bX10_drawInto_129
  rw [if_pos (nI_le (by omega) (by omega))]
end RP
