/-! the wires, and the last one of a post -/
def rmy (I : Nat → Nat → Int32) (w : Nat) : Nat := (RD (Dig I w 1) 1).length
def rf1 (I : Nat → Nat → Int32) (w : Nat) : Int32 := match (RD (Dig I w 1) 1)[0]? with
  | some r => nI r
  | none => -1
theorem RD_c {D D' : Nat → Int32} (h : ∀ x, x < 5 → D x = D' x) (g : Nat) : RD D g = RD D' g := by
  unfold RD dsO
  rw [h 0 (by omega), h 1 (by omega), h 2 (by omega), h 3 (by omega), h 4 (by omega)]
theorem RD_len (D : Nat → Int32) (g : Nat) : (RD D g).length ≤ 10000 := pre_len
/-- cell a is wire w -/
def wiC (S : MS) (I : Nat → Nat → Int32) (np a w : Nat) : Prop := ∃ q c, (50 < a ∧ 50 < q ∧ 50 < c) ∧ Wd S a q ∧ (m_P S a 5 = some c ∧ m_at S c 12 ∧ m_L S c = 3) ∧ (∀ x, x < 15 → m_I S q x = I 11 (15 * w + x)) ∧ (∀ g, g < 3 → m_I S c g = nI (RD (Dig I w g) g).length) ∧ ∃ p, p < np ∧ I 8 w = nI p ∧ m_I S a 0 = nI p ∧ m_I S a 3 = I 5 p ∧ m_I S a 1 = I 9 w ∧ m_I S a 2 = I 10 w
def wiR (I : Nat → Nat → Int32) (w : Nat) : Prop := I 12 w = nI (rmy I w) ∧ I 13 w = rf1 I w
def Wir (S : MS) (I : Nat → Nat → Int32) (np nw ew : Nat) (ws : Nat → Nat) : Prop := nw ≤ 30 ∧ I 1 8 = nI nw ∧ Lst S 4 nw 9 ew ws ∧ ∀ w, w < nw → wiC S I np (ws w) w ∧ wiR I w
def ask (I : Nat → Nat → Int32) (p w : Nat) : Prop := I 8 w = nI p ∧ I 9 w = I 1 15 ∧ ¬ I 1 16 < I 10 w
noncomputable def lw (I : Nat → Nat → Int32) (p : Nat) : Nat → Option Nat
  | 0 => none
  | w + 1 => @ite _ (ask I p w) (Classical.propDecidable _) (match lw I p w with
    | none => some w
    | some b => if I 10 w < I 10 b then some b else some w) (lw I p w)
theorem lw_t {I : Nat → Nat → Int32} {p w : Nat} (h : ask I p w) : lw I p (w + 1) = (match lw I p w with
    | none => some w
    | some b => if I 10 w < I 10 b then some b else some w) := if_pos h
theorem lw_f {I : Nat → Nat → Int32} {p w : Nat} (h : ¬ ask I p w) : lw I p (w + 1) = lw I p w := if_neg h
theorem lw_lt {I : Nat → Nat → Int32} {p n w : Nat} (h : lw I p n = some w) : w < n := by
  induction n generalizing w with
  | zero => cases h
  | succ n ih =>
    by_cases ha : ask I p n
    · rw [lw_t ha] at h
      cases hb : lw I p n with
      | none => rw [hb] at h; cases h; omega
      | some b =>
        rw [hb] at h
        simp only at h
        have := ih hb
        split at h <;> cases h <;> omega
    · rw [lw_f ha] at h
      have := ih h
      omega
/-- the last wire of a post at the hour of the view, if it can be read -/
noncomputable def sw (I : Nat → Nat → Int32) (nw p : Nat) : Option Nat := match lw I p nw with
  | none => none
  | some w => if rmy I w = 0 then none else some w
def cam (I : Nat → Nat → Int32) (o : Option Nat) : Int32 := match o with
  | none => 0
  | some b => I 10 b
def isr (I : Nat → Nat → Int32) (o : Option Nat) : Int32 := match o with
  | none => 0
  | some b => if rmy I b = 0 then 0 else 1
theorem e9l : ((-9 : Int32) < 0) = True := eq_true (by decide)
section WI
variable {S : MS} {I : Nat → Nat → Int32} {J : Nat → Nat → Int64} {np nw ew : Nat} {ws : Nat → Nat}
theorem R_lastWire {p : Nat} (hn : nw ≤ 30) (hw : I 1 8 = nI nw) : fX10_lastWire (mkR I J) 1 (nI p) = some (bn (lw I p nw)) := by
  unfold fX10_lastWire bX10_lastWire_0
  rw [fin_l]
  refine lim_it2 (st := fun j => (1, nI p, bn (lw I p j), nI j)) nw (fun j hj => ?_) ?_
  · show bX10_lastWire_5 (mkR I J) 1 (nI p) (bn (lw I p j)) (nI j) = _
    have hj30 : j < 30 := by omega
    have e1 : ¬ nI nw ≤ nI j := nI_ge hj (by omega)
    unfold bX10_lastWire_5 bX10_lastWire_53 bX10_lastWire_54 bX10_lastWire_84 bX10_lastWire_80 bX10_lastWire_85
    simp only [rI, rP9, rP10, rP11, rL8 rfl hj30, rL9 rfl hj30, rL10 rfl hj30, hw, Option.bind_some, if_neg e1, e00, e10, if_true, if_false, nI_1]
    by_cases h1 : I 8 j = nI p
    · by_cases h2 : I 9 j = I 1 15
      · by_cases h3 : I 1 16 < I 10 j
        · rw [lw_f (fun q => q.2.2 h3)]
          simp only [h1, h2, h3, if_true]
        · rw [lw_t ⟨h1, h2, h3⟩]
          simp only [h1, h2, h3, if_true, if_false]
          cases hb : lw I p j with
          | none => simp only [bn, e9l, if_true]
          | some b =>
            have hb30 := lw_lt hb
            have e2 : (nI b < 0) = False := eq_false (nI_neg (by omega))
            by_cases h4 : I 10 j < I 10 b
            · simp only [bn, e2, if_false, rL10 rfl (show b < 30 by omega), Option.bind_some, h4, if_true]
            · simp only [bn, e2, if_false, rL10 rfl (show b < 30 by omega), Option.bind_some, h4]
      · rw [lw_f (fun q => h2 q.2.1)]
        simp only [h1, h2, if_true, if_false]
    · rw [lw_f (fun q => h1 q.1)]
      simp only [h1, if_false]
  · show bX10_lastWire_5 (mkR I J) 1 (nI p) (bn (lw I p nw)) (nI nw) = _
    have e1 : nI nw ≤ nI nw := nI_le (Nat.le_refl _) (by omega)
    unfold bX10_lastWire_5 bX10_lastWire_53 bX10_lastWire_54 bX10_lastWire_84 bX10_lastWire_80 bX10_lastWire_85
    simp only [rI, hw, Option.bind_some, if_pos e1]
theorem nI_le0 {n : Nat} (h : n < 2 ^ 31) : (nI n ≤ 0) = (n = 0) := by
  apply propext
  rw [i_le, nI_toInt h, n0]
  omega
theorem C_latest {p : Nat} (hC : CS S) (hW : Wir S I np nw ew ws) (h1 : m_I S 2 2 = I 1 15) (h2 : m_I S 2 3 = I 1 16) : fX1_latestReadable S 2 (nI p) = some (bn (sw I nw p)) := by
  obtain ⟨hn, -, hL, hw⟩ := hW
  unfold fX1_latestReadable bX1_latestReadable_0
  rw [fin_l]
  refine lim_it2 (st := fun j => (2, nI p, bn (lw I p j), cam I (lw I p j), isr I (lw I p j), nI j)) nw (fun j hj => ?_) ?_
  · show bX1_latestReadable_11 S 2 (nI p) (bn (lw I p j)) _ _ (nI j) = _
    have hj30 : j < 30 := by omega
    have e1 : ¬ nI nw ≤ nI j := nI_ge hj (by omega)
    obtain ⟨⟨q, c, -, hwd, ⟨c1, c2, c3⟩, -, c5, p', -, c6, c7, -, c8, c9⟩, -⟩ := hw j hj
    have hc1 : o_ld S c 12 1 = some (m_I S c 1) := at_ld (n := 3) (j := 1) c2 c3 (by omega) rfl (by omega)
    have hrm : m_I S c 1 = nI (rmy I j) := c5 1 (by omega)
    have hrb := RD_len (Dig I j 1) 1
    have e3 : (nI (rmy I j) ≤ 0) = (rmy I j = 0) := nI_le0 (by unfold rmy; omega)
    unfold bX1_latestReadable_11 bX1_latestReadable_140 bX1_latestReadable_74 bX1_latestReadable_75 bX1_latestReadable_97 bX1_latestReadable_121 bX1_latestReadable_123
    simp only [cP2_1 hC, at_is hL.1.1, L_size hL, L_get hL hj, at_is hwd.1, at_gI hwd.1, at_gP hwd.1 c1, hc1, hrm, cI2 hC, h1, h2, c7, c8, c9, ← c6, Option.bind_some, if_neg e1, e00, e10, if_true, if_false, nI_1, e3]
    by_cases g1 : I 8 j = nI p
    · by_cases g2 : I 9 j = I 1 15
      · by_cases g3 : I 1 16 < I 10 j
        · rw [lw_f (fun q => q.2.2 g3)]
          simp only [g1, g2, g3, if_true]
        · rw [lw_t ⟨g1, g2, g3⟩]
          simp only [g1, g2, g3, if_true, if_false]
          cases hb : lw I p j with
          | none =>
            by_cases h0 : rmy I j = 0
            · simp only [bn, cam, isr, if_true, h0]
            · simp only [bn, cam, isr, if_true, h0, if_false]
          | some b =>
            have hb30 := lw_lt hb
            have e2 : (nI b = -9) = False := eq_false (m9 (by omega))
            by_cases h4 : I 10 j < I 10 b
            · simp only [bn, cam, isr, e2, if_false, h4, if_true]
            · by_cases h0 : rmy I j = 0
              · simp only [bn, cam, isr, e2, if_false, h4, h0, if_true]
              · simp only [bn, cam, isr, e2, if_false, h4, h0]
      · rw [lw_f (fun q => g2 q.2.1)]
        simp only [g1, g2, if_true, if_false]
    · rw [lw_f (fun q => g1 q.1)]
      simp only [g1, if_false]
  · show bX1_latestReadable_11 S 2 (nI p) (bn (lw I p nw)) _ _ (nI nw) = _
    have e1 : nI nw ≤ nI nw := nI_le (Nat.le_refl _) (by omega)
    unfold bX1_latestReadable_11 bX1_latestReadable_140 bX1_latestReadable_74 bX1_latestReadable_75 bX1_latestReadable_97 bX1_latestReadable_121 bX1_latestReadable_123 sw
    simp only [cP2_1 hC, at_is hL.1.1, L_size hL, Option.bind_some, if_pos e1]
    cases hb : lw I p nw with
    | none => simp only [isr, if_true, bn]
    | some b =>
      by_cases h0 : rmy I b = 0
      · simp only [isr, h0, if_true, bn]
      · simp only [isr, h0, if_false, e10, bn]
end WI
