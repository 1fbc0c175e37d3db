/-! mended readings and levels; the first half of the chart -/
/-- the reading that is taken for a wire of post p -/
noncomputable def mnd (I : Nat → Nat → Int32) (np nw w p : Nat) : Option Nat := near (dsl (I 5 p) (gue I np nw p)) (RD (Dig I w 1) 1)
section ME
variable {S : MS} {I : Nat → Nat → Int32} {J : Nat → Nat → Int64} {np nw ep ew : Nat} {ps ws : Nat → Nat}
theorem R_mendedOf {w p : Nat} (h1 : I 1 1 = nI np) (hn : np ≤ 12) (hnw : nw ≤ 30) (hl : Laid1 I np nw) (hr : ∀ w, w < nw → wiR I w) (hd : ∀ x, x < 5 → dgR (Dig I w 1 x)) (hw : w < nw) (h8 : I 8 w = nI p) (hp : p < np) : fX10_mendedOf (mkR I J) 1 (nI w) = some (bn (mnd I np nw w p)) := by
  have hrb := RD_len (Dig I w 1) 1
  have hone : (nI (rmy I w) = 1) = (rmy I w = 1) := propext (nI_eq (b := 1) (by unfold rmy; omega) (by omega))
  unfold fX10_mendedOf bX10_mendedOf_0 mnd
  simp only [rP13, rP14, rL12 rfl (show w < 30 by omega), rL13 rfl (show w < 30 by omega), (hr w hw).1, (hr w hw).2, hone, rIs, R_guessOf h1 hn hnw hl hr hw h8 hp, Option.bind_some]
  by_cases h : rmy I w = 1
  · rw [if_pos h, fin_r]
    unfold rmy at h
    unfold rf1
    match hL : RD (Dig I w 1) 1, h with
    | [r], _ => rfl
  · rw [if_neg h, fin_l]
    exact R_mendLoop (by omega) (by omega) h8 hd _
theorem wi_dg {a w : Nat} (h : wiC S I np a w) : ∀ x, x < 5 → dgR (Dig I w 1 x) := by
  obtain ⟨q, c, -, hwd, -, h4, -⟩ := h
  intro x hx
  have := hwd.2.2.2.2 (5 * 1 + x) (by omega)
  rw [h4 _ (by omega)] at this
  unfold Dig
  rw [Nat.add_assoc]
  exact this
theorem C_mended {w p : Nat} (hC : CS S) (hP : Pos S I np ep ps) (hW : Wir S I np nw ew ws) (hD : Dsk S I np nw) (hw : w < nw) (h8 : I 8 w = nI p) (hp : p < np) : fX1_mendedPress S 2 (ws w) = some (bn (mnd I np nw w p)) ∧ fX1_mendedLevel S 2 (ws w) = some (lvl (I 5 p) (bn (mnd I np nw w p))) := by
  have hnp := hP.1
  obtain ⟨q, c, -, hwd, -, c4, -, p', hp', c6, c7, c8, -⟩ := (hW.2.2.2 w hw).1
  have hpp : p' = p := by
    rw [c6] at h8
    exact (nI_eq (by omega) (by omega)).mp h8
  rw [hpp] at c7 c8
  have hE : RD (Eg S q 1) 1 = RD (Dig I w 1) 1 := RD_c (fun x hx => by
    show m_I S q (5 * 1 + x) = I 11 (15 * w + 5 * 1 + x)
    rw [c4 _ (by omega), Nat.add_assoc]) 1
  have hg := C_guessFor hC hP hD hwd.1 c7 hp
  have hnr := C_nearest hwd (gue I np nw p)
  rw [hE, c8] at hnr
  unfold fX1_mendedPress bX1_mendedPress_0 fX1_mendedLevel bX1_mendedLevel_0 mnd
  simp only [cIs2 hC, hg, at_is hwd.1, hnr, C_levelOf hwd.1, c8, Option.bind_some]
  exact ⟨trivial, trivial⟩
/-- where a post stands: no place, or one of 144 -/
theorem plc_b {p : Nat} (h : poR I p) (x : Int32) : plc I p x = -9 ∨ ∃ k, k < 144 ∧ plc I p x = nI k := by
  have key : ∀ a b : Int32, (0 ≤ a.toInt ∧ a.toInt ≤ 11) → (0 ≤ b.toInt ∧ b.toInt ≤ 11) → ∃ k, k < 144 ∧ 12 * b + a = nI k := by
    intro a b ha hb
    obtain ⟨i, hi, rfl⟩ := i_nI (x := a) (n := 12) ha.1 (by omega)
    obtain ⟨j, hj, rfl⟩ := i_nI (x := b) (n := 12) hb.1 (by omega)
    exact ⟨12 * j + i, by omega, by rw [show (12 : Int32) = nI 12 from rfl, nI_mul, nI_add]⟩
  unfold plc
  split
  · exact .inr (key _ _ h.2.1.1 h.2.1.2)
  · split
    · exact .inr (key _ _ (bk_b _) (bk_b _))
    · split
      · exact .inl rfl
      · rename_i hb
        unfold bPl at hb
        rw [bz_0] at hb
        have hb := Decidable.not_not.mp hb
        exact .inr (key _ _ hb.1 hb.2)
end ME
/-- what was told, and how it is looked at -/
def rawI (I : Nat → Nat → Int32) : Nat → Nat → Int32 := fun r k => if 2 ≤ r ∧ r ≤ 13 then I r k else if r = 1 ∧ (k = 1 ∨ k = 8 ∨ k = 15 ∨ k = 16 ∨ k = 17) then I 1 k else 0
theorem raw_c {α : Type} {I I' : Nat → Nat → Int32} (f : (Nat → Nat → Int32) → α) (hf : ∀ I, f (rawI I) = f I) (h : rawI I' = rawI I) : f I' = f I := by rw [← hf I', h, hf I]
theorem raw_fr {I I' : Nat → Nat → Int32} {P QR : List Nat} (h : FrR I I' P QR) (h1 : ∀ r ∈ P, 13 < r) (h2 : ∀ k ∈ QR, k ≠ 1 ∧ k ≠ 8 ∧ k ≠ 15 ∧ k ≠ 16 ∧ k ≠ 17) : rawI I' = rawI I := by
  funext r k
  unfold rawI
  by_cases hr : 2 ≤ r ∧ r ≤ 13
  · rw [if_pos hr, if_pos hr, h.1 r (by omega) (fun q => by have := h1 r q; omega)]
  · rw [if_neg hr, if_neg hr]
    by_cases hk : r = 1 ∧ (k = 1 ∨ k = 8 ∨ k = 15 ∨ k = 16 ∨ k = 17)
    · rw [if_pos hk, if_pos hk, h.2 k (fun q => by have := h2 k q; omega)]
    · rw [if_neg hk, if_neg hk]
theorem lw_raw (I : Nat → Nat → Int32) (p n : Nat) : lw (rawI I) p n = lw I p n := by
  induction n with
  | zero => rfl
  | succ n ih =>
    have ha : ask (rawI I) p n ↔ ask I p n := Iff.rfl
    by_cases h : ask I p n
    · rw [lw_t h, lw_t (ha.mpr h), ih]
      rfl
    · rw [lw_f h, lw_f (fun q => h (ha.mp q)), ih]
theorem Dig_raw (I : Nat → Nat → Int32) (w g : Nat) : Dig (rawI I) w g = Dig I w g := rfl
theorem rf1_raw (I : Nat → Nat → Int32) (w : Nat) : rf1 (rawI I) w = rf1 I w := by
  unfold rf1
  rw [Dig_raw]
theorem rmy_raw (I : Nat → Nat → Int32) (w : Nat) : rmy (rawI I) w = rmy I w := by
  unfold rmy
  rw [Dig_raw]
theorem sw_raw (I : Nat → Nat → Int32) (nw p : Nat) : sw (rawI I) nw p = sw I nw p := by
  unfold sw
  rw [lw_raw]
  simp only [rmy_raw]
theorem shn_raw (I : Nat → Nat → Int32) (nw p : Nat) : shn (rawI I) nw p = shn I nw p := by
  unfold shn
  rw [sw_raw]
  rfl
theorem inV_raw (I : Nat → Nat → Int32) (nw : Nat) : inV (rawI I) nw = inV I nw := by
  funext p
  unfold inV
  rw [shn_raw]
theorem sur_raw (I : Nat → Nat → Int32) (nw : Nat) : sur (rawI I) nw = sur I nw := by
  funext p
  unfold sur
  rw [shn_raw]
  simp only [rmy_raw]
theorem slv_raw (I : Nat → Nat → Int32) (nw : Nat) : slv (rawI I) nw = slv I nw := by
  funext p
  unfold slv
  rw [shn_raw]
  simp only [rf1_raw]
  rfl
theorem nq_raw (I : Nat → Nat → Int32) (np m : Nat) (place : Int32) : nq (rawI I) np m place = nq I np m place := rfl
theorem grun_raw (I : Nat → Nat → Int32) (np nw : Nat) (place : Int32) (k m : Nat) (s : Int32) (c : Nat) : grun (rawI I) np nw place k m s c = grun I np nw place k m s c := by
  induction k generalizing m s c with
  | zero => rfl
  | succ k ih =>
    unfold grun
    rw [nq_raw, slv_raw]
    cases nq I np m place with
    | none => rfl
    | some q => exact ih _ _ _
theorem gue_raw (I : Nat → Nat → Int32) (np nw p : Nat) : gue (rawI I) np nw p = gue I np nw p := by
  unfold gue
  rw [grun_raw, sur_raw]
  rfl
theorem mnd_raw (I : Nat → Nat → Int32) (np nw w p : Nat) : mnd (rawI I) np nw w p = mnd I np nw w p := by
  unfold mnd
  rw [gue_raw, Dig_raw]
  rfl
