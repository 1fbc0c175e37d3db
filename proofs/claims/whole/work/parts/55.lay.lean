/-! the reference lays its chart: views and levels -/
def cnt (f : Nat → Bool) : Nat → Nat
  | 0 => 0
  | n + 1 => cnt f n + (if f n = true then 1 else 0)
theorem cnt_le (f : Nat → Bool) (n : Nat) : cnt f n ≤ n := by
  induction n with
  | zero => exact Nat.le_refl _
  | succ n ih => show cnt f n + (if f n = true then 1 else 0) ≤ _; split <;> omega
theorem pop_cnt (m n : Nat) : pop m n = cnt m.testBit n := by
  induction n with
  | zero => rfl
  | succ n ih => show pop m n + _ = cnt m.testBit n + _; rw [ih]
theorem cnt_c {f g : Nat → Bool} {n : Nat} (h : ∀ k, k < n → f k = g k) : cnt f n = cnt g n := by
  induction n with
  | zero => rfl
  | succ n ih => show cnt f n + (if f n = true then 1 else 0) = cnt g n + (if g n = true then 1 else 0); rw [ih (fun k hk => h k (by omega)), h n (by omega)]
theorem cnt_ext {f : Nat → Bool} {n m : Nat} (hnm : n ≤ m) (h : ∀ k, n ≤ k → f k = false) : cnt f m = cnt f n := by
  induction m with
  | zero => rw [show n = 0 by omega]
  | succ m ih =>
    by_cases hn : n = m + 1
    · rw [hn]
    · show cnt f m + (if f m = true then 1 else 0) = _
      rw [ih (by omega), h m (by omega)]
      simp
theorem pop_mk {f : Nat → Bool} {n : Nat} (hn : n ≤ 12) : pop (mk f n) 12 = cnt f n := by
  rw [pop_cnt, cnt_ext hn (fun k hk => by rw [mk_bit]; simp [show ¬ k < n by omega])]
  exact cnt_c (fun k hk => by rw [mk_bit]; simp [hk])
/-- the level of a post's wire in view -/
noncomputable def lvn (I : Nat → Nat → Int32) (np nw p : Nat) : Int32 := match shn I nw p with
  | none => -9
  | some w => lvl (I 5 p) (bn (mnd I np nw w p))
theorem lvn_raw (I : Nat → Nat → Int32) (np nw : Nat) : lvn (rawI I) np nw = lvn I np nw := by
  funext p
  unfold lvn
  rw [shn_raw]
  simp only [mnd_raw]
  rfl
section LA
variable {I : Nat → Nat → Int32} {J : Nat → Nat → Int64} {np nw : Nat}
/-- views laid up to j -/
def Ly1 (I I' : Nat → Nat → Int32) (nw j : Nat) : Prop := FrR I I' [14, 15] [18, 19] ∧ I' 1 18 = 1 ∧ I' 1 19 = nI (cnt (inV I nw) j) ∧ ∀ p, p < j → I' 14 p = bn (shn I nw p) ∧ I' 15 p = plc I p (I 1 15)
theorem m9lt : ¬ (0 : Int32) ≤ -9 := by decide
theorem R_lay1_step (hn : np ≤ 12) (h1 : I 1 1 = nI np) (hnw : nw ≤ 30) (h8 : I 1 8 = nI nw) (hp : ∀ p, p < np → poR I p) (hr : ∀ w, w < nw → wiR I w) {I' : Nat → Nat → Int32} {j : Nat} (hj : j < np) (hk : Ly1 I I' nw j) : ∃ I2, sX10_layChart (.inl (1, nI j, mkR I' J)) = some (.inl (.inl (1, nI (j + 1), mkR I2 J))) ∧ Ly1 I I2 nw (j + 1) := by
  have hj12 : j < 12 := by omega
  obtain ⟨hf, k18, k19, kk⟩ := hk
  have hraw := raw_fr hf (by simp) (by simp)
  have g1 : I' 1 1 = nI np := by rw [hf.2 1 (by simp)]; exact h1
  have g8 : I' 1 8 = nI nw := by rw [hf.2 8 (by simp)]; exact h8
  have g15 : I' 1 15 = I 1 15 := hf.2 15 (by simp)
  have e1 : ¬ nI np ≤ nI j := nI_ge hj (by omega)
  have hpl : plc I' j (I 1 15) = plc I j (I 1 15) := raw_c (fun I => plc I j) (fun _ => rfl) hraw ▸ rfl
  have hlw : ∀ J, fX10_lastWire (mkR (va_up I' 15 (upd (I' 15) j (plc I j (I 1 15)))) J) 1 (nI j) = some (bn (lw I j nw)) := fun J => by
    rw [R_lastWire hnw (by rw [up_n (by decide)]; exact g8)]
    have : lw (va_up I' 15 (upd (I' 15) j (plc I j (I 1 15)))) j nw = lw I j nw := raw_c (fun I => lw I j nw) (fun I => lw_raw I j nw) (raw_fr (P := [14, 15]) (QR := [18, 19]) (hf.tr (FrR.up (by decide) (by simp))) (by simp) (by simp))
    rw [this]
  show ∃ I2, bX10_layChart_20 (mkR I' J) 1 (nI j) = _ ∧ _
  unfold bX10_layChart_20
  simp only [rI, g1, g15, rP21, rIs, R_placeOf (I := I') hj hn, hpl, rS15 rfl hj12, rL15 rfl hj12, up_s, upd_s, hlw, Option.bind_some, if_neg e1]
  have hmid : (if 0 ≤ plc I j (I 1 15) then bX10_layChart_62 (mkR (va_up I' 15 (upd (I' 15) j (plc I j (I 1 15)))) J) 1 (nI j) (bn (lw I j nw)) else bX10_layChart_62 (mkR (va_up I' 15 (upd (I' 15) j (plc I j (I 1 15)))) J) 1 (nI j) (-9)) = bX10_layChart_87 (mkR (va_up I' 15 (upd (I' 15) j (plc I j (I 1 15)))) J) 1 (nI j) 14 (nI j) (bn (shn I nw j)) := by
    unfold bX10_layChart_62 bX10_layChart_85 shn
    simp only [rP20, Option.bind_some]
    rcases plc_b (hp j hj) (I 1 15) with hb | ⟨k, hk, hb⟩
    · simp only [hb, if_neg m9lt, e9l, if_true, bn]
    · have q1 : 0 ≤ plc I j (I 1 15) := by rw [hb]; exact nI_pos' (by omega)
      have q2 : (plc I j (I 1 15) = -9) = False := by rw [hb]; exact eq_false (m9 (by omega))
      rw [if_pos q1]
      simp only [q2, if_false]
      unfold sw
      cases hl : lw I j nw with
      | none => simp only [bn, e9l, if_true]
      | some w =>
        have hw := lw_lt hl
        have e9 : (nI w < 0) = False := eq_false (nI_neg (by omega))
        have hrb := RD_len (Dig I w 1) 1
        have e0 : (nI (rmy I w) ≤ 0) = (rmy I w = 0) := nI_le0 (by unfold rmy; omega)
        have h12 : va_up I' 15 (upd (I' 15) j (plc I j (I 1 15))) 12 w = nI (rmy I w) := by rw [up_n (by decide), hf.1 12 (by decide) (by simp)]; exact (hr w hw).1
        simp only [bn, e9, if_false, rP13, rL12 rfl (show w < 30 by omega), h12, e0, Option.bind_some]
        by_cases h0 : rmy I w = 0
        · simp only [h0, if_true]
        · simp only [h0, if_false]
  rw [hmid]
  unfold bX10_layChart_87 bX10_layChart_107
  have hs19 : ∀ (K : Nat → Nat → Int32) (v : Int32), o_sI (mkR K J) 1 11 19 v = some (mkR (va_up K 1 (upd (K 1) 19 v)) J) := fun K v => rSI 19 v
  simp only [rS14 rfl hj12, rP20, rI, rL14 rfl hj12, up_s, upd_s, up_n (show (1 : Nat) ≠ 14 by decide), up_n (show (1 : Nat) ≠ 15 by decide), k19, hs19, Option.bind_some, nI_1]
  have m14 : (va_up (va_up I' 15 (upd (I' 15) j (plc I j (I 1 15)))) 14 (upd (va_up I' 15 (upd (I' 15) j (plc I j (I 1 15))) 14) j (bn (shn I nw j)))) 14 = upd (I' 14) j (bn (shn I nw j)) := by rw [up_s, up_n (by decide)]
  have m15 : (va_up (va_up I' 15 (upd (I' 15) j (plc I j (I 1 15)))) 14 (upd (va_up I' 15 (upd (I' 15) j (plc I j (I 1 15))) 14) j (bn (shn I nw j)))) 15 = upd (I' 15) j (plc I j (I 1 15)) := by rw [up_n (by decide), up_s]
  have m1 : (va_up (va_up I' 15 (upd (I' 15) j (plc I j (I 1 15)))) 14 (upd (va_up I' 15 (upd (I' 15) j (plc I j (I 1 15))) 14) j (bn (shn I nw j)))) 1 = I' 1 := by rw [up_n (by decide), up_n (by decide)]
  have mf : FrR I (va_up (va_up I' 15 (upd (I' 15) j (plc I j (I 1 15)))) 14 (upd (va_up I' 15 (upd (I' 15) j (plc I j (I 1 15))) 14) j (bn (shn I nw j)))) [14, 15] [18, 19] := (hf.tr (FrR.up (by decide) (by simp))).tr (FrR.up (by decide) (by simp))
  generalize va_up (va_up I' 15 (upd (I' 15) j (plc I j (I 1 15)))) 14 (upd (va_up I' 15 (upd (I' 15) j (plc I j (I 1 15))) 14) j (bn (shn I nw j))) = M at m14 m15 m1 mf ⊢
  have final : Ly1 I (va_up M 1 (upd (I' 1) 19 (nI (cnt (inV I nw) (j + 1))))) nw (j + 1) := by
    refine ⟨?_, ?_, ?_, fun p hp => ?_⟩
    · rw [← m1]
      exact mf.tr (FrR.up1 (by simp))
    · rw [up_s, upd_n (by decide)]; exact k18
    · rw [up_s, upd_s]
    · rw [up_n (by decide), up_n (by decide), m14, m15]
      by_cases hpj : p = j
      · subst hpj
        rw [upd_s, upd_s]
        exact ⟨rfl, rfl⟩
      · rw [upd_n hpj, upd_n hpj]
        exact kk p (by omega)
  have hc : cnt (inV I nw) (j + 1) = cnt (inV I nw) j + (if inV I nw j = true then 1 else 0) := rfl
  cases hs : shn I nw j with
  | none =>
    have hin : inV I nw j = false := by unfold inV; rw [hs]; rfl
    rw [hc, hin] at final
    simp only [bn, e9l, if_true]
    rw [show nI (cnt (inV I nw) j) + 0 = nI (cnt (inV I nw) j + 0) from nI_add _ 0]
    exact ⟨_, rfl, final⟩
  | some w =>
    have hin : inV I nw j = true := by unfold inV; rw [hs]; rfl
    have hw := (shn_lt hs).1
    have e9 : (nI w < 0) = False := eq_false (nI_neg (by omega))
    rw [hc, hin] at final
    simp only [bn, e9, if_false]
    exact ⟨_, rfl, final⟩
/-- levels laid up to j -/
def Ly2 (I I' : Nat → Nat → Int32) (np nw j : Nat) : Prop := FrR I I' [14, 15, 16] [18, 19] ∧ I' 1 18 = 1 ∧ I' 1 19 = nI (cnt (inV I nw) np) ∧ (∀ p, p < np → I' 14 p = bn (shn I nw p) ∧ I' 15 p = plc I p (I 1 15)) ∧ ∀ p, p < j → I' 16 p = lvn I np nw p
theorem R_lay2_step (hn : np ≤ 12) (h1 : I 1 1 = nI np) (hnw : nw ≤ 30) (hr : ∀ w, w < nw → wiR I w) (hdg : ∀ w, w < nw → ∀ x, x < 5 → dgR (Dig I w 1 x)) {I' : Nat → Nat → Int32} {j : Nat} (hj : j < np) (hk : Ly2 I I' np nw j) : ∃ I2, sX10_layChart (.inr (.inl (1, nI j, mkR I' J))) = some (.inl (.inr (.inl (1, nI (j + 1), mkR I2 J)))) ∧ Ly2 I I2 np nw (j + 1) := by
  have hj12 : j < 12 := by omega
  obtain ⟨hf, k18, k19, kk, k16⟩ := hk
  have hraw := raw_fr hf (by simp) (by simp)
  have g1 : I' 1 1 = nI np := by rw [hf.2 1 (by simp)]; exact h1
  have e1 : ¬ nI np ≤ nI j := nI_ge hj (by omega)
  have final : Ly2 I (va_up I' 16 (upd (I' 16) j (lvn I np nw j))) np nw (j + 1) := by
    refine ⟨hf.tr (FrR.up (by decide) (by simp)), ?_, ?_, fun p hp => ?_, fun p hp => ?_⟩
    · rw [up_n (by decide)]; exact k18
    · rw [up_n (by decide)]; exact k19
    · rw [up_n (by decide), up_n (by decide)]; exact kk p hp
    · rw [up_s]
      by_cases hpj : p = j
      · subst hpj
        rw [upd_s]
      · rw [upd_n hpj]
        exact k16 p (by omega)
  show ∃ I2, bX10_layChart_119 (mkR I' J) 1 (nI j) = _ ∧ _
  unfold bX10_layChart_119 bX10_layChart_161
  simp only [rI, g1, rP20, rP22, rL14 rfl hj12, (kk j hj).1, rIs, rS16 rfl hj12, Option.bind_some, if_neg e1, nI_1]
  unfold lvn at final
  cases hs : shn I nw j with
  | none =>
    rw [hs] at final
    simp only [bn, if_neg m9lt]
    exact ⟨_, rfl, final⟩
  | some w =>
    rw [hs] at final
    have hw := shn_lt hs
    have e0 : (0 ≤ nI w) = True := eq_true (nI_pos' (by omega))
    have hsh : ∀ p, shn I' nw p = shn I nw p := fun p => raw_c (fun I => shn I nw p) (fun I => shn_raw I nw p) hraw
    have hpl : ∀ p, plc I' p (I' 1 15) = plc I p (I 1 15) := fun p => by
      rw [hf.2 15 (by simp)]
      exact congrFun (raw_c (fun I => plc I p) (fun _ => rfl) hraw) (I 1 15)
    have hl : Laid1 I' np nw := fun p hp => by rw [hsh, hpl]; exact kk p hp
    have hmn : mnd I' np nw w j = mnd I np nw w j := raw_c (fun I => mnd I np nw w j) (fun I => mnd_raw I np nw w j) hraw
    have hDg : ∀ w, Dig I' w 1 = Dig I w 1 := fun w => Dig_c (hf.1 11 (by decide) (by simp)) 1
    have hr' : ∀ w, w < nw → wiR I' w := fun w hw => (hr w hw).st (fun x _ => by rw [hf.1 11 (by decide) (by simp)]) (by rw [hf.1 12 (by decide) (by simp)]) (by rw [hf.1 13 (by decide) (by simp)])
    have h8 : I' 8 w = nI j := by rw [hf.1 8 (by decide) (by simp)]; exact hw.2.1.1
    have hme := R_mendedOf (J := J) g1 hn hnw hl hr' (fun x hx => by rw [hDg]; exact hdg w hw.1 x hx) hw.1 h8 hj
    rw [hmn] at hme
    simp only [bn, e0, if_true]
    simp only [hme, R_levelBy hj12, hf.1 5 (by decide) (by simp), Option.bind_some]
    exact ⟨_, rfl, final⟩
end LA
