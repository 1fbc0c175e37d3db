/-! matching, the reference, all rows -/
section RN9
variable {I I' : Nat → Nat → Int32} {J : Nat → Nat → Int64} {cC cR : Nat → Nat → Int} {o n : Nat}
theorem z1e6 : (1000000 : Int32) = zI 1000000 := by decide
theorem z30 : (30 : Int32) = zI 30 := by decide
theorem RC_b (h : PC cC cR o n) (k : Nat) : ∀ t r, k ≤ o → r < (n + 1) ^ k → -30 * (k : Int) ≤ RC cR o n k t r ∧ RC cR o n k t r ≤ 1000000 * (k : Int) := by
  induction k with
  | zero => intro t r _ _; unfold RC; omega
  | succ k ih =>
    intro t r hk hr
    have hB : 0 < (n + 1) ^ k := Nat.pow_pos (by omega)
    have hm : r % (n + 1) ^ k < (n + 1) ^ k := Nat.mod_lt _ hB
    unfold RC
    split
    · have := ih t (r % (n + 1) ^ k) (by omega) hm
      omega
    · have h1 := ih (t ||| 2 ^ (r / (n + 1) ^ k)) (r % (n + 1) ^ k) (by omega) hm
      have h2 := h (o - k - 1) (r / (n + 1) ^ k) (by omega) (by omega)
      split <;> omega
theorem R_rowL (hPC : PC cC cR o n) (ho : o ≤ 5) (hn : n ≤ 5) (h0 : I 21 0 = nI o) (h1 : I 21 1 = nI n) (hp : ∀ f g, f < o → g < n → fX10_costOf (mkR I J) 1 (nI f) (nI g) = some (zI (cR f g))) {T R : Int32} (k : Nat) : ∀ {t r : Nat} {z : Int}, k ≤ o → r < (n + 1) ^ k → ∃ x3 x4 t', lim sX10_findJoining (.inr (.inr (1, T, R, nI ((n + 1) ^ k), nI r, nI t, zI z, nI (o - k), mkR I J))) = lim sX10_findJoining (.inr (.inr (1, T, R, x3, x4, t', zI (z + RC cR o n k t r), nI o, mkR I J))) := by
  induction k with
  | zero =>
    intro t r z _ hr
    refine ⟨nI ((n + 1) ^ 0), nI r, nI t, ?_⟩
    rw [show RC cR o n 0 t r = 0 from rfl, Int.add_zero, Nat.sub_zero]
  | succ k ih =>
    intro t r z hk hr
    obtain ⟨bp1, bp2⟩ := bpow hn (k := k + 1) (by omega)
    obtain ⟨cp1, cp2⟩ := bpow hn (k := k) (by omega)
    obtain ⟨hd, hm⟩ := bdig hn hr
    have e1 : nI n + (1 : Int32) = nI (n + 1) := nI_1 n
    have e2 : nI ((n + 1) ^ (k + 1)) / nI (n + 1) = nI ((n + 1) ^ k) := by rw [nI_div (by omega) (by omega) (by omega), bdiv]
    have e3 : nI r / nI ((n + 1) ^ k) = nI (r / (n + 1) ^ k) := nI_div (by omega) (by omega) (by omega)
    have e4 : nI r - nI (r / (n + 1) ^ k) * nI ((n + 1) ^ k) = nI (r % (n + 1) ^ k) := by rw [← e3]; exact nI_rem (by omega) (by omega) (by omega)
    have hRC : RC cR o n (k + 1) t r = if n ≤ r / (n + 1) ^ k then RC cR o n k t (r % (n + 1) ^ k) else (if t.testBit (r / (n + 1) ^ k) = true then 1000000 else cR (o - k - 1) (r / (n + 1) ^ k) - 30) + RC cR o n k (t ||| 2 ^ (r / (n + 1) ^ k)) (r % (n + 1) ^ k) := rfl
    obtain ⟨v, hv⟩ : ∃ v, v = r / (n + 1) ^ k := ⟨_, rfl⟩
    rw [← hv] at e3 e4 hd hRC
    have e5 : nI (o - (k + 1)) + 1 = nI (o - k) := by rw [nI_1, show o - (k + 1) + 1 = o - k by omega]
    have hf : o - (k + 1) = o - k - 1 := by omega
    have head : lim sX10_findJoining (.inr (.inr (1, T, R, nI ((n + 1) ^ (k + 1)), nI r, nI t, zI z, nI (o - (k + 1)), mkR I J))) = if n ≤ v then lim sX10_findJoining (.inr (.inr (1, T, R, nI ((n + 1) ^ k), nI (r % (n + 1) ^ k), nI t, zI z, nI (o - k), mkR I J))) else lim sX10_findJoining (.inr (.inr (1, T, R, nI ((n + 1) ^ k), nI (r % (n + 1) ^ k), nI (t ||| 2 ^ v), zI (z + (if t.testBit v = true then 1000000 else cR (o - k - 1) v - 30)), nI (o - k), mkR I J))) := by
      rw [lim_eq]
      show fin sX10_findJoining (bX10_findJoining_74 (mkR I J) 1 T R (nI ((n + 1) ^ (k + 1))) (nI r) (nI t) (zI z) (nI (o - (k + 1)))) = _
      unfold bX10_findJoining_74 bX10_findJoining_148 bX10_findJoining_160
      rw [rP28, Option.bind_some, rL21 (show (0 : Int32) = nI 0 from rfl) (by omega), h0, Option.bind_some, if_neg (nI_ge (by omega) (by omega)), Option.bind_some, rL21 (show (1 : Int32) = nI 1 from rfl) (by omega), h1, Option.bind_some, e1, nz_n (by omega) (by omega), Option.bind_some, e2, Option.bind_some, nz_n (by omega) (by omega), Option.bind_some, Option.bind_some, Option.bind_some, Option.bind_some, Option.bind_some, rL21 (show (1 : Int32) = nI 1 from rfl) (by omega), h1, Option.bind_some, e3, e4, e5]
      by_cases hvn : n ≤ v
      · rw [if_pos (nI_le hvn (by omega)), if_pos hvn, Option.bind_some, fin_l]
      · have hv12 : v < 12 := by omega
        rw [if_neg (nI_ge (by omega) (by omega)), if_neg hvn, R_hasBit hv12, Option.bind_some, sh1 v hv12, nI_or]
        by_cases hb : t.testBit v = true
        · rw [if_pos hb, if_pos hb, if_neg (by decide), z1e6, zI_add, Option.bind_some, Option.bind_some, Option.bind_some, fin_l]
        · rw [if_neg hb, if_neg hb, if_pos rfl, rIs, Option.bind_some, hf, hp (o - k - 1) v (by omega) (by omega), Option.bind_some, z30, zI_sub, zI_add, Option.bind_some, Option.bind_some, Option.bind_some, fin_l]
    rw [head]
    by_cases hvn : n ≤ v
    · rw [if_pos hvn]
      rw [if_pos hvn] at hRC
      rw [hRC]
      exact ih (by omega) hm
    · rw [if_neg hvn]
      rw [if_neg hvn] at hRC
      obtain ⟨x3, x4, t', u⟩ := ih (t := t ||| 2 ^ v) (z := z + (if t.testBit v = true then 1000000 else cR (o - k - 1) v - 30)) (by omega) hm
      refine ⟨x3, x4, t', ?_⟩
      rw [u, hRC, Int.add_assoc]
theorem R_findJoining (hPC : PC cC cR o n) (ho : o ≤ 5) (hn : n ≤ 5) (h0 : I 21 0 = nI o) (h1 : I 21 1 = nI n) (hp : ∀ I', FrR I I' [30] [38] → ∀ f g, f < o → g < n → fX10_costOf (mkR I' J) 1 (nI f) (nI g) = some (zI (cR f g))) : ∃ I', fX10_findJoining (mkR I J) 1 = some (mkR I' J) ∧ FrR I I' [30] [38] ∧ I' 1 38 = zI (Lc cC o n o 0) ∧ ∀ f, f < o → I' 30 f = pn n (fp cC o n (o - f - 1) (tk cC o n f)) := by
  obtain ⟨tp1, tp2⟩ := bpow hn (k := o) ho
  have h2n : 0 < 2 ^ n := Nat.pow_pos (by decide)
  have hFl := FA_lt (cC := cC) (o := o) (n := n) o 0
  have hLb := Lc_b hPC hn o 0 (Nat.le_refl _) h2n
  have hp0 : pop 0 12 = 0 := by decide
  rw [hp0] at hLb
  have hW : Wt cC o n o 0 = Lc cC o n o 0 - 15 * ((o : Int) + n) := by
    unfold Wt
    rw [hp0]
    omega
  have n21 : ∀ {K : Nat → Nat → Int32}, FrR I K [30] [38] → K 21 0 = nI o ∧ K 21 1 = nI n := fun {K} hf => by
    rw [hf.1 21 (by decide) (by simp)]
    exact ⟨h0, h1⟩
  -- the power
  have pw : lim sX10_findJoining (.inl (1, nI ((n + 1) ^ 0), nI 0, mkR I J)) = lim sX10_findJoining (.inl (1, nI ((n + 1) ^ o), nI o, mkR I J)) := by
    refine lim_it (step := sX10_findJoining) (st := fun j => .inl (1, nI ((n + 1) ^ j), nI j, mkR I J)) o (fun j hj => ?_)
    show bX10_findJoining_4 (mkR I J) 1 (nI ((n + 1) ^ j)) (nI j) = _
    have e1 : nI n + (1 : Int32) = nI (n + 1) := nI_1 n
    unfold bX10_findJoining_4
    rw [rP28, Option.bind_some, rL21 (show (0 : Int32) = nI 0 from rfl) (by omega), h0, Option.bind_some, if_neg (nI_ge hj (by omega)), Option.bind_some, rL21 (show (1 : Int32) = nI 1 from rfl) (by omega), h1, Option.bind_some, e1, nI_mul, Option.bind_some, nI_1, Option.bind_some, Nat.pow_succ]
  -- the rows
  obtain ⟨s, ⟨I2, v, hs, f2, k38, kb, kl, kg⟩, he⟩ : ∃ s, (∃ I2 v, s = .inr (.inl (1, nI ((n + 1) ^ o), nI ((n + 1) ^ o), mkR I2 J)) ∧ FrR I I2 [30] [38] ∧ I2 1 38 = zI v ∧ (0 ≤ v ∧ v ≤ 1000000) ∧ ((n + 1) ^ o ≤ FA cC o n o 0 → Lc cC o n o 0 < v) ∧ (FA cC o n o 0 < (n + 1) ^ o → v = Lc cC o n o 0 ∧ ∀ f, f < o → I2 30 f = pn n (fp cC o n (o - f - 1) (tk cC o n f)))) ∧ lim sX10_findJoining (.inr (.inl (1, nI ((n + 1) ^ o), nI 0, mkR (va_up I 1 (upd (I 1) 38 1000000)) J))) = lim sX10_findJoining s := by
    have all : ∀ ρ, ρ ≤ (n + 1) ^ o → ∃ I2 v, FrR I I2 [30] [38] ∧ I2 1 38 = zI v ∧ (0 ≤ v ∧ v ≤ 1000000) ∧ (ρ ≤ FA cC o n o 0 → Lc cC o n o 0 < v) ∧ (FA cC o n o 0 < ρ → v = Lc cC o n o 0 ∧ ∀ f, f < o → I2 30 f = pn n (fp cC o n (o - f - 1) (tk cC o n f))) ∧ lim sX10_findJoining (.inr (.inl (1, nI ((n + 1) ^ o), nI 0, mkR (va_up I 1 (upd (I 1) 38 1000000)) J))) = lim sX10_findJoining (.inr (.inl (1, nI ((n + 1) ^ o), nI ρ, mkR I2 J))) := by
      intro ρ
      induction ρ with
      | zero => intro _; exact ⟨_, 1000000, FrR.up1 (by simp), by rw [up_s, upd_s]; rfl, ⟨by omega, by omega⟩, fun _ => by omega, fun q => by omega, rfl⟩
      | succ ρ ih =>
        intro hρ
        obtain ⟨I2, v, f2, k38, kb, kl, kg, he⟩ := ih (by omega)
        obtain ⟨z0, z1⟩ := n21 f2
        obtain ⟨c1, c2, c3⟩ := FA_ok hPC ho hn o 0 ρ (Nat.le_refl _) h2n (by omega)
        have hRb := RC_b hPC o 0 ρ (Nat.le_refl _) (by omega)
        obtain ⟨x3, x4, t', u⟩ := R_rowL (J := J) (T := nI ((n + 1) ^ o)) (R := nI ρ) hPC ho hn z0 z1 (hp I2 f2) o (t := 0) (r := ρ) (z := 15 * ((o : Int) + n)) (Nat.le_refl _) (by omega)
        obtain ⟨w, hw⟩ : ∃ w, w = 15 * ((o : Int) + n) + RC cR o n o 0 ρ := ⟨_, rfl⟩
        rw [← hw, Nat.sub_self] at u
        have e1 : lim sX10_findJoining (.inr (.inl (1, nI ((n + 1) ^ o), nI ρ, mkR I2 J))) = lim sX10_findJoining (.inr (.inr (1, nI ((n + 1) ^ o), nI ρ, x3, x4, t', zI w, nI o, mkR I2 J))) := by
          rw [← u, lim_eq]
          show fin sX10_findJoining (bX10_findJoining_40 (mkR I2 J) 1 (nI ((n + 1) ^ o)) (nI ρ)) = _
          have e15 : (15 : Int32) * (nI o + nI n) = zI (15 * ((o : Int) + n)) := by
            show zI 15 * (zI o + zI n) = _
            rw [zI_add, zI_mul]
          unfold bX10_findJoining_40
          rw [if_neg (nI_ge (by omega) (by omega)), rP28, Option.bind_some, rL21 (show (0 : Int32) = nI 0 from rfl) (by omega), z0, Option.bind_some, Option.bind_some, rL21 (show (1 : Int32) = nI 1 from rfl) (by omega), z1, Option.bind_some, e15, Option.bind_some, fin_l]
          rfl
        have hcmp : zI v ≤ zI w ↔ v ≤ w := by rw [i_le, zI_t (by omega) (by omega), zI_t (by omega) (by omega)]
        have e2 : bX10_findJoining_74 (mkR I2 J) 1 (nI ((n + 1) ^ o)) (nI ρ) x3 x4 t' (zI w) (nI o) = if v ≤ w then some (.inl (.inr (.inl (1, nI ((n + 1) ^ o), nI (ρ + 1), mkR I2 J)))) else (fX10_keepRow (mkR (va_up I2 1 (upd (I2 1) 38 (zI w))) J) 1 (nI ρ) (nI ((n + 1) ^ o))).bind fun S184 => some (.inl (.inr (.inl (1, nI ((n + 1) ^ o), nI (ρ + 1), S184)))) := by
          unfold bX10_findJoining_74 bX10_findJoining_187
          rw [rP28, Option.bind_some, rL21 (show (0 : Int32) = nI 0 from rfl) (by omega), z0, Option.bind_some, if_pos (nI_le (Nat.le_refl _) (by omega)), rI, k38, Option.bind_some, nI_1, Option.bind_some]
          by_cases h : v ≤ w
          · rw [if_pos (hcmp.mpr h), if_pos h]
          · rw [if_neg (fun q => h (hcmp.mp q)), if_neg h, rSI, Option.bind_some, rIs, Option.bind_some]
            rfl
        by_cases hvw : v ≤ w
        · refine ⟨I2, v, f2, k38, kb, fun q => kl (by omega), fun q => ?_, ?_⟩
          · by_cases e : ρ = FA cC o n o 0
            · exfalso
              have := c2 e
              have := kl (by omega)
              omega
            · exact kg (by omega)
          · rw [he, e1, lim_eq]
            show fin sX10_findJoining (bX10_findJoining_74 (mkR I2 J) 1 (nI ((n + 1) ^ o)) (nI ρ) x3 x4 t' (zI w) (nI o)) = _
            rw [e2, if_pos hvw, fin_l]
        · have hle : ρ ≤ FA cC o n o 0 := by
            rcases Nat.lt_or_ge (FA cC o n o 0) ρ with q | q
            · have := (kg q).1
              omega
            · exact q
          obtain ⟨K, hK⟩ : ∃ K, K = va_up I2 1 (upd (I2 1) 38 (zI w)) := ⟨_, rfl⟩
          have fK : FrR I2 K [] [38] := by rw [hK]; exact FrR.up1 (by simp)
          obtain ⟨y0, y1⟩ := n21 (f2.tr (fK.mono (by simp) (by simp)))
          obtain ⟨I3, u1, u2, -, u4⟩ := R_keepL (J := J) (cC := cC) ho hn o (I := K) (r := ρ) (Nat.le_refl _) (by omega) y0 y1
          rw [Nat.sub_self] at u1 u4
          have i38 : I3 1 38 = zI w := by rw [u2.2 38 (by simp), hK, up_s, upd_s]
          refine ⟨I3, w, f2.tr ((fK.mono (by simp) (by simp)).tr (u2.mono (by simp) (by simp))), i38, ⟨by omega, by omega⟩, fun q => ?_, fun q => ?_, ?_⟩
          · have := c1 (by omega)
            omega
          · have e : ρ = FA cC o n o 0 := by omega
            have := c2 e
            refine ⟨by omega, fun f hf => u4 e f (by omega) hf⟩
          · rw [he, e1, lim_eq]
            show fin sX10_findJoining (bX10_findJoining_74 (mkR I2 J) 1 (nI ((n + 1) ^ o)) (nI ρ) x3 x4 t' (zI w) (nI o)) = _
            have e3 : fX10_keepRow (mkR K J) 1 (nI ρ) (nI ((n + 1) ^ o)) = some (mkR I3 J) := by
              unfold fX10_keepRow bX10_keepRow_0
              rw [fin_l]
              exact u1
            rw [e2, if_neg hvw, ← hK, e3, Option.bind_some, fin_l]
    obtain ⟨I2, v, a1, a2, a3, a4, a5, a6⟩ := all _ (Nat.le_refl _)
    exact ⟨_, ⟨I2, v, rfl, a1, a2, a3, a4, a5⟩, a6⟩
  obtain ⟨hv, hd⟩ := kg hFl
  refine ⟨I2, ?_, f2, by rw [k38, hv], hd⟩
  unfold fX10_findJoining bX10_findJoining_0
  rw [fin_l, show lim sX10_findJoining (.inl (1, 1, 0, mkR I J)) = _ from pw, lim_eq]
  show fin sX10_findJoining (bX10_findJoining_4 (mkR I J) 1 (nI ((n + 1) ^ o)) (nI o)) = _
  unfold bX10_findJoining_4
  rw [rP28, Option.bind_some, rL21 (show (0 : Int32) = nI 0 from rfl) (by omega), h0, Option.bind_some, if_pos (nI_le (Nat.le_refl _) (by omega)), rSI, Option.bind_some, fin_l, show lim sX10_findJoining (.inr (.inl (1, nI ((n + 1) ^ o), 0, mkR (va_up I 1 (upd (I 1) 38 1000000)) J))) = _ from he, hs]
  apply lim_end
  show bX10_findJoining_40 (mkR I2 J) 1 (nI ((n + 1) ^ o)) (nI ((n + 1) ^ o)) = _
  unfold bX10_findJoining_40
  rw [if_pos (nI_le (Nat.le_refl _) (by omega))]
end RN9
