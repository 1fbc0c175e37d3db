/-! levels; the reading nearest to a guess -/
def lvl (ht press : Int32) : Int32 := (if 500 ≤ press / 100 then 9000 + press / 100 else 10000 + press / 100) + byd (12 * ht) 100
def nst (ds : Nat → Int32) (b : Option Nat) (r : Nat) : Option Nat := match b with
  | none => some r
  | some m => if ds m ≤ ds r then some m else some r
/-- the first of the least -/
def near (ds : Nat → Int32) (L : List Nat) : Option Nat := L.foldl (nst ds) none
theorem near_app (ds : Nat → Int32) (L : List Nat) (r : Nat) : near ds (L ++ [r]) = nst ds (near ds L) r := by
  unfold near
  rw [List.foldl_append]
  rfl
theorem near_mem (ds : Nat → Int32) (L : List Nat) : ∀ r, near ds L = some r → r ∈ L := by
  suffices h : ∀ (L : List Nat) (b : Option Nat) (r : Nat), L.foldl (nst ds) b = some r → r ∈ L ∨ b = some r from fun r hr => (h L none r hr).elim id (fun q => by cases q)
  intro L
  induction L with
  | nil => intro b r h; exact .inr h
  | cons x L ih =>
    intro b r h
    rcases ih (nst ds b x) r h with h1 | h1
    · exact .inl (List.mem_cons_of_mem _ h1)
    · unfold nst at h1
      cases b with
      | none => cases h1; exact .inl (List.mem_cons_self ..)
      | some m =>
        simp only at h1
        split at h1
        · cases h1; exact .inr rfl
        · cases h1; exact .inl (List.mem_cons_self ..)
def bn (o : Option Nat) : Int32 := match o with
  | none => -9
  | some r => nI r
theorem byd_c (x : Int32) : fX10_by (x * 12) 100 = some (byd (12 * x) 100) := by rw [R_by (by decide), Int32.mul_comm]
section NE
variable {S : MS} {I : Nat → Nat → Int32} {J : Nat → Nat → Int64} {a q : Nat}
theorem R_levelBy {p : Nat} (hp : p < 12) (x : Int32) : fX10_levelBy (mkR I J) 1 (nI p) x = some (lvl (I 5 p) x) := by
  unfold fX10_levelBy bX10_levelBy_0 bX10_levelBy_22 lvl
  simp only [Option.bind_some, rP5, rL5 rfl hp, byd_c]
  split
  · rw [Int32.add_comm (x / 100) 9000]
  · rw [Int32.add_comm (x / 100) 10000]
theorem C_levelOf (h : m_at S a 9) (x : Int32) : fX8_levelOf S a x = some (lvl (m_I S a 3) x) := by
  unfold fX8_levelOf bX8_levelOf_0 bX8_levelOf_25 lvl
  simp only [Option.bind_some, at_gI h, C_floorDiv (m := 100) (n := 100) rfl (by decide)]
  split <;> rfl
/-- how far a press's level is from a guess -/
def dsl (ht guess : Int32) (r : Nat) : Int32 := ab (lvl ht (nI r) - guess)
theorem RD_lt {D : Nat → Int32} {g r j : Nat} (hj : j ≤ 10000) (h : r ∈ pre (rdN (dsO D) (dO (D 4)) g) j) : r < 100000 := by
  unfold pre at h
  obtain ⟨n, hn, hr⟩ := List.mem_filterMap.mp h
  rw [List.mem_range] at hn
  exact rdN_lt (by omega) hr
theorem R_mendLoop {w p : Nat} (hw : w < 30) (hp : p < 12) (hq : I 8 w = nI p) (hr : ∀ x, x < 5 → dgR (Dig I w 1 x)) (guess : Int32) : hX10_mendedOf_29 (mkR I J) 1 (nI w) guess (-9) 0 = some (bn (near (dsl (I 5 p) guess) (RD (Dig I w 1) 1))) := by
  generalize hpp : rdN (dsO (Dig I w 1)) (dO (Dig I w 1 4)) 1 = pp
  have hRD : RD (Dig I w 1) 1 = pre pp 10000 := by unfold RD; rw [hpp]
  rw [hRD]
  obtain ⟨N, hN⟩ : ∃ N, N = 10000 := ⟨_, rfl⟩
  rw [← hN]
  refine lim_it2 (st := fun j => (1, nI w, guess, bn (near (dsl (I 5 p) guess) (pre pp j)), nI j)) N (fun j hj => ?_) ?_
  · show bX10_mendedOf_29 (mkR I J) 1 (nI w) guess (bn (near (dsl (I 5 p) guess) (pre pp j))) (nI j) = _
    have hj : j < 10000 := by omega
    have hread : fX10_readingOf (mkR I J) 1 (nI w) 1 (nI j) = _ := R_readingOf (g := 1) hw (by omega) hj hr
    unfold bX10_mendedOf_29 bX10_mendedOf_92 bX10_mendedOf_95
    rw [if_neg (show ¬ (10000 : Int32) ≤ nI j from nI_ge (b := 10000) hj (by omega)), rIs, Option.bind_some, hread, hpp, Option.bind_some]
    cases hx : pp j with
    | none => simp only [if_pos m1lt, Option.bind_some, nI_1, pre_n hx]
    | some r =>
      have hr := rdN_lt hj (hpp ▸ hx)
      rw [if_neg (nI_neg (show r < 2 ^ 31 by omega)), pre_p hx, near_app]
      cases hn : near (dsl (I 5 p) guess) (pre pp j) with
      | none => simp only [bn, nst, if_pos (show (-9 : Int32) < 0 by decide), Option.bind_some, nI_1]
      | some m =>
        have hm : m < 100000 := RD_lt (g := 1) (D := Dig I w 1) (j := j) (by omega) (by rw [hpp]; exact near_mem _ _ _ hn)
        have e9 : (nI m < 0) = False := eq_false (nI_neg (show m < 2 ^ 31 by omega))
        by_cases hle : ab (lvl (I 5 p) (nI m) - guess) ≤ ab (lvl (I 5 p) (nI r) - guess)
        · simp only [bn, nst, e9, if_false, Option.bind_some, nI_1, rP9, rL8 rfl hw, hq, R_levelBy hp, R_sizeOf, dsl, hle, if_true]
        · simp only [bn, nst, e9, if_false, Option.bind_some, nI_1, rP9, rL8 rfl hw, hq, R_levelBy hp, R_sizeOf, dsl, hle]
  · show bX10_mendedOf_29 (mkR I J) 1 (nI w) guess (bn (near (dsl (I 5 p) guess) (pre pp N))) (nI N) = _
    unfold bX10_mendedOf_29 bX10_mendedOf_92 bX10_mendedOf_95
    rw [if_pos (by rw [hN]; decide)]
theorem C_nearest (h : Wd S a q) (guess : Int32) : fX8_nearestPress S a guess = some (bn (near (dsl (m_I S a 3) guess) (RD (Eg S q 1) 1))) := by
  have hg : (1 : Nat) < 3 := by omega
  unfold fX8_nearestPress bX8_nearestPress_0
  rw [at_is h.1, Option.bind_some, show fX8_countFillings S a 1 = _ from C_ways h hg, Option.bind_some, fin_l, ← RD_C h hg]
  have hwb := ways_b (dsO (Eg S q 1))
  have hfb := fou_b (dsO (Eg S q 1)) (dsO_ok (h.rg hg))
  have hw4 := dsO_len (Eg S q 1)
  generalize hp : (fun f => rdN (dsO (Eg S q 1)) (dO (Eg S q 1 4)) 1 (fou (dsO (Eg S q 1)) f)) = p
  have hf : ∀ j, j < 10000 → fX8_filled S a 1 (nI j) = some (match p j with | some r => nI r | none => -9) := fun j hj => by rw [← hp]; exact C_filled h hg hj
  have hpb : ∀ j r, p j = some r → r < 100000 := fun j r hr => by
    rw [← hp] at hr
    have h1 := rdN_b hr
    have h2 := hfb j
    omega
  have hpm : ∀ j r, r ∈ pre p j → r < 100000 := fun j r hr => by
    unfold pre at hr
    obtain ⟨n, -, hn⟩ := List.mem_filterMap.mp hr
    exact hpb n r hn
  generalize hD : dsl (m_I S a 3) guess = D
  have hD' : ∀ r, ab (lvl (m_I S a 3) (nI r) - guess) = D r := fun r => by rw [← hD]; rfl
  refine lim_it2 (st := fun j => (a, guess, bn (near D (pre p j)), (match near D (pre p j) with | none => 0 | some m => D m), nI (ways (dsO (Eg S q 1))), nI j)) (ways (dsO (Eg S q 1))) (fun j hj => ?_) ?_
  · show bX8_nearestPress_15 S a guess (bn (near D (pre p j))) (match near D (pre p j) with | none => 0 | some m => D m) (nI (ways (dsO (Eg S q 1)))) (nI j) = _
    unfold bX8_nearestPress_15 bX8_nearestPress_63 bX8_nearestPress_69
    rw [if_neg (nI_ge hj (by omega)), at_is h.1, Option.bind_some, hf j (by omega), Option.bind_some]
    cases hx : p j with
    | none => simp only [if_true, Option.bind_some, nI_1, pre_n hx]
    | some r =>
      have hr := hpb j r hx
      simp only [if_neg (m9 (show r < 2 ^ 31 by omega)), Option.bind_some, pre_p hx, near_app, C_levelOf h.1, C_abs, hD', nI_1]
      cases hn : near D (pre p j) with
      | none => simp only [bn, nst, if_true]
      | some m =>
        have hm : m < 100000 := hpm j m (near_mem _ _ _ hn)
        have e9 : (nI m = -9) = False := eq_false (m9 (show m < 2 ^ 31 by omega))
        by_cases hle : D m ≤ D r
        · simp only [bn, nst, e9, hle, if_true, if_false]
        · simp only [bn, nst, e9, hle, if_false]
  · show bX8_nearestPress_15 S a guess (bn (near D (pre p _))) (match near D (pre p _) with | none => 0 | some m => D m) (nI (ways (dsO (Eg S q 1)))) (nI (ways (dsO (Eg S q 1)))) = _
    unfold bX8_nearestPress_15 bX8_nearestPress_63 bX8_nearestPress_69
    rw [if_pos (nI_le (Nat.le_refl _) (by omega))]
end NE
