/-! drift -/
/-- the step of a drift: -n and so many more -/
def uu (n a : Nat) : Int32 := -nI n + nI a
theorem uu_0 (n : Nat) : -nI n = uu n 0 := by
  unfold uu
  rw [show nI 0 = (0 : Int32) from rfl, Int32.add_zero]
theorem uu_s (n a : Nat) : uu n a + 1 = uu n (a + 1) := by
  unfold uu
  rw [Int32.add_assoc, nI_1]
theorem uu_i {n a : Nat} (hn : n ≤ 4) (ha : a ≤ 20) : (uu n a).toInt = (a : Int) - n := by
  unfold uu
  have h1 := nI_toInt (show n < 2 ^ 31 by omega)
  have h2 := nI_toInt (show a < 2 ^ 31 by omega)
  have h3 : (-nI n).toInt = -(n : Int) := by rw [i_neg (by rw [h1]; omega), h1]
  rw [i_add (by rw [h2, h3]; omega) (by rw [h2, h3]; omega), h2, h3]
  omega
theorem uu_lt {n a : Nat} (hn : n ≤ 4) (ha : a ≤ 20) : (nI n < uu n a) = (2 * n + 1 ≤ a) := by
  apply propext
  rw [i_lt, uu_i hn ha, nI_toInt (by omega)]
  omega
def bvl (n a b : Nat) : Nat := 100 * (a + 11 - n) + (b + 11 - n)
theorem bvl_e {n a b : Nat} (hn : n ≤ 4) (ha : a ≤ 20) (hb : b ≤ 20) : (100 : Int32) * (uu n a + 11) + uu n b + 11 = nI (bvl n a b) := by
  have e1 : ∀ c, c ≤ 20 → uu n c + 11 = nI (c + 11 - n) := fun c hc => by
    rw [i_eq, i_add, uu_i hn hc, n11, nI_toInt (by omega)]
    · omega
    · rw [uu_i hn hc, n11]; omega
    · rw [uu_i hn hc, n11]; omega
  rw [Int32.add_assoc, e1 a ha, e1 b hb, show (100 : Int32) = nI 100 from rfl, nI_mul, nI_add]
  rfl
/-- a whole comparison, closed to unfolding -/
noncomputable def cmr (V K : Nat → Int32) (u v : Int32) : Int32 × Int32 × Int32 := Classical.choose (⟨cst V K u v 144, rfl⟩ : ∃ t, t = cst V K u v 144)
theorem cmr_e (V K : Nat → Int32) (u v : Int32) : cst V K u v 144 = cmr V K u v := (Classical.choose_spec (⟨cst V K u v 144, rfl⟩ : ∃ t, t = cst V K u v 144)).symm
/-- the best so far: its number, sum, how many -/
abbrev DR : Type := Option (Nat × Int32 × Int32)
def drs (t : Int32 × Int32 × Int32) (w : Nat) (o : DR) : DR := if t.1 ≤ 0 then o else match o with
  | none => some (w, t.2.1, t.1)
  | some (w', s, m) => if 0 ≤ lg_cmp (t.2.1.toInt64 * m.toInt64) (s.toInt64 * t.1.toInt64) then some (w', s, m) else some (w, t.2.1, t.1)
noncomputable def drI (V K : Nat → Int32) (n a : Nat) (o : DR) : Nat → DR
  | 0 => o
  | b + 1 => drs (cmr V K (uu n a) (uu n b)) (bvl n a b) (drI V K n a o b)
noncomputable def drO (V K : Nat → Int32) (n : Nat) : Nat → DR
  | 0 => none
  | a + 1 => drI V K n a (drO V K n a) (2 * n + 1)
def drB (o : DR) : Prop := match o with
  | none => True
  | some (w, _, _) => w < 100000
theorem drI_s {V K : Nat → Int32} {n a b : Nat} {o : DR} : drI V K n a o (b + 1) = drs (cmr V K (uu n a) (uu n b)) (bvl n a b) (drI V K n a o b) := rfl
theorem drO_s {V K : Nat → Int32} {n a : Nat} : drO V K n (a + 1) = drI V K n a (drO V K n a) (2 * n + 1) := rfl
theorem drs_b {t : Int32 × Int32 × Int32} {w : Nat} {o : DR} (h : drB o) (hw : w < 100000) : drB (drs t w o) := by
  unfold drs
  split
  · exact h
  · cases o with
    | none => exact hw
    | some q =>
      obtain ⟨w', s, m⟩ := q
      simp only
      split
      · exact h
      · exact hw
theorem drI_b {V K : Nat → Int32} {n a : Nat} {o : DR} (h : drB o) (hn : n ≤ 4) (ha : a ≤ 10) : ∀ b, b ≤ 10 → drB (drI V K n a o b) := by
  intro b
  induction b with
  | zero => intro _; exact h
  | succ b ih => intro hb; exact drs_b (ih (by omega)) (by unfold bvl; omega)
theorem drO_b {V K : Nat → Int32} {n : Nat} (hn : n ≤ 4) : ∀ a, a ≤ 9 → drB (drO V K n a) := by
  intro a
  induction a with
  | zero => intro _; exact trivial
  | succ a ih => intro ha; exact drI_b (ih (by omega)) hn (by omega) _ (by omega)
def drC (o : DR) : Int32 × Int64 × Int64 := match o with
  | none => (-9, 0, 0)
  | some (w, s, m) => (nI w, s.toInt64, m.toInt64)
def drR (o : DR) : Int32 × Int64 × Int64 := match o with
  | none => (-3, 0, 1)
  | some (w, s, m) => (nI w, s.toInt64, m.toInt64)
section DF
variable {S : MS} {I : Nat → Nat → Int32} {J : Nat → Nat → Int64} {np nw ep ew : Nat} {ps ws : Nat → Nat} {V K : Nat → Int32}
theorem C_driftStep {k n a b : Nat} {o : DR} {t : Int32 × Int32 × Int32} (hC : CS S) (hk : k < 4) (hV : ∀ j, j < 144 → m_I S 11 j = V j) (hK : ∀ j, j < 144 → m_I S (36 + k) j = K j) (hn : n ≤ 4) (ha : a ≤ 20) (hb : b < 2 * n + 1) (ho : drB o) : sX0_bestDrift (.inr (8, 36 + k, nI n, (drC o).1, (drC o).2.1, (drC o).2.2, uu n a, uu n b, cB S t)) = some (.inl (.inr (8, 36 + k, nI n, (drC (drs (cmr V K (uu n a) (uu n b)) (bvl n a b) o)).1, (drC (drs (cmr V K (uu n a) (uu n b)) (bvl n a b) o)).2.1, (drC (drs (cmr V K (uu n a) (uu n b)) (bvl n a b) o)).2.2, uu n a, uu n (b + 1), cB S (cmr V K (uu n a) (uu n b))))) := by
  show bX0_bestDrift_23 (cB S t) 8 (36 + k) (nI n) (drC o).1 (drC o).2.1 (drC o).2.2 (uu n a) (uu n b) = _
  have Ct : CS (cB S t) := hC
  have q1 := C_compare (S := cB S t) (k := k) (V := V) (K := K) Ct hk (fun j hj => by rw [cB_o (by decide)]; exact hV j hj) (fun j hj => by rw [cB_o (by omega)]; exact hK j hj) (uu n a) (uu n b)
  rw [cB_cB, cmr_e] at q1
  generalize hc : cmr V K (uu n a) (uu n b) = c at q1
  have Cc : CS (cB S c) := hC
  have k5 : m_I (cB S c) 8 5 = c.1 := by
    unfold cB
    rw [mI_same, upd_n (by decide), upd_n (by decide), upd_s]
  have k6 : m_I (cB S c) 8 6 = c.2.1 := by
    unfold cB
    rw [mI_same, upd_n (by decide), upd_s]
  have hlt : ¬ nI n < uu n b := by rw [uu_lt hn (by omega)]; omega
  unfold bX0_bestDrift_23 bX0_bestDrift_64 bX0_bestDrift_69 bX0_bestDrift_112
  simp only [if_neg hlt, cIs8 Ct, q1, cI8 Cc, k5, k6, bvl_e hn ha (show b ≤ 20 by omega), uu_s, Option.bind_some]
  unfold drs
  cases o with
  | none =>
    simp only [drC, if_true, e10, if_false]
    by_cases h1 : c.1 ≤ 0
    · simp only [h1, if_true]
    · simp only [h1, if_false]
  | some q =>
    obtain ⟨w, s, m⟩ := q
    have hw : w < 100000 := ho
    have e9 : (nI w = -9) = False := eq_false (m9 (by omega))
    simp only [drC, e9, if_false]
    by_cases h1 : c.1 ≤ 0
    · by_cases h2 : 0 ≤ lg_cmp (c.2.1.toInt64 * m.toInt64) (s.toInt64 * c.1.toInt64)
      · simp only [h1, h2, if_true]
      · simp only [h1, h2, if_true, if_false]
    · by_cases h2 : 0 ≤ lg_cmp (c.2.1.toInt64 * m.toInt64) (s.toInt64 * c.1.toInt64)
      · simp only [h1, h2, if_true, if_false]
      · simp only [h1, h2, e10, if_false]
/-- the reference's memory, comparisons aside -/
def Rst (I : Nat → Nat → Int32) (J : Nat → Nat → Int64) (I0 : Nat → Nat → Int32) (J0 : Nat → Nat → Int64) : Prop := (∀ c, rB I0 c = rB I c) ∧ (∀ c, jB J0 c = jB J c) ∧ I0 17 = I 17 ∧ I0 32 = I 32 ∧ FrR I I0 [] [41]
theorem Rst.rf : Rst I J I J := ⟨fun _ => rfl, fun _ => rfl, rfl, rfl, FrR.rf⟩
theorem Rst.B (t u : Int32 × Int32 × Int32) : Rst I J (rB I t) (jB J u) := ⟨fun _ => rB_rB _ _, fun _ => jB_jB _ _, up_n (by decide), up_n (by decide), rB_f t⟩
theorem R_driftStep {k n a b : Nat} {o : DR} {I0 : Nat → Nat → Int32} {J0 : Nat → Nat → Int64} (hr : Rst I J I0 J0) (hk : k < 4) (hV : ∀ j, j < 144 → I 17 j = V j) (hK : ∀ j, j < 144 → I 32 (144 * k + j) = K j) (bV : ∀ k, k < 144 → vB (V k)) (bK : ∀ k, k < 144 → vB (K k)) (hn : n ≤ 4) (ha : a ≤ 20) (hb : b < 2 * n + 1) (ho : drB o) : sX10_drift (.inr (1, nI k, nI n, (drR o).1, (drR o).2.1, (drR o).2.2, uu n a, uu n b, mkR I0 J0)) = some (.inl (.inr (1, nI k, nI n, (drR (drs (cmr V K (uu n a) (uu n b)) (bvl n a b) o)).1, (drR (drs (cmr V K (uu n a) (uu n b)) (bvl n a b) o)).2.1, (drR (drs (cmr V K (uu n a) (uu n b)) (bvl n a b) o)).2.2, uu n a, uu n (b + 1), mkR (rB I (cmr V K (uu n a) (uu n b))) (jB J (cmr V K (uu n a) (uu n b)))))) := by
  show bX10_drift_68 (mkR I0 J0) 1 (nI k) (nI n) (drR o).1 (drR o).2.1 (drR o).2.2 (uu n a) (uu n b) = _
  have q1 := R_layBeside (I := I0) (J := J0) (k := k) (V := V) (K := K) hk (fun j hj => by rw [hr.2.2.1]; exact hV j hj) (fun j hj => by rw [hr.2.2.2.1]; exact hK j hj) bV bK (uu n a) (uu n b)
  rw [hr.1, hr.2.1, cmr_e] at q1
  generalize hc : cmr V K (uu n a) (uu n b) = c at q1
  have k41 : rB I c 1 41 = c.1 := by
    unfold rB
    rw [up_s, upd_s]
  have k42 : jB J c 1 42 = c.2.1.toInt64 := by
    unfold jB
    rw [up_s, up_n (by decide), up_s]
  have hlt : ¬ nI n < uu n b := by rw [uu_lt hn (by omega)]; omega
  unfold bX10_drift_68 bX10_drift_113 bX10_drift_141
  simp only [if_neg hlt, rIs, q1, rI, rJ, k41, k42, bvl_e hn ha (show b ≤ 20 by omega), uu_s, Option.bind_some]
  unfold drs
  by_cases h1 : c.1 ≤ 0
  · simp only [h1, if_true]
  · cases o with
    | none =>
      simp only [drR, h1, if_false, show ((-3 : Int32) < 0) = True from eq_true (by decide), if_true]
    | some q =>
      obtain ⟨w, s, m⟩ := q
      have hw : w < 100000 := ho
      have ew : (nI w < 0) = False := eq_false (nI_neg (by omega))
      simp only [drR, h1, ew, if_false]
      by_cases h2 : 0 ≤ lg_cmp (c.2.1.toInt64 * m.toInt64) (s.toInt64 * c.1.toInt64)
      · simp only [h2, if_true]
      · simp only [h2, if_false]
theorem C_driftRow {k n a : Nat} {o : DR} {t : Int32 × Int32 × Int32} (hC : CS S) (hk : k < 4) (hV : ∀ j, j < 144 → m_I S 11 j = V j) (hK : ∀ j, j < 144 → m_I S (36 + k) j = K j) (hn : n ≤ 4) (ha : a < 2 * n + 1) (ho : drB o) : ∃ t', lim sX0_bestDrift (.inl (8, 36 + k, nI n, (drC o).1, (drC o).2.1, (drC o).2.2, uu n a, cB S t)) = lim sX0_bestDrift (.inl (8, 36 + k, nI n, (drC (drI V K n a o (2 * n + 1))).1, (drC (drI V K n a o (2 * n + 1))).2.1, (drC (drI V K n a o (2 * n + 1))).2.2, uu n (a + 1), cB S t')) := by
  obtain ⟨s, ⟨t', hs⟩, he⟩ := lim_inv (step := sX0_bestDrift) (K := fun b s => ∃ t', s = .inr (8, 36 + k, nI n, (drC (drI V K n a o b)).1, (drC (drI V K n a o b)).2.1, (drC (drI V K n a o b)).2.2, uu n a, uu n b, cB S t')) (2 * n + 1) (s0 := .inr (8, 36 + k, nI n, (drC o).1, (drC o).2.1, (drC o).2.2, uu n a, uu n 0, cB S t)) ⟨t, rfl⟩ (fun b hb s hs => by
    obtain ⟨t', rfl⟩ := hs
    refine ⟨_, C_driftStep hC hk hV hK hn (by omega) hb (drI_b ho hn (by omega) b (by omega)), cmr V K (uu n a) (uu n b), ?_⟩
    rw [drI_s])
  refine ⟨t', ?_⟩
  rw [lim_eq]
  show fin sX0_bestDrift (bX0_bestDrift_13 (cB S t) 8 (36 + k) (nI n) (drC o).1 (drC o).2.1 (drC o).2.2 (uu n a)) = _
  unfold bX0_bestDrift_13
  rw [if_neg (by rw [uu_lt hn (by omega)]; omega), Option.bind_some, fin_l, uu_0, he, hs, lim_eq]
  show fin sX0_bestDrift (bX0_bestDrift_23 (cB S t') 8 (36 + k) (nI n) _ _ _ (uu n a) (uu n (2 * n + 1))) = _
  unfold bX0_bestDrift_23
  rw [if_pos (by rw [uu_lt hn (by omega)]; omega), Option.bind_some, fin_l, uu_s]
theorem R_driftRow {k n a : Nat} {o : DR} {I0 : Nat → Nat → Int32} {J0 : Nat → Nat → Int64} (hr : Rst I J I0 J0) (hk : k < 4) (hV : ∀ j, j < 144 → I 17 j = V j) (hK : ∀ j, j < 144 → I 32 (144 * k + j) = K j) (bV : ∀ k, k < 144 → vB (V k)) (bK : ∀ k, k < 144 → vB (K k)) (hn : n ≤ 4) (ha : a < 2 * n + 1) (ho : drB o) : ∃ I1 J1, Rst I J I1 J1 ∧ lim sX10_drift (.inl (1, nI k, nI n, (drR o).1, (drR o).2.1, (drR o).2.2, uu n a, mkR I0 J0)) = lim sX10_drift (.inl (1, nI k, nI n, (drR (drI V K n a o (2 * n + 1))).1, (drR (drI V K n a o (2 * n + 1))).2.1, (drR (drI V K n a o (2 * n + 1))).2.2, uu n (a + 1), mkR I1 J1)) := by
  obtain ⟨s, ⟨I1, J1, hr1, hs⟩, he⟩ := lim_inv (step := sX10_drift) (K := fun b s => ∃ I1 J1, Rst I J I1 J1 ∧ s = .inr (1, nI k, nI n, (drR (drI V K n a o b)).1, (drR (drI V K n a o b)).2.1, (drR (drI V K n a o b)).2.2, uu n a, uu n b, mkR I1 J1)) (2 * n + 1) (s0 := .inr (1, nI k, nI n, (drR o).1, (drR o).2.1, (drR o).2.2, uu n a, uu n 0, mkR I0 J0)) ⟨I0, J0, hr, rfl⟩ (fun b hb s hs => by
    obtain ⟨I1, J1, hr1, rfl⟩ := hs
    refine ⟨_, R_driftStep hr1 hk hV hK bV bK hn (by omega) hb (drI_b ho hn (by omega) b (by omega)), _, _, Rst.B (cmr V K (uu n a) (uu n b)) (cmr V K (uu n a) (uu n b)), ?_⟩
    rw [drI_s])
  refine ⟨I1, J1, hr1, ?_⟩
  rw [lim_eq]
  show fin sX10_drift (bX10_drift_58 (mkR I0 J0) 1 (nI k) (nI n) (drR o).1 (drR o).2.1 (drR o).2.2 (uu n a)) = _
  unfold bX10_drift_58
  rw [if_neg (by rw [uu_lt hn (by omega)]; omega), Option.bind_some, fin_l, uu_0, he, hs, lim_eq]
  show fin sX10_drift (bX10_drift_68 (mkR I1 J1) 1 (nI k) (nI n) _ _ _ (uu n a) (uu n (2 * n + 1))) = _
  unfold bX10_drift_68
  rw [if_pos (by rw [uu_lt hn (by omega)]; omega), Option.bind_some, fin_l, uu_s]
theorem C_drift {k n : Nat} (hC : CS S) (hk : k < 4) (hV : ∀ j, j < 144 → m_I S 11 j = V j) (hK : ∀ j, j < 144 → m_I S (36 + k) j = K j) (hn : n ≤ 4) : ∃ t, fX0_bestDrift S 8 (36 + k) (nI n) = some ((drC (drO V K n (2 * n + 1))).1, cB S t) := by
  have hz : S = cB S (m_I S 8 5, m_I S 8 6, m_I S 8 7) := by
    unfold cB
    have : upd (upd (upd (m_I S 8) 5 (m_I S 8 5)) 6 (m_I S 8 6)) 7 (m_I S 8 7) = m_I S 8 := by
      funext m
      unfold upd
      split
      · rename_i h; rw [h]
      · split
        · rename_i h; rw [h]
        · split
          · rename_i h; rw [h]
          · rfl
    rw [this, sI_id]
  have all : ∀ a, a ≤ 2 * n + 1 → ∃ t, lim sX0_bestDrift (.inl (8, 36 + k, nI n, (-9 : Int32), (0 : Int64), (0 : Int64), uu n 0, S)) = lim sX0_bestDrift (.inl (8, 36 + k, nI n, (drC (drO V K n a)).1, (drC (drO V K n a)).2.1, (drC (drO V K n a)).2.2, uu n a, cB S t)) := by
    intro a
    induction a with
    | zero =>
      intro _
      refine ⟨(m_I S 8 5, m_I S 8 6, m_I S 8 7), ?_⟩
      rw [← hz]
      rfl
    | succ a ih =>
      intro ha
      obtain ⟨t, e⟩ := ih (by omega)
      obtain ⟨t', e'⟩ := C_driftRow (t := t) hC hk hV hK hn (show a < 2 * n + 1 by omega) (drO_b hn a (by omega))
      exact ⟨t', e.trans e'⟩
  obtain ⟨t, e⟩ := all (2 * n + 1) (Nat.le_refl _)
  refine ⟨t, ?_⟩
  unfold fX0_bestDrift bX0_bestDrift_0
  rw [Option.bind_some, fin_l, uu_0, e, lim_eq]
  show fin sX0_bestDrift (bX0_bestDrift_13 (cB S t) 8 (36 + k) (nI n) _ _ _ (uu n (2 * n + 1))) = _
  unfold bX0_bestDrift_13
  rw [if_pos (by rw [uu_lt hn (by omega)]; omega), fin_r]
theorem R_drift {k n : Nat} (hk : k < 4) (hV : ∀ j, j < 144 → I 17 j = V j) (hK : ∀ j, j < 144 → I 32 (144 * k + j) = K j) (bV : ∀ k, k < 144 → vB (V k)) (bK : ∀ k, k < 144 → vB (K k)) (hn : n ≤ 4) : ∃ I' J', FrR I I' [] [41] ∧ lim sX10_drift (.inl (1, nI k, nI n, (-3 : Int32), (0 : Int64), (1 : Int64), uu n 0, mkR I J)) = some ((drR (drO V K n (2 * n + 1))).1, mkR I' J') := by
  have all : ∀ a, a ≤ 2 * n + 1 → ∃ I1 J1, Rst I J I1 J1 ∧ lim sX10_drift (.inl (1, nI k, nI n, (-3 : Int32), (0 : Int64), (1 : Int64), uu n 0, mkR I J)) = lim sX10_drift (.inl (1, nI k, nI n, (drR (drO V K n a)).1, (drR (drO V K n a)).2.1, (drR (drO V K n a)).2.2, uu n a, mkR I1 J1)) := by
    intro a
    induction a with
    | zero => intro _; exact ⟨I, J, Rst.rf, rfl⟩
    | succ a ih =>
      intro ha
      obtain ⟨I1, J1, hr, e⟩ := ih (by omega)
      obtain ⟨I2, J2, hr2, e'⟩ := R_driftRow hr hk hV hK bV bK hn (show a < 2 * n + 1 by omega) (drO_b hn a (by omega))
      exact ⟨I2, J2, hr2, e.trans e'⟩
  obtain ⟨I1, J1, hr, e⟩ := all (2 * n + 1) (Nat.le_refl _)
  refine ⟨I1, J1, hr.2.2.2.2, ?_⟩
  rw [e, lim_eq]
  show fin sX10_drift (bX10_drift_58 (mkR I1 J1) 1 (nI k) (nI n) _ _ _ (uu n (2 * n + 1))) = _
  unfold bX10_drift_58
  rw [if_pos (by rw [uu_lt hn (by omega)]; omega), fin_r]
theorem drift_ok (h : Cor S I np nw ep ew ps ws) (hk : i_ke S I) (x1 x2 : Int32) : OkJ S I np nw ep ew ps ws (fX9_drift S 1 x1 x2) (fX10_drift (mkR I J) 1 x1 x2) [8, 9, 10, 11] [2] [14, 15, 16, 17, 18] [18, 19, 23, 41] := by
  have no : ∀ v : Int32, OkJ S I np nw ep ew ps ws (some (v, S)) (some (v, mkR I J)) [8, 9, 10, 11] [2] [14, 15, 16, 17, 18] [18, 19, 23, 41] := fun v => ⟨v, S, I, J, rfl, rfl, h, FrC.rf, FrR.rf⟩
  have e4i : (4 : Int32).toInt = 4 := rfl
  unfold fX9_drift bX9_drift_0 bX9_drift_61 fX10_drift bX10_drift_0
  by_cases h3 : 0 ≤ x1.toInt ∧ x1.toInt < 4
  · rw [C_below_t (n := 4) rfl h3, R_in_t (a' := 0) (b' := 3) rfl rfl (by omega)]
    obtain ⟨k, hk4, rfl⟩ := i_nI (n := 4) h3.1 h3.2
    simp only [Option.bind_some, e10, if_false, C_isWithin, n0, e4i, R_inI x2 (a := 0) (b := 4) (a' := 0) (b' := 4) rfl rfl]
    by_cases h2 : 0 ≤ x2.toInt ∧ x2.toInt ≤ 4
    · obtain ⟨n, hn, rfl⟩ := i_nI (n := 5) h2.1 (by omega)
      simp only [bz_t h2, e10, if_false, cP1_8 h.1.1, cL40 h.1.1 rfl hk4, rP39, rL31 rfl hk4, (hk k hk4).1, Option.bind_some]
      by_cases h5 : I 31 k = 0
      · rw [if_pos h5, if_pos h5, fin_r]
        exact no _
      · rw [if_neg h5, if_neg h5]
        obtain ⟨S', I', c1, r1, hc, f1, f2, v1, v2, hraw, -⟩ := h.both (J := J)
        have hC := hc.1.1
        have i36 : i_ke S' I' := hk.fr h.1.1 f1 f2 (by simp) (by simp)
        have h5' : ¬ I' 31 k = 0 := by rw [f2.1 31 (by decide) (by simp)]; exact h5
        have hKK := (i36 k hk4).2.resolve_left h5'
        obtain ⟨t, q1⟩ := C_drift (k := k) (n := n) (V := val I' np nw) (K := fun j => I' 32 (144 * k + j)) hC hk4 v1 (fun j hj => (hKK j hj).1) (by omega)
        obtain ⟨I2, J2, f3, q2⟩ := R_drift (J := J) (k := k) (n := n) (V := val I' np nw) (K := fun j => I' 32 (144 * k + j)) hk4 v2 (fun j hj => rfl) (fun j _ => val_b hraw j) (fun j hj => (hKK j hj).2) (by omega)
        have hB := drO_b (V := val I' np nw) (K := fun j => I' 32 (144 * k + j)) (n := n) (by omega) (2 * n + 1) (by omega)
        generalize drO (val I' np nw) (fun j => I' 32 (144 * k + j)) n (2 * n + 1) = o at q1 q2 hB
        simp only [cIs1 h.1.1, rIs, c1, r1, b2_s, cP1_7 hC, cP35 hC k hk4, cIs8 hC, q1, Option.bind_some, fin_l, uu_0, q2]
        have hcor : Cor (cB S' t) I2 np nw ep ew ps ws := (hc.B t (0, 0, 0)).fr (S' := cB S' t) (PI := []) (Q := []) (PL := []) hC FrC.rf ⟨by simp, by simp⟩ (by simp) (by simp) (by simp) (by simp) (.inr (by simp)) (.inr (by simp)) (show FrR (rB I' (0, 0, 0)) I2 [] [41] from ⟨fun a h1 h2 => by rw [f3.1 a h1 h2, (rB_f (0, 0, 0)).1 a h1 h2], fun k h2 => by rw [f3.2 k h2, (rB_f (0, 0, 0)).2 k h2]⟩) (by simp) (by simp)
        have fin : ∀ x : Int32, OkJ S I np nw ep ew ps ws (some (x, cB S' t)) (some (x, mkR I2 J2)) [8, 9, 10, 11] [2] [14, 15, 16, 17, 18] [18, 19, 23, 41] := fun x => ⟨x, _, _, _, rfl, rfl, hcor, f1.tr ((cB_f t).mono (by simp) (by simp) (by simp)), (f2.mono (by simp) (by simp)).tr (f3.mono (by simp) (by simp))⟩
        cases o with
        | none =>
          simp only [drC, drR, if_true]
          exact fin _
        | some q =>
          obtain ⟨w, s, m⟩ := q
          have hw : w < 100000 := hB
          have ew9 : (nI w = -9) = False := eq_false (m9 (by omega))
          simp only [drC, drR, ew9, if_false]
          exact fin _
    · simp only [bz_f h2, if_true, fin_r]
      exact no _
  · rw [C_below_f (n := 4) rfl h3, R_in_f (a' := 0) (b' := 3) rfl rfl (by omega)]
    simp only [Option.bind_some, if_true, fin_r]
    exact no _
end DF
