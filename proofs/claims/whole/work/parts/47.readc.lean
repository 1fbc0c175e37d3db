/-! readings of the class -/
def dgt (o : Option Nat) (f : Nat) : Nat := match o with
  | none => f % 10
  | some d => d
def rst (o : Option Nat) (f : Nat) : Nat := match o with
  | none => f / 10
  | some _ => f
theorem fou_s (o : Option Nat) (ds : List (Option Nat)) (f : Nat) : fou (o :: ds) f = 10 * fou ds (rst o f) + dgt o f := by cases o <;> rfl
def wyd (D : Nat → Int32) : Nat → Nat
  | 0 => 1
  | j + 1 => if D j < 0 then wyd D j * 10 else wyd D j
theorem wyd_b (D : Nat → Int32) (j : Nat) : wyd D j ≤ 10 ^ j := by
  induction j with
  | zero => exact Nat.le_refl _
  | succ j ih =>
    unfold wyd
    rw [Nat.pow_succ]
    split <;> omega
theorem wyd_4 {D : Nat → Int32} (h : ∀ x, x < 5 → dgR (D x)) : wyd D 4 = ways (dsO D) := by
  have hx : ∀ x, x < 5 → ∀ ds : List (Option Nat), ways (dO (D x) :: ds) = if D x < 0 then 10 * ways ds else ways ds := by
    intro x hx ds
    rcases dO_c (h x hx) with ⟨h1, h2, -⟩ | ⟨d, -, h1, h2, -⟩
    · rw [h2, if_pos h1]; rfl
    · rw [h2, if_neg h1]; rfl
  unfold dsO
  rw [hx 3 (by omega), hx 2 (by omega), hx 1 (by omega), hx 0 (by omega)]
  simp only [wyd, ways]
  split <;> split <;> split <;> split <;> omega
/-- a is a wire, with the digits of row q -/
def Wd (S : MS) (a q : Nat) : Prop := m_at S a 9 ∧ m_P S a 4 = some q ∧ m_at S q 12 ∧ m_L S q = 15 ∧ ∀ x, x < 15 → dgR (m_I S q x)
def Eg (S : MS) (q g x : Nat) : Int32 := m_I S q (5 * g + x)
section WC
variable {S : MS} {a q : Nat}
theorem Wd.ld (h : Wd S a q) {j : Nat} (hj : j < 15) : o_ld S q 12 (nI j) = some (m_I S q j) := at_ld h.2.2.1 h.2.2.2.1 (by omega) rfl hj
theorem Wd.rg (h : Wd S a q) {g : Nat} (hg : g < 3) : ∀ x, x < 5 → dgR (Eg S q g x) := fun x hx => h.2.2.2.2 _ (by omega)
theorem C_ways (h : Wd S a q) {g : Nat} (hg : g < 3) : fX8_countFillings S a (nI g) = some (nI (ways (dsO (Eg S q g)))) := by
  unfold fX8_countFillings bX8_countFillings_0
  rw [fin_l, ← wyd_4 (h.rg hg)]
  refine lim_it2 (st := fun j => (a, nI g, nI (wyd (Eg S q g) j), nI j)) 4 (fun j hj => ?_) ?_
  · show bX8_countFillings_4 S a (nI g) (nI (wyd (Eg S q g) j)) (nI j) = _
    unfold bX8_countFillings_4 bX8_countFillings_27
    rw [if_neg (show ¬ (4 : Int32) ≤ nI j from nI_ge (b := 4) hj (by omega)), at_gP h.1 h.2.1, Option.bind_some, show (5 : Int32) * nI g + nI j = nI (5 * g + j) by rw [show (5 : Int32) = nI 5 from rfl, nI_mul, nI_add], h.ld (by omega), Option.bind_some]
    have hE : m_I S q (5 * g + j) = Eg S q g j := rfl
    rw [hE]
    have hw : wyd (Eg S q g) (j + 1) = if Eg S q g j < 0 then wyd (Eg S q g) j * 10 else wyd (Eg S q g) j := rfl
    rw [hw]
    by_cases h0 : Eg S q g j < 0
    · rw [if_pos h0, if_neg (by rw [i_le, n0]; rw [i_lt, n0] at h0; omega)]
      simp only [Option.bind_some, nI_1]
      rw [show nI (wyd (Eg S q g) j) * (10 : Int32) = nI (wyd (Eg S q g) j * 10) from nI_mul _ 10]
    · rw [if_neg h0, if_pos (by rw [i_le, n0]; rw [i_lt, n0] at h0; omega)]
      simp only [Option.bind_some, nI_1]
  · show bX8_countFillings_4 S a (nI g) (nI (wyd (Eg S q g) 4)) (nI 4) = _
    unfold bX8_countFillings_4 bX8_countFillings_27
    rw [if_pos (by decide)]
theorem nI_dec (x : Nat) : nI (x + 1) + (-1) = nI x := by
  rw [nI_succ, Int32.add_assoc]
  rw [show (1 : Int32) + (-1) = 0 from rfl, Int32.add_zero]
theorem C_step (h : Wd S a q) {g x f s wt sm : Nat} (hg : g < 3) (hx : x < 4) (hf : f < 10000) : bX8_filled_19 S a (nI g) (nI (5 * g)) (nI f) (nI s) (nI wt) (nI sm) (nI x) = some (.inl (a, nI g, nI (5 * g), nI (rst (dO (Eg S q g x)) f), nI (s + wt * dgt (dO (Eg S q g x)) f), nI (wt * 10), nI (sm + if x % 2 = 0 then dgt (dO (Eg S q g x)) f else 3 * dgt (dO (Eg S q g x)) f), nI x + (-1))) := by
  have c2 : nI x - nI x / (2 : Int32) * (2 : Int32) = nI (x % 2) := nI_rem (b := 2) (by omega) (by omega) (by omega)
  have c0 : (nI (x % 2) = 0) = (x % 2 = 0) := propext (nI_eq (b := 0) (by omega) (by omega))
  have c10 : nI wt * (10 : Int32) = nI (wt * 10) := nI_mul _ 10
  have c3 : ∀ k, (3 : Int32) * nI k = nI (3 * k) := fun k => nI_mul 3 k
  unfold bX8_filled_19 bX8_filled_128 bX8_filled_145 bX8_filled_54 bX8_filled_89
  rw [if_neg (nI_pos (by omega)), at_gP h.1 h.2.1, Option.bind_some, nI_add, h.ld (by omega), Option.bind_some]
  have hE : m_I S q (5 * g + x) = Eg S q g x := rfl
  rw [hE]
  rcases dO_c (h.rg hg x (by omega)) with ⟨h1, h2, h3⟩ | ⟨d, hd, h1, h2, h3⟩
  · rw [if_neg (by rw [h3]; decide), h2]
    have c4 : nI f - nI f / (10 : Int32) * (10 : Int32) = nI (f % 10) := nI_rem (b := 10) (by omega) (by omega) (by omega)
    have c5 : nI f / (10 : Int32) = nI (f / 10) := nI_div (b := 10) (by omega) (by omega) (by omega)
    rw [c4, c5]
    simp only [Option.bind_some, c2, c0, c10, c3, nI_mul, nI_add]
    by_cases hp : x % 2 = 0
    · rw [if_pos hp, if_pos hp]
      rfl
    · rw [if_neg hp, if_neg hp]
      rfl
  · rw [if_pos (by rw [h3]; exact nI_pos' (by omega)), h2, h3]
    simp only [Option.bind_some, c2, c0, c10, c3, nI_mul, nI_add]
    by_cases hp : x % 2 = 0
    · rw [if_pos hp, if_pos hp]
      rfl
    · rw [if_neg hp, if_neg hp]
      rfl
theorem dgt_b {D : Int32} (h : dgR D) (f : Nat) : dgt (dO D) f < 10 := by
  rcases dO_c h with ⟨-, h2, -⟩ | ⟨d, hd, -, h2, -⟩
  · rw [h2]; show f % 10 < 10; omega
  · rw [h2]; exact hd
theorem rst_le (o : Option Nat) (f : Nat) : rst o f ≤ f := by
  cases o
  · exact Nat.div_le_self _ _
  · exact Nat.le_refl _
theorem dsO_ok {D : Nat → Int32} (h : ∀ x, x < 5 → dgR (D x)) : okD (dsO D) := by
  intro d hd
  have hx : ∀ x, x < 5 → some d = dO (D x) → d < 10 := by
    intro x hx e
    rcases dO_c (h x hx) with ⟨-, h2, -⟩ | ⟨d', hd', -, h2, -⟩
    · rw [h2] at e; cases e
    · rw [h2] at e; cases e; exact hd'
  unfold dsO at hd
  simp only [List.mem_cons, List.not_mem_nil, or_false] at hd
  rcases hd with hd | hd | hd | hd
  · exact hx 3 (by omega) hd
  · exact hx 2 (by omega) hd
  · exact hx 1 (by omega) hd
  · exact hx 0 (by omega) hd
theorem C_filled (h : Wd S a q) {g f : Nat} (hg : g < 3) (hf : f < 10000) : fX8_filled S a (nI g) (nI f) = some (match rdN (dsO (Eg S q g)) (dO (Eg S q g 4)) g (fou (dsO (Eg S q g)) f) with | some r => nI r | none => -9) := by
  unfold fX8_filled bX8_filled_0
  rw [show (5 : Int32) * nI g = nI (5 * g) from nI_mul 5 g, Option.bind_some, fin_l]
  have hr := h.rg hg
  have hfit := fit_fou (dsO (Eg S q g)) (dsO_ok hr) f
  have hck := hr 4 (by omega)
  generalize hd3 : dO (Eg S q g 3) = o3
  generalize hd2 : dO (Eg S q g 2) = o2
  generalize hd1 : dO (Eg S q g 1) = o1
  generalize hd0 : dO (Eg S q g 0) = o0
  have e3 : dgt o3 f < 10 := by rw [← hd3]; exact dgt_b (hr 3 (by omega)) _
  have e2 : dgt o2 (rst o3 f) < 10 := by rw [← hd2]; exact dgt_b (hr 2 (by omega)) _
  have e1 : dgt o1 (rst o2 (rst o3 f)) < 10 := by rw [← hd1]; exact dgt_b (hr 1 (by omega)) _
  have e0 : dgt o0 (rst o1 (rst o2 (rst o3 f))) < 10 := by rw [← hd0]; exact dgt_b (hr 0 (by omega)) _
  have l3 := rst_le o3 f
  have l2 := rst_le o2 (rst o3 f)
  have l1 := rst_le o1 (rst o2 (rst o3 f))
  have hds : dsO (Eg S q g) = [o3, o2, o1, o0] := by unfold dsO; rw [hd3, hd2, hd1, hd0]
  have hfou : fou (dsO (Eg S q g)) f = 10 * (10 * (10 * dgt o0 (rst o1 (rst o2 (rst o3 f))) + dgt o1 (rst o2 (rst o3 f))) + dgt o2 (rst o3 f)) + dgt o3 f := by
    rw [hds, fou_s, fou_s, fou_s, fou_s]
    show 10 * (10 * (10 * (10 * 0 + _) + _) + _) + _ = _
    omega
  have p3 := C_step h (x := 3) (f := f) (s := 0) (wt := 1) (sm := 0) hg (by omega) hf
  rw [hd3] at p3
  have p2 := C_step h (x := 2) (f := rst o3 f) (s := 0 + 1 * dgt o3 f) (wt := 1 * 10) (sm := 0 + 3 * dgt o3 f) hg (by omega) (by omega)
  rw [hd2] at p2
  have p1 := C_step h (x := 1) (f := rst o2 (rst o3 f)) (s := 0 + 1 * dgt o3 f + 1 * 10 * dgt o2 (rst o3 f)) (wt := 1 * 10 * 10) (sm := 0 + 3 * dgt o3 f + dgt o2 (rst o3 f)) hg (by omega) (by omega)
  rw [hd1] at p1
  have p0 := C_step h (x := 0) (f := rst o1 (rst o2 (rst o3 f))) (s := 0 + 1 * dgt o3 f + 1 * 10 * dgt o2 (rst o3 f) + 1 * 10 * 10 * dgt o1 (rst o2 (rst o3 f))) (wt := 1 * 10 * 10 * 10) (sm := 0 + 3 * dgt o3 f + dgt o2 (rst o3 f) + 3 * dgt o1 (rst o2 (rst o3 f))) hg (by omega) (by omega)
  rw [hd0] at p0
  have s3 : lim (sX8_filled S) (a, nI g, nI (5 * g), nI f, 0, 1, 0, 3) = _ := (lim_eq _ _).trans (congrArg (fin _) p3)
  rw [s3, fin_l, nI_dec, if_neg (by decide)]
  have s2 : ∀ st, lim (sX8_filled S) (a, nI g, nI (5 * g), st) = fin (sX8_filled S) (sX8_filled S (a, nI g, nI (5 * g), st)) := fun st => lim_eq _ _
  rw [s2, show sX8_filled S (a, nI g, nI (5 * g), nI (rst o3 f), nI (0 + 1 * dgt o3 f), nI (1 * 10), nI (0 + 3 * dgt o3 f), nI 2) = _ from p2, fin_l, nI_dec, if_pos (by decide)]
  rw [s2, show sX8_filled S (a, nI g, nI (5 * g), nI (rst o2 (rst o3 f)), nI (0 + 1 * dgt o3 f + 1 * 10 * dgt o2 (rst o3 f)), nI (1 * 10 * 10), nI (0 + 3 * dgt o3 f + dgt o2 (rst o3 f)), nI 1) = _ from p1, fin_l, nI_dec, if_neg (by decide)]
  rw [s2, show sX8_filled S (a, nI g, nI (5 * g), nI (rst o1 (rst o2 (rst o3 f))), nI (0 + 1 * dgt o3 f + 1 * 10 * dgt o2 (rst o3 f) + 1 * 10 * 10 * dgt o1 (rst o2 (rst o3 f))), nI (1 * 10 * 10 * 10), nI (0 + 3 * dgt o3 f + dgt o2 (rst o3 f) + 3 * dgt o1 (rst o2 (rst o3 f))), nI 0) = _ from p0, fin_l, if_pos (by decide), s2]
  generalize dgt o0 (rst o1 (rst o2 (rst o3 f))) = a0 at *
  generalize dgt o1 (rst o2 (rst o3 f)) = a1 at *
  generalize dgt o2 (rst o3 f) = a2 at *
  generalize dgt o3 f = a3 at *
  generalize hn : fou (dsO (Eg S q g)) f = n at *
  have hs4 : 0 + 1 * a3 + 1 * 10 * a2 + 1 * 10 * 10 * a1 + 1 * 10 * 10 * 10 * a0 = n := by omega
  have hsm : (0 + 3 * a3 + a2 + 3 * a1 + a0) % 10 = chk n := by
    have q1 : n / 1000 = a0 := by omega
    have q2 : n / 100 % 10 = a1 := by omega
    have q3 : n / 10 % 10 = a2 := by omega
    have q4 : n % 10 = a3 := by omega
    unfold chk
    rw [q1, q2, q3, q4]
    congr 1
    omega
  have hsb : 0 + 3 * a3 + a2 + 3 * a1 + a0 < 100 := by omega
  rw [hs4]
  generalize 0 + 3 * a3 + a2 + 3 * a1 + a0 = sm at *
  show fin (sX8_filled S) (bX8_filled_19 S a (nI g) (nI (5 * g)) _ (nI n) _ (nI sm) (nI 0 + -1)) = _
  have hnb : n < 10000 := by omega
  have c4 : nI sm - nI sm / (10 : Int32) * (10 : Int32) = nI (chk n) := by rw [← hsm]; exact nI_rem (b := 10) (by omega) (by omega) (by omega)
  have c5 : nI n / (100 : Int32) = nI (n / 100) := nI_div (b := 100) (by omega) (by omega) (by omega)
  have c6 : (nI g = 0) = (g = 0) := propext (nI_eq (b := 0) (by omega) (by omega))
  have c7 : (nI (n / 100) ≤ (36 : Int32)) = (n / 100 ≤ 36) := propext (nI_leI (b := 36) (by omega) (by omega))
  have c8 : nI (5 * g) + 5 - 1 = nI (5 * g + 4) := by
    rw [show (5 : Int32) = nI 5 from rfl, nI_add, show 5 * g + 5 = 5 * g + 4 + 1 by omega, nI_pred]
  have c9 : (10 : Int32) * nI n + nI (chk n) = nI (10 * n + chk n) := by rw [show (10 : Int32) = nI 10 from rfl, nI_mul, nI_add]
  have hE : m_I S q (5 * g + 4) = Eg S q g 4 := rfl
  have hb4 : chk n < 10 := by unfold chk; omega
  unfold bX8_filled_19 bX8_filled_128 bX8_filled_145 bX8_filled_54 bX8_filled_89
  rw [if_pos (by decide)]
  simp only [at_gP h.1 h.2.1, Option.bind_some, c8, h.ld (show 5 * g + 4 < 15 by omega), hE, c4, c5, c6, c7, c9]
  unfold rdN
  rw [hfit]
  rcases dO_c hck with ⟨h1, h2, h3⟩ | ⟨d, hd, h1, h2, h3⟩
  · rw [if_pos h1, h2]
    by_cases h5 : g = 0
    · subst h5
      by_cases h6 : n / 100 ≤ 36
      · simp [h6, fitO, fin, Nat.not_lt.mpr h6]
      · simp [h6, fitO, fin, Nat.lt_of_not_le h6]
    · simp [h5, fitO, fin]
  · have c10 : (nI d = nI (chk n)) = (d = chk n) := propext (nI_eq (by omega) (by omega))
    rw [if_neg h1, h2, h3]
    simp only [c10]
    by_cases h4 : d = chk n
    · rw [if_pos h4]
      by_cases h5 : g = 0
      · subst h5
        by_cases h6 : n / 100 ≤ 36
        · simp [h6, h4, fitO, fin, Nat.not_lt.mpr h6]
        · simp [h6, h4, fitO, fin, Nat.lt_of_not_le h6]
      · simp [h5, h4, fitO, fin]
    · simp [h4, fitO, fin]
theorem dsO_len (D : Nat → Int32) : 10 ^ (dsO D).length = 10000 := by rw [show (dsO D).length = 4 from rfl]
theorem RD_C (h : Wd S a q) {g : Nat} (hg : g < 3) : pre (fun f => rdN (dsO (Eg S q g)) (dO (Eg S q g 4)) g (fou (dsO (Eg S q g)) f)) (ways (dsO (Eg S q g))) = RD (Eg S q g) g := by
  unfold RD
  rw [← dsO_len (Eg S q g)]
  exact pre_fou (dsO (Eg S q g)) (dsO_ok (h.rg hg)) (rdN (dsO (Eg S q g)) (dO (Eg S q g 4)) g) (fun n hn => rdN_f hn)
theorem ways_b (ds : List (Option Nat)) : ways ds ≤ 10 ^ ds.length := by
  induction ds with
  | nil => exact Nat.le_refl _
  | cons o ds ih =>
    rw [List.length_cons, Nat.pow_succ]
    cases o with
    | none => show 10 * ways ds ≤ _; omega
    | some d => show ways ds ≤ _; omega
theorem m9 {n : Nat} (h : n < 2 ^ 31) : ¬ nI n = -9 := by
  rw [i_eq, nI_toInt h]
  show ¬ (n : Int) = -9
  omega
theorem rdN_b {ds : List (Option Nat)} {ck : Option Nat} {g n r : Nat} (h : rdN ds ck g n = some r) : r ≤ 10 * n + 9 := by
  unfold rdN at h
  split at h
  · cases h
    unfold chk
    omega
  · cases h
theorem fou_b (ds : List (Option Nat)) (h : okD ds) (f : Nat) : fou ds f < 10 ^ ds.length := by
  induction ds generalizing f with
  | nil => exact Nat.one_pos
  | cons o ds ih =>
    have ih := ih (fun d hd => h d (List.mem_cons_of_mem _ hd))
    rw [List.length_cons, Nat.pow_succ]
    cases o with
    | none =>
      have := ih (f / 10)
      show 10 * fou ds (f / 10) + f % 10 < _
      omega
    | some d =>
      have := ih f
      have hd := h d (List.mem_cons_self ..)
      show 10 * fou ds f + d < _
      omega
theorem C_count (h : Wd S a q) {g : Nat} (hg : g < 3) : fX8_countRight S a (nI g) = some (nI (RD (Eg S q g) g).length) := by
  unfold fX8_countRight bX8_countRight_0
  rw [at_is h.1, Option.bind_some, C_ways h hg, Option.bind_some, fin_l, ← RD_C h hg]
  have hwb := ways_b (dsO (Eg S q g))
  have hfb := fou_b (dsO (Eg S q g)) (dsO_ok (h.rg hg))
  have hw4 := dsO_len (Eg S q g)
  generalize hp : (fun f => rdN (dsO (Eg S q g)) (dO (Eg S q g 4)) g (fou (dsO (Eg S q g)) f)) = p
  have hf : ∀ j, j < 10000 → fX8_filled S a (nI g) (nI j) = some (match p j with | some r => nI r | none => -9) := fun j hj => by rw [C_filled h hg hj, ← hp]
  have hpb : ∀ j r, p j = some r → r < 100000 := fun j r hr => by
    rw [← hp] at hr
    have h1 := rdN_b hr
    have h2 := hfb j
    omega
  refine lim_it2 (st := fun j => (a, nI g, nI (pre p j).length, nI (ways (dsO (Eg S q g))), nI j)) (ways (dsO (Eg S q g))) (fun j hj => ?_) ?_
  · show bX8_countRight_11 S a (nI g) (nI (pre p j).length) (nI (ways (dsO (Eg S q g)))) (nI j) = _
    have hl := pre_len (p := p) (n := j)
    unfold bX8_countRight_11 bX8_countRight_32
    rw [if_neg (nI_ge hj (by omega)), at_is h.1, Option.bind_some, hf j (by omega), Option.bind_some]
    cases hq : p j with
    | none => simp only [if_true, Option.bind_some, nI_1, pre_n hq]
    | some r =>
      have hr := hpb j r hq
      simp only [if_neg (m9 (show r < 2 ^ 31 by omega)), Option.bind_some, nI_1, pre_p hq, List.length_append, List.length_singleton]
  · show bX8_countRight_11 S a (nI g) (nI (pre p _).length) (nI (ways (dsO (Eg S q g)))) (nI (ways (dsO (Eg S q g)))) = _
    unfold bX8_countRight_11 bX8_countRight_32
    rw [if_pos (nI_le (Nat.le_refl _) (by omega))]
theorem C_at (h : Wd S a q) {g i r : Nat} (hg : g < 3) (hi : i < 2 ^ 31) (ha : (RD (Eg S q g) g)[i]? = some r) : fX8_readingAt S a (nI g) (nI i) = some (nI r) := by
  unfold fX8_readingAt bX8_readingAt_0
  rw [at_is h.1, Option.bind_some, C_ways h hg, Option.bind_some, fin_l]
  rw [← RD_C h hg] at ha
  have hwb := ways_b (dsO (Eg S q g))
  have hfb := fou_b (dsO (Eg S q g)) (dsO_ok (h.rg hg))
  have hw4 := dsO_len (Eg S q g)
  generalize hp : (fun f => rdN (dsO (Eg S q g)) (dO (Eg S q g 4)) g (fou (dsO (Eg S q g)) f)) = p at ha
  have hf : ∀ j, j < 10000 → fX8_filled S a (nI g) (nI j) = some (match p j with | some r => nI r | none => -9) := fun j hj => by rw [C_filled h hg hj, ← hp]
  have hpb : ∀ j r, p j = some r → r < 100000 := fun j r hr => by
    rw [← hp] at hr
    have h1 := rdN_b hr
    have h2 := hfb j
    omega
  obtain ⟨j, hj, hq, hl⟩ := pre_at ha
  refine lim_it2 (st := fun j => (a, nI g, nI i, nI (pre p j).length, nI (ways (dsO (Eg S q g))), nI j)) j (fun j' hj' => ?_) ?_
  · show bX8_readingAt_12 S a (nI g) (nI i) (nI (pre p j').length) (nI (ways (dsO (Eg S q g)))) (nI j') = _
    have hl' := pre_len (p := p) (n := j')
    unfold bX8_readingAt_12 bX8_readingAt_46
    rw [if_neg (nI_ge (by omega) (by omega)), at_is h.1, Option.bind_some, hf j' (by omega), Option.bind_some]
    cases hq' : p j' with
    | none => simp only [if_true, Option.bind_some, nI_1, pre_n hq']
    | some r' =>
      have hr := hpb j' r' hq'
      have h1 := pre_le (p := p) (show j' + 1 ≤ j by omega)
      rw [pre_p hq', List.length_append, List.length_singleton] at h1
      have hne : ¬ nI (pre p j').length = nI i := by rw [nI_eq (by omega) hi]; omega
      simp only [if_neg (m9 (show r' < 2 ^ 31 by omega)), if_neg hne, Option.bind_some, nI_1, pre_p hq', List.length_append, List.length_singleton]
  · show bX8_readingAt_12 S a (nI g) (nI i) (nI (pre p j).length) (nI (ways (dsO (Eg S q g)))) (nI j) = _
    have hr' := hpb j r hq
    unfold bX8_readingAt_12 bX8_readingAt_46
    rw [if_neg (nI_ge hj (by omega)), at_is h.1, Option.bind_some, hf j (by omega), Option.bind_some]
    simp only [hq, if_neg (m9 (show r < 2 ^ 31 by omega)), hl, if_true]
end WC
