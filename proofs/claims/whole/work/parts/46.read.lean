/-! readings: the fillings of a group in order are the fours that fit, in order -/
def ways : List (Option Nat) → Nat
  | [] => 1
  | none :: ds => 10 * ways ds
  | some _ :: ds => ways ds
def fou : List (Option Nat) → Nat → Nat
  | [], _ => 0
  | none :: ds, f => 10 * fou ds (f / 10) + f % 10
  | some d :: ds, f => 10 * fou ds f + d
def fitO (o : Option Nat) (d : Nat) : Bool := match o with
  | none => true
  | some e => e == d
def fit : List (Option Nat) → Nat → Bool
  | [], _ => true
  | o :: ds, n => fit ds (n / 10) && fitO o (n % 10)
theorem range10 (n : Nat) : List.range (10 * n) = (List.range n).flatMap (fun q => (List.range 10).map (fun r => 10 * q + r)) := by
  induction n with
  | zero => rfl
  | succ n ih =>
    rw [show 10 * (n + 1) = 10 * n + 10 by omega, List.range_add, ih, List.range_succ (n := n), List.flatMap_append]
    simp
theorem flatMap_filter_l {α β : Type} (l : List α) (p : α → Bool) (f : α → List β) : (l.filter p).flatMap f = l.flatMap (fun q => if p q then f q else []) := by
  induction l with
  | nil => rfl
  | cons x l ih =>
    rw [List.filter_cons]
    by_cases h : p x = true
    · simp [h, ih]
    · simp [h, ih]
theorem filter_flatMap_l {α β : Type} (l : List α) (p : β → Bool) (f : α → List β) : (l.flatMap f).filter p = l.flatMap (fun q => (f q).filter p) := by
  induction l with
  | nil => rfl
  | cons x l ih => simp [ih]
theorem flatMap_map_l {α β γ : Type} (l : List α) (g : α → β) (f : β → List γ) : (l.map g).flatMap f = l.flatMap (fun q => f (g q)) := by
  induction l with
  | nil => rfl
  | cons x l ih => simp [ih]
theorem map_flatMap_l {α β γ : Type} (l : List α) (g : β → γ) (f : α → List β) : (l.flatMap f).map g = l.flatMap (fun q => (f q).map g) := by
  induction l with
  | nil => rfl
  | cons x l ih => simp [ih]
theorem flatMap_c {α β : Type} {l : List α} {f g : α → List β} (h : ∀ x, f x = g x) : l.flatMap f = l.flatMap g := by rw [funext h]
theorem filter10_t (q d : Nat) (hd : d < 10) : ((List.range 10).map (fun r => 10 * q + r)).filter (fun n => d == n % 10) = [10 * q + d] := by
  have h : ∀ r, r < 10 → (10 * q + r) % 10 = r := fun r hr => by omega
  rw [List.filter_map]
  have h2 : (List.range 10).filter ((fun n => d == n % 10) ∘ fun r => 10 * q + r) = (List.range 10).filter (fun r => d == r) := by
    apply List.filter_congr
    intro r hr
    rw [List.mem_range] at hr
    show (d == (10 * q + r) % 10) = (d == r)
    rw [h r hr]
  rw [h2]
  have h3 : ∀ d, d < 10 → (List.range 10).filter (fun r => d == r) = [d] := by decide
  rw [h3 d hd]
  rfl
def okD (ds : List (Option Nat)) : Prop := ∀ d, some d ∈ ds → d < 10
theorem fours (ds : List (Option Nat)) (h : okD ds) : (List.range (ways ds)).map (fou ds) = (List.range (10 ^ ds.length)).filter (fit ds) := by
  induction ds with
  | nil => rfl
  | cons o ds ih =>
    have ih := ih (fun d hd => h d (List.mem_cons_of_mem _ hd))
    have hR : (List.range (10 ^ (o :: ds).length)).filter (fit (o :: ds)) = (List.range (10 ^ ds.length)).flatMap (fun q => if fit ds q then ((List.range 10).map (fun r => 10 * q + r)).filter (fun n => fitO o (n % 10)) else []) := by
      rw [List.length_cons, Nat.pow_succ, Nat.mul_comm, range10, filter_flatMap_l]
      apply flatMap_c
      intro q
      have h1 : ∀ r, r < 10 → (10 * q + r) / 10 = q := fun r hr => by omega
      have h2 : ((List.range 10).map (fun r => 10 * q + r)).filter (fit (o :: ds)) = ((List.range 10).map (fun r => 10 * q + r)).filter (fun n => fit ds q && fitO o (n % 10)) := by
        apply List.filter_congr
        intro n hn
        obtain ⟨r, hr, rfl⟩ := List.mem_map.mp hn
        rw [List.mem_range] at hr
        show (fit ds ((10 * q + r) / 10) && _) = _
        rw [h1 r hr]
      rw [h2]
      by_cases h3 : fit ds q = true
      · simp [h3]
      · simp [h3]
    rw [hR, ← flatMap_filter_l, ← ih, flatMap_map_l]
    match o with
    | none =>
      show (List.range (10 * ways ds)).map _ = _
      rw [range10, map_flatMap_l]
      apply flatMap_c
      intro q
      rw [List.map_map]
      have : ((List.range 10).map (fun r => 10 * fou ds q + r)).filter (fun n => fitO none (n % 10)) = (List.range 10).map (fun r => 10 * fou ds q + r) := by
        rw [List.filter_eq_self]
        intro a _
        rfl
      rw [this]
      apply List.map_congr_left
      intro r hr
      rw [List.mem_range] at hr
      show 10 * fou ds ((10 * q + r) / 10) + (10 * q + r) % 10 = _
      rw [show (10 * q + r) / 10 = q by omega, show (10 * q + r) % 10 = r by omega]
    | some d =>
      have hd : d < 10 := h d (List.mem_cons_self ..)
      have : ∀ q, ((List.range 10).map (fun r => 10 * fou ds q + r)).filter (fun n => fitO (some d) (n % 10)) = [10 * fou ds q + d] := fun q => filter10_t _ _ hd
      rw [funext this]
      show (List.range (ways ds)).map (fun f => 10 * fou ds f + d) = _
      induction List.range (ways ds) with
      | nil => rfl
      | cons x l ih => simp [ih]
theorem fit_fou (ds : List (Option Nat)) (h : okD ds) (f : Nat) : fit ds (fou ds f) = true := by
  induction ds generalizing f with
  | nil => rfl
  | cons o ds ih =>
    have ih := ih (fun d hd => h d (List.mem_cons_of_mem _ hd))
    match o with
    | none =>
      show (fit ds ((10 * fou ds (f / 10) + f % 10) / 10) && true) = true
      rw [show (10 * fou ds (f / 10) + f % 10) / 10 = fou ds (f / 10) by omega, ih]
      rfl
    | some d =>
      have hd : d < 10 := h d (List.mem_cons_self ..)
      show (fit ds ((10 * fou ds f + d) / 10) && (d == (10 * fou ds f + d) % 10)) = true
      rw [show (10 * fou ds f + d) / 10 = fou ds f by omega, ih, show (10 * fou ds f + d) % 10 = d by omega]
      simp
/-- what a row's steps give, in order -/
def pre (p : Nat → Option Nat) (j : Nat) : List Nat := (List.range j).filterMap p
theorem pre_s {p : Nat → Option Nat} {j : Nat} : pre p (j + 1) = pre p j ++ (p j).toList := by
  unfold pre
  rw [List.range_succ, List.filterMap_append]
  congr 1
theorem pre_n {p : Nat → Option Nat} {j : Nat} (h : p j = none) : pre p (j + 1) = pre p j := by rw [pre_s, h]; simp
theorem pre_p {p : Nat → Option Nat} {j r : Nat} (h : p j = some r) : pre p (j + 1) = pre p j ++ [r] := by rw [pre_s, h]; rfl
theorem pre_le {p : Nat → Option Nat} {j n : Nat} (h : j ≤ n) : (pre p j).length ≤ (pre p n).length := by
  induction n with
  | zero => rw [show j = 0 by omega]; exact Nat.le_refl _
  | succ n ih =>
    by_cases hj : j = n + 1
    · rw [hj]; exact Nat.le_refl _
    · have := ih (by omega)
      rw [pre_s, List.length_append]
      omega
theorem pre_len {p : Nat → Option Nat} {n : Nat} : (pre p n).length ≤ n := by
  unfold pre
  have := List.length_filterMap_le p (List.range n)
  rw [List.length_range] at this
  exact this
theorem pre_at {p : Nat → Option Nat} {n i r : Nat} (h : (pre p n)[i]? = some r) : ∃ j, j < n ∧ p j = some r ∧ (pre p j).length = i := by
  induction n with
  | zero => simp [pre] at h
  | succ n ih =>
    by_cases hi : i < (pre p n).length
    · rw [pre_s, List.getElem?_append_left hi] at h
      obtain ⟨j, h1, h2, h3⟩ := ih h
      exact ⟨j, by omega, h2, h3⟩
    · cases hp : p n with
      | none =>
        rw [pre_n hp, List.getElem?_eq_none (by omega)] at h
        cases h
      | some r' =>
        rw [pre_p hp, List.getElem?_append_right (by omega)] at h
        by_cases h0 : i - (pre p n).length = 0
        · rw [h0] at h
          cases h
          exact ⟨n, by omega, hp, by omega⟩
        · rw [List.getElem?_eq_none (by simp; omega)] at h
          cases h
/-- the steps of a filtered walk are those of the whole -/
theorem filterMap_filter_l {α β : Type} (l : List α) (q : α → Bool) (p : α → Option β) (h : ∀ x ∈ l, q x = false → p x = none) : (l.filter q).filterMap p = l.filterMap p := by
  induction l with
  | nil => rfl
  | cons x l ih =>
    have ih := ih (fun y hy => h y (List.mem_cons_of_mem _ hy))
    rw [List.filter_cons]
    by_cases hq : q x = true
    · rw [if_pos hq, List.filterMap_cons, List.filterMap_cons, ih]
    · rw [if_neg hq, List.filterMap_cons, h x (List.mem_cons_self ..) (by simpa using hq)]
      exact ih
theorem pre_fou (ds : List (Option Nat)) (h : okD ds) (p : Nat → Option Nat) (hp : ∀ n, fit ds n = false → p n = none) : pre (fun f => p (fou ds f)) (ways ds) = pre p (10 ^ ds.length) := by
  unfold pre
  rw [← filterMap_filter_l (List.range (10 ^ ds.length)) (fit ds) p (fun x _ hx => hp x hx), ← fours ds h, List.filterMap_map]
  rfl
theorem nI_mul (a b : Nat) : nI a * nI b = nI (a * b) := (Int32.ofNat_mul a b).symm
theorem nI_div {a b : Nat} (ha : a < 2 ^ 31) (h0 : 0 < b) (hb : b < 2 ^ 31) : nI a / nI b = nI (a / b) := by
  have : a / b < 2 ^ 31 := Nat.lt_of_le_of_lt (Nat.div_le_self _ _) ha
  rw [i_eq, i_div (nI_toInt hb) (by omega), nI_toInt ha, nI_toInt this, if_pos (by omega)]
  exact (Int.natCast_ediv a b).symm
theorem nI_rem {a b : Nat} (ha : a < 2 ^ 31) (h0 : 0 < b) (hb : b < 2 ^ 31) : nI a - nI a / nI b * nI b = nI (a % b) := by
  have : a % b < 2 ^ 31 := Nat.lt_of_le_of_lt (Nat.mod_le _ _) ha
  rw [i_eq, i_rem (nI_toInt hb) (by omega), nI_toInt ha, nI_toInt this, if_pos (by omega)]
  exact (Int.natCast_emod a b).symm
/-- a digit told: none, if garbled -/
def dO (v : Int32) : Option Nat := if v < 0 then none else some v.toNatClampNeg
def dgR (v : Int32) : Prop := -1 ≤ v.toInt ∧ v.toInt ≤ 9
theorem dO_c {v : Int32} (h : dgR v) : (v < 0 ∧ dO v = none ∧ v = -1) ∨ ∃ d, d < 10 ∧ ¬ v < 0 ∧ dO v = some d ∧ v = nI d := by
  by_cases h0 : v < 0
  · refine .inl ⟨h0, if_pos h0, ?_⟩
    rw [i_lt, n0] at h0
    have h1 : (-1 : Int32).toInt = -1 := rfl
    rw [i_eq, h1]
    have := h.1
    omega
  · obtain ⟨d, hd, rfl⟩ := i_nI (x := v) (n := 10) (by rw [i_lt, n0] at h0; omega) (by have := h.2; omega)
    refine .inr ⟨d, hd, h0, ?_, rfl⟩
    unfold dO
    rw [if_neg h0, nI_clamp (by omega)]
def chk (n : Nat) : Nat := (n / 1000 + 3 * (n / 100 % 10) + n / 10 % 10 + 3 * (n % 10)) % 10
/-- the reading of a group with four first digits -/
def rdN (ds : List (Option Nat)) (ck : Option Nat) (g n : Nat) : Option Nat := if fit ds n && fitO ck (chk n) && !(g == 0 && decide (36 < n / 100)) then some (10 * n + chk n) else none
def dsO (D : Nat → Int32) : List (Option Nat) := [dO (D 3), dO (D 2), dO (D 1), dO (D 0)]
theorem rdN_f {ds : List (Option Nat)} {ck : Option Nat} {g n : Nat} (h : fit ds n = false) : rdN ds ck g n = none := by
  unfold rdN
  rw [h]
  rfl
/-- the readings of a group, in order -/
def RD (D : Nat → Int32) (g : Nat) : List Nat := pre (rdN (dsO D) (dO (D 4)) g) 10000
section RR
variable {I : Nat → Nat → Int32} {J : Nat → Nat → Int64}
theorem R_fits {w g x d : Nat} (hw : w < 30) (hg : g < 3) (hx : x < 5) (hd : d < 10) (hr : dgR (I 11 (15 * w + 5 * g + x))) : fX10_fits (mkR I J) 1 (nI w) (nI g) (nI x) (nI d) = some (if fitO (dO (I 11 (15 * w + 5 * g + x))) d = true then 1 else 0) := by
  unfold fX10_fits bX10_fits_0 bX10_fits_29 bX10_fits_34
  rw [rP12, Option.bind_some, show (15 : Int32) = nI 15 from rfl, show (5 : Int32) = nI 5 from rfl, nI_mul, nI_mul, nI_add, nI_add, rL11 rfl (by omega), Option.bind_some]
  rcases dO_c hr with ⟨h1, h2, h3⟩ | ⟨e, h1, h2, h3, h4⟩
  · rw [if_pos h1, h2]
    rfl
  · rw [if_neg h2, h3, h4]
    show _ = some (if (e == d) = true then 1 else 0)
    by_cases h : e = d
    · subst h
      rw [if_pos rfl, if_pos (by simp)]
      rfl
    · rw [if_neg (fun q => h ((nI_eq (by omega) (by omega)).mp q)), if_neg (by simpa using h)]
      rfl
def Dig (I : Nat → Nat → Int32) (w g : Nat) (x : Nat) : Int32 := I 11 (15 * w + 5 * g + x)
theorem R_readingOf {w g n : Nat} (hw : w < 30) (hg : g < 3) (hn : n < 10000) (hr : ∀ x, x < 5 → dgR (Dig I w g x)) : fX10_readingOf (mkR I J) 1 (nI w) (nI g) (nI n) = some (match rdN (dsO (Dig I w g)) (dO (Dig I w g 4)) g n with | some r => nI r | none => -1) := by
  have b0 : n / 1000 < 10 := by omega
  have b1 : n / 100 % 10 < 10 := by omega
  have b2 : n / 10 % 10 < 10 := by omega
  have b3 : n % 10 < 10 := by omega
  have b4 : chk n < 10 := by unfold chk; omega
  have d1 : nI n / (1000 : Int32) = nI (n / 1000) := nI_div (b := 1000) (by omega) (by omega) (by omega)
  have d2 : nI n / (100 : Int32) = nI (n / 100) := nI_div (b := 100) (by omega) (by omega) (by omega)
  have d3 : nI n / (10 : Int32) = nI (n / 10) := nI_div (b := 10) (by omega) (by omega) (by omega)
  have e1 : nI (n / 100) - nI (n / 100) / (10 : Int32) * (10 : Int32) = nI (n / 100 % 10) := nI_rem (b := 10) (by omega) (by omega) (by omega)
  have e2 : nI (n / 10) - nI (n / 10) / (10 : Int32) * (10 : Int32) = nI (n / 10 % 10) := nI_rem (b := 10) (by omega) (by omega) (by omega)
  have e3 : nI n - nI (n / 10) * (10 : Int32) = nI (n % 10) := by rw [← d3]; exact nI_rem (b := 10) (by omega) (by omega) (by omega)
  have e4 : ∀ k, (3 : Int32) * nI k = nI (3 * k) := fun k => nI_mul 3 k
  have e5 : nI (n / 1000 + 3 * (n / 100 % 10) + n / 10 % 10 + 3 * (n % 10)) - nI (n / 1000 + 3 * (n / 100 % 10) + n / 10 % 10 + 3 * (n % 10)) / (10 : Int32) * (10 : Int32) = nI (chk n) := nI_rem (b := 10) (by omega) (by omega) (by omega)
  have e6 : ∀ k, (10 : Int32) * nI k = nI (10 * k) := fun k => nI_mul 10 k
  have f0 : ∀ d, d < 10 → fX10_fits (mkR I J) 1 (nI w) (nI g) 0 (nI d) = some (if fitO (dO (Dig I w g 0)) d = true then 1 else 0) := fun d hd => R_fits (x := 0) hw hg (by omega) hd (hr 0 (by omega))
  have f1 : ∀ d, d < 10 → fX10_fits (mkR I J) 1 (nI w) (nI g) 1 (nI d) = some (if fitO (dO (Dig I w g 1)) d = true then 1 else 0) := fun d hd => R_fits (x := 1) hw hg (by omega) hd (hr 1 (by omega))
  have f2 : ∀ d, d < 10 → fX10_fits (mkR I J) 1 (nI w) (nI g) 2 (nI d) = some (if fitO (dO (Dig I w g 2)) d = true then 1 else 0) := fun d hd => R_fits (x := 2) hw hg (by omega) hd (hr 2 (by omega))
  have f3 : ∀ d, d < 10 → fX10_fits (mkR I J) 1 (nI w) (nI g) 3 (nI d) = some (if fitO (dO (Dig I w g 3)) d = true then 1 else 0) := fun d hd => R_fits (x := 3) hw hg (by omega) hd (hr 3 (by omega))
  have f4 : ∀ d, d < 10 → fX10_fits (mkR I J) 1 (nI w) (nI g) 4 (nI d) = some (if fitO (dO (Dig I w g 4)) d = true then 1 else 0) := fun d hd => R_fits (x := 4) hw hg (by omega) hd (hr 4 (by omega))
  have hfit : fit (dsO (Dig I w g)) n = (fitO (dO (Dig I w g 0)) (n / 1000) && fitO (dO (Dig I w g 1)) (n / 100 % 10) && fitO (dO (Dig I w g 2)) (n / 10 % 10) && fitO (dO (Dig I w g 3)) (n % 10)) := by
    show ((((true && fitO (dO (Dig I w g 0)) (n / 10 / 10 / 10 % 10)) && fitO (dO (Dig I w g 1)) (n / 10 / 10 % 10)) && fitO (dO (Dig I w g 2)) (n / 10 % 10)) && fitO (dO (Dig I w g 3)) (n % 10)) = _
    rw [show n / 10 / 10 / 10 % 10 = n / 1000 by omega, show n / 10 / 10 % 10 = n / 100 % 10 by omega, Bool.true_and]
  have g0 : (nI g = 0) = (g = 0) := by
    apply propext
    exact nI_eq (b := 0) (by omega) (by omega)
  have g1 : ((36 : Int32) < nI (n / 100)) = (36 < n / 100) := propext (nI_ltI (a := 36) (by omega) (by omega))
  unfold fX10_readingOf bX10_readingOf_0 bX10_readingOf_115 bX10_readingOf_116 bX10_readingOf_146 bX10_readingOf_136 bX10_readingOf_147 rdN
  simp only [Option.bind_some, d1, d2, d3, e1, e2, e3, e4, nI_add, e5, e6, rIs, f0 _ b0, f1 _ b1, f2 _ b2, f3 _ b3, f4 _ b4, hfit, g0, g1]
  by_cases h0 : fitO (dO (Dig I w g 0)) (n / 1000) = true
  · by_cases h1 : fitO (dO (Dig I w g 1)) (n / 100 % 10) = true
    · by_cases h2 : fitO (dO (Dig I w g 2)) (n / 10 % 10) = true
      · by_cases h3 : fitO (dO (Dig I w g 3)) (n % 10) = true
        · by_cases h4 : fitO (dO (Dig I w g 4)) (chk n) = true
          · by_cases h5 : g = 0
            · subst h5
              by_cases h6 : 36 < n / 100
              · simp [h0, h1, h2, h3, h4, h6]
              · simp [h0, h1, h2, h3, h4, h6]
            · simp [h0, h1, h2, h3, h4, h5]
          · simp [h0, h1, h2, h3, h4]
        · simp [h0, h1, h2, h3]
      · simp [h0, h1, h2]
    · simp [h0, h1]
  · simp [h0]
theorem rdN_lt {ds : List (Option Nat)} {ck : Option Nat} {g n r : Nat} (hn : n < 10000) (h : rdN ds ck g n = some r) : r < 100000 := by
  unfold rdN at h
  split at h
  · cases h
    unfold chk
    omega
  · cases h
theorem nI_neg {n : Nat} (h : n < 2 ^ 31) : ¬ nI n < 0 := nI_pos h
theorem m1lt : (-1 : Int32) < 0 := by decide
theorem R_count {w g : Nat} (hw : w < 30) (hg : g < 3) (hr : ∀ x, x < 5 → dgR (Dig I w g x)) : fX10_readingAt (mkR I J) 1 (nI w) (nI g) (-1) = some (nI (RD (Dig I w g) g).length) := by
  unfold fX10_readingAt bX10_readingAt_0
  rw [fin_l]
  generalize hp : rdN (dsO (Dig I w g)) (dO (Dig I w g 4)) g = p
  have hRD : RD (Dig I w g) g = pre p 10000 := by unfold RD; rw [hp]
  rw [hRD]
  refine lim_it2 (st := fun j => (1, nI w, nI g, -1, nI (pre p j).length, nI j)) 10000 (fun j hj => ?_) ?_
  · show bX10_readingAt_6 (mkR I J) 1 (nI w) (nI g) (-1) (nI (pre p j).length) (nI j) = _
    have hl := pre_len (p := p) (n := j)
    unfold bX10_readingAt_6 bX10_readingAt_57 bX10_readingAt_41
    rw [if_neg (show ¬ (10000 : Int32) ≤ nI j from nI_ge (b := 10000) hj (by omega)), rIs, Option.bind_some, R_readingOf hw hg hj hr, hp, Option.bind_some]
    cases hq : p j with
    | none =>
      simp only [if_pos m1lt, Option.bind_some, nI_1, pre_n hq]
    | some r =>
      have hr := rdN_lt hj (hp ▸ hq)
      simp only [if_neg (nI_neg (show r < 2 ^ 31 by omega)), if_neg (nm1 (show (pre p j).length < 2 ^ 31 by omega)), Option.bind_some, nI_1, pre_p hq, List.length_append, List.length_singleton]
  · show bX10_readingAt_6 (mkR I J) 1 (nI w) (nI g) (-1) (nI (pre p 10000).length) (nI 10000) = _
    unfold bX10_readingAt_6 bX10_readingAt_57 bX10_readingAt_41
    rw [if_pos (by decide), if_neg (by decide)]
theorem R_at {w g i : Nat} (hw : w < 30) (hg : g < 3) (hi : i < 2 ^ 31) (hr : ∀ x, x < 5 → dgR (Dig I w g x)) : fX10_readingAt (mkR I J) 1 (nI w) (nI g) (nI i) = some (match (RD (Dig I w g) g)[i]? with | some r => nI r | none => -1) := by
  unfold fX10_readingAt bX10_readingAt_0
  rw [fin_l]
  generalize hp : rdN (dsO (Dig I w g)) (dO (Dig I w g 4)) g = p
  have hRD : RD (Dig I w g) g = pre p 10000 := by unfold RD; rw [hp]
  rw [hRD]
  have step : ∀ j, j < 10000 → (p j = none ∨ (pre p j).length ≠ i) → sX10_readingAt (mkR I J) (1, nI w, nI g, nI i, nI (pre p j).length, nI j) = some (.inl (1, nI w, nI g, nI i, nI (pre p (j + 1)).length, nI (j + 1))) := by
    intro j hj hne
    show bX10_readingAt_6 (mkR I J) 1 (nI w) (nI g) (nI i) (nI (pre p j).length) (nI j) = _
    have hl := pre_len (p := p) (n := j)
    unfold bX10_readingAt_6 bX10_readingAt_57 bX10_readingAt_41
    rw [if_neg (show ¬ (10000 : Int32) ≤ nI j from nI_ge (b := 10000) hj (by omega)), rIs, Option.bind_some, R_readingOf hw hg hj hr, hp, Option.bind_some]
    cases hq : p j with
    | none =>
      simp only [if_pos m1lt, Option.bind_some, nI_1, pre_n hq]
    | some r =>
      have hr := rdN_lt hj (hp ▸ hq)
      have hne : ¬ nI (pre p j).length = nI i := by
        rw [nI_eq (by omega) hi]
        rcases hne with h | h
        · rw [hq] at h; cases h
        · exact h
      simp only [if_neg (nI_neg (show r < 2 ^ 31 by omega)), if_neg hne, Option.bind_some, nI_1, pre_p hq, List.length_append, List.length_singleton]
  cases ha : (pre p 10000)[i]? with
  | none =>
    have hlen : (pre p 10000).length ≤ i := List.getElem?_eq_none_iff.mp ha
    refine lim_it2 (st := fun j => (1, nI w, nI g, nI i, nI (pre p j).length, nI j)) 10000 (fun j hj => ?_) ?_
    · refine step j hj ?_
      cases hq : p j with
      | none => exact .inl rfl
      | some r =>
        have h1 := pre_le (p := p) (show j + 1 ≤ 10000 by omega)
        rw [pre_p hq, List.length_append, List.length_singleton] at h1
        exact .inr (by omega)
    · show bX10_readingAt_6 (mkR I J) 1 (nI w) (nI g) (nI i) (nI (pre p 10000).length) (nI 10000) = _
      unfold bX10_readingAt_6 bX10_readingAt_57 bX10_readingAt_41
      rw [if_pos (by decide), if_pos (nI_pos' hi)]
  | some r =>
    obtain ⟨j, hj, hq, hl⟩ := pre_at ha
    refine lim_it2 (st := fun j => (1, nI w, nI g, nI i, nI (pre p j).length, nI j)) j (fun j' hj' => ?_) ?_
    · refine step j' (by omega) ?_
      cases hq' : p j' with
      | none => exact .inl rfl
      | some r' =>
        have h1 := pre_le (p := p) (show j' + 1 ≤ j by omega)
        rw [pre_p hq', List.length_append, List.length_singleton] at h1
        exact .inr (by omega)
    · show bX10_readingAt_6 (mkR I J) 1 (nI w) (nI g) (nI i) (nI (pre p j).length) (nI j) = _
      have hr' := rdN_lt hj (hp ▸ hq)
      unfold bX10_readingAt_6 bX10_readingAt_57 bX10_readingAt_41
      rw [if_neg (show ¬ (10000 : Int32) ≤ nI j from nI_ge (b := 10000) hj (by omega)), rIs, Option.bind_some, R_readingOf hw hg hj hr, hp, Option.bind_some]
      simp only [hq, if_neg (nI_neg (show r < 2 ^ 31 by omega)), hl, if_true]
end RR
