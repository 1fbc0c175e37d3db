/-! fronts of both sides; the least bends from a place on -/
def letb (lo hi : Nat → Nat) (x y : Nat) : Bool := decide (lo x ≤ y) && decide (y ≤ hi x)
def bnd (l ch : Nat) : Nat := if l = 5 then 0 else if ch ≤ l then l - ch else ch - l
/-- a change can be gone: to y and the change less two -/
def okc (lo hi : Nat → Nat) (x y ch : Nat) : Bool := decide (2 ≤ y + ch) && decide (y + ch < 14) && letb lo hi x (y + ch - 2)
/-- one more change looked at -/
def gst (lo hi : Nat → Nat) (x y l : Nat) (g : Nat → Nat → Nat) (ch acc : Nat) : Nat := if okc lo hi x y ch = true then min acc (bnd l ch + g (y + ch - 2) ch) else acc
def gfo (lo hi : Nat → Nat) (B x y l : Nat) (g : Nat → Nat → Nat) : Nat → Nat
  | 0 => B
  | c + 1 => gst lo hi x y l g c (gfo lo hi B x y l g c)
/-- the least bends when d more are to come; B: none -/
def gg (lo hi : Nat → Nat) (b B : Nat) : Nat → Nat → Nat → Nat
  | 0, _, _ => 0
  | d + 1, y, l => gfo lo hi B (b - d) y l (gg lo hi b B d) 5
theorem gfo_le (lo hi : Nat → Nat) (B x y l : Nat) (g : Nat → Nat → Nat) (c : Nat) : gfo lo hi B x y l g c ≤ B := by
  induction c with
  | zero => exact Nat.le_refl _
  | succ c ih =>
    show gst lo hi x y l g c (gfo lo hi B x y l g c) ≤ B
    unfold gst
    split
    · exact Nat.le_trans (Nat.min_le_left _ _) ih
    · exact ih
theorem gg_le (lo hi : Nat → Nat) (b B d y l : Nat) : gg lo hi b B d y l ≤ B := by
  cases d with
  | zero => exact Nat.zero_le _
  | succ d => exact gfo_le _ _ _ _ _ _ _ _
theorem bnd_le {l ch : Nat} (hl : l ≤ 5) (hc : ch < 5) : bnd l ch ≤ 4 := by
  unfold bnd
  split
  · omega
  · split <;> omega
/-- alike, but for none -/
def sim (B B' m v v' : Nat) : Prop := (v = B ∧ v' = B') ∨ (v = v' ∧ v ≤ m)
theorem gfo_sim {lo hi : Nat → Nat} {B B' x y l m : Nat} {g g' : Nat → Nat → Nat} (hB : 100 ≤ B) (hB' : 100 ≤ B') (hm : m ≤ 50) (hl : l ≤ 5) (h : ∀ y ch, ch < 5 → sim B B' m (g y ch) (g' y ch)) : ∀ c, c ≤ 5 → sim B B' (m + 4) (gfo lo hi B x y l g c) (gfo lo hi B' x y l g' c) := by
  intro c
  induction c with
  | zero => intro _; exact .inl ⟨rfl, rfl⟩
  | succ c ih =>
    intro hc
    have ih := ih (by omega)
    show sim B B' (m + 4) (gst lo hi x y l g c (gfo lo hi B x y l g c)) (gst lo hi x y l g' c (gfo lo hi B' x y l g' c))
    unfold gst
    by_cases ho : okc lo hi x y c = true
    · rw [if_pos ho, if_pos ho]
      have hb := bnd_le (l := l) hl (show c < 5 by omega)
      have hg := h (y + c - 2) c (by omega)
      generalize gfo lo hi B x y l g c = u at ih
      generalize gfo lo hi B' x y l g' c = u' at ih
      generalize g (y + c - 2) c = w at hg
      generalize g' (y + c - 2) c = w' at hg
      unfold sim at *
      omega
    · rw [if_neg ho, if_neg ho]
      exact ih
theorem gg_sim {lo hi : Nat → Nat} {b B B' : Nat} (hB : 100 ≤ B) (hB' : 100 ≤ B') : ∀ (d y l : Nat), d ≤ 11 → l ≤ 5 → sim B B' (4 * d) (gg lo hi b B d y l) (gg lo hi b B' d y l) := by
  intro d
  induction d with
  | zero => intro y l _ _; exact .inr ⟨rfl, Nat.zero_le _⟩
  | succ d ih =>
    intro y l hd hl
    exact gfo_sim hB hB' (by omega) hl (fun y ch hc => ih y ch (by omega) (by omega)) 5 (Nat.le_refl _)
theorem gfo_lb {lo hi : Nat → Nat} {B x y l : Nat} {g : Nat → Nat → Nat} : ∀ (c ch : Nat), ch < c → okc lo hi x y ch = true → gfo lo hi B x y l g c ≤ bnd l ch + g (y + ch - 2) ch := by
  intro c
  induction c with
  | zero => intro ch h; omega
  | succ c ih =>
    intro ch h ho
    show gst lo hi x y l g c (gfo lo hi B x y l g c) ≤ _
    unfold gst
    by_cases hc : ch = c
    · subst hc
      rw [if_pos ho]
      exact Nat.min_le_right _ _
    · have := ih ch (by omega) ho
      split
      · exact Nat.le_trans (Nat.min_le_left _ _) this
      · exact this
theorem gfo_at {lo hi : Nat → Nat} {B x y l : Nat} {g : Nat → Nat → Nat} : ∀ (c : Nat), gfo lo hi B x y l g c < B → ∃ ch, ch < c ∧ okc lo hi x y ch = true ∧ bnd l ch + g (y + ch - 2) ch = gfo lo hi B x y l g c := by
  intro c
  induction c with
  | zero => intro h; exact absurd h (Nat.lt_irrefl _)
  | succ c ih =>
    show gst lo hi x y l g c (gfo lo hi B x y l g c) < B → ∃ ch, ch < c + 1 ∧ okc lo hi x y ch = true ∧ bnd l ch + g (y + ch - 2) ch = gst lo hi x y l g c (gfo lo hi B x y l g c)
    unfold gst
    by_cases ho : okc lo hi x y c = true
    · rw [if_pos ho]
      intro h
      by_cases hm : gfo lo hi B x y l g c ≤ bnd l c + g (y + c - 2) c
      · rw [Nat.min_eq_left hm] at h ⊢
        obtain ⟨ch, h1, h2, h3⟩ := ih h
        exact ⟨ch, by omega, h2, h3⟩
      · rw [Nat.min_eq_right (by omega)]
        exact ⟨c, by omega, ho, rfl⟩
    · rw [if_neg ho]
      intro h
      obtain ⟨ch, h1, h2, h3⟩ := ih h
      exact ⟨ch, by omega, h2, h3⟩
/-- the first change of the least bends -/
def isPk (lo hi : Nat → Nat) (b B d y l c : Nat) : Prop := c < 5 ∧ (okc lo hi (b - d) y c = true ∧ bnd l c + gg lo hi b B d (y + c - 2) c = gg lo hi b B (d + 1) y l) ∧ ∀ c', c' < c → ¬ (okc lo hi (b - d) y c' = true ∧ bnd l c' + gg lo hi b B d (y + c' - 2) c' = gg lo hi b B (d + 1) y l)
theorem pk_ex {lo hi : Nat → Nat} {b B d y l : Nat} (h : gg lo hi b B (d + 1) y l < B) : ∃ c, isPk lo hi b B d y l c := by
  obtain ⟨ch, h1, h2, h3⟩ := gfo_at 5 h
  rcases fbad (P := fun c => ¬ (okc lo hi (b - d) y c = true ∧ bnd l c + gg lo hi b B d (y + c - 2) c = gg lo hi b B (d + 1) y l)) 5 with q | ⟨c, q1, q2, q3⟩
  · exact absurd ⟨h2, h3⟩ (q ch h1)
  · exact ⟨c, q1, Decidable.not_not.mp q2, q3⟩
theorem pk_u {lo hi : Nat → Nat} {b B d y l c c' : Nat} (h : isPk lo hi b B d y l c) (h' : isPk lo hi b B d y l c') : c = c' := by
  rcases Nat.lt_trichotomy c c' with q | q | q
  · exact absurd h.2.1 (h'.2.2 c q)
  · exact q
  · exact absurd h'.2.1 (h.2.2 c' q)
theorem okc_b {lo hi : Nat → Nat} {x y c : Nat} (h : okc lo hi x y c = true) : 2 ≤ y + c ∧ y + c < 14 ∧ letb lo hi x (y + c - 2) = true := by
  unfold okc at h
  simp only [Bool.and_eq_true, decide_eq_true_eq] at h
  exact ⟨h.1.1, h.1.2, h.2⟩
/-- the same change for both sides -/
theorem pk_sim {lo hi : Nat → Nat} {b B B' d y l c : Nat} (hB : 100 ≤ B) (hB' : 100 ≤ B') (hd : d < 11) (hl : l ≤ 5) (hf : gg lo hi b B (d + 1) y l < B) (h : isPk lo hi b B d y l c) : isPk lo hi b B' d y l c ∧ gg lo hi b B' (d + 1) y l = gg lo hi b B (d + 1) y l ∧ gg lo hi b B' d (y + c - 2) c = gg lo hi b B d (y + c - 2) c ∧ gg lo hi b B d (y + c - 2) c < B := by
  have s1 := gg_sim (lo := lo) (hi := hi) (b := b) hB hB' (d + 1) y l (by omega) hl
  have key : ∀ c, c < 5 → ((okc lo hi (b - d) y c = true ∧ bnd l c + gg lo hi b B d (y + c - 2) c = gg lo hi b B (d + 1) y l) ↔ (okc lo hi (b - d) y c = true ∧ bnd l c + gg lo hi b B' d (y + c - 2) c = gg lo hi b B' (d + 1) y l)) := by
    intro c hc
    have s2 := gg_sim (lo := lo) (hi := hi) (b := b) hB hB' d (y + c - 2) c (by omega) (by omega)
    have hb := bnd_le (l := l) hl hc
    have : (bnd l c + gg lo hi b B d (y + c - 2) c = gg lo hi b B (d + 1) y l) ↔ (bnd l c + gg lo hi b B' d (y + c - 2) c = gg lo hi b B' (d + 1) y l) := by
      unfold sim at s1 s2
      omega
    rw [this]
  obtain ⟨h1, h2, h3⟩ := h
  have s2 := gg_sim (lo := lo) (hi := hi) (b := b) hB hB' d (y + c - 2) c (by omega) (by omega)
  have e2 := h2.2
  refine ⟨⟨h1, (key c h1).mp h2, fun c' hc' q => h3 c' hc' ((key c' (by omega)).mpr q)⟩, ?_, ?_, ?_⟩
  · unfold sim at s1; omega
  · unfold sim at s1 s2; omega
  · omega
theorem ab_sub {a b : Nat} (ha : a < 2 ^ 31) (hb : b < 2 ^ 31) : ab (nI a - nI b) = nI (if a ≤ b then b - a else a - b) := by
  have h1 := nI_toInt ha
  have h2 := nI_toInt hb
  have hs : (nI a - nI b).toInt = (a : Int) - b := by rw [i_sub, h1, h2] <;> rw [h1, h2] <;> omega
  unfold ab
  by_cases h : a ≤ b
  · rw [if_pos h, i_eq, nI_toInt (by omega)]
    split
    · rename_i hlt
      rw [i_neg (by rw [hs]; omega), hs]
      omega
    · rename_i hlt
      rw [i_lt, hs, n0] at hlt
      rw [hs]
      omega
  · rw [if_neg h, i_eq, nI_toInt (by omega)]
    split
    · rename_i hlt
      rw [i_lt, hs, n0] at hlt
      omega
    · rw [hs]
      omega
theorem bnd_i {l ch : Nat} (hl : l < 5) (hc : ch < 5) : ab (nI ch - nI l) = nI (bnd l ch) := by
  rw [ab_sub (by omega) (by omega)]
  congr 1
  unfold bnd
  rw [if_neg (show ¬ l = 5 by omega)]
section FR
variable {S : MS} {I : Nat → Nat → Int32} {J : Nat → Nat → Int64} {lo hi : Nat → Nat}
/-- the class's costs at a place: come to by l -/
def ccv (lo hi : Nat → Nat) (b x y l : Nat) : Nat := if letb lo hi x y = true then gg lo hi b 1000 (b - x) y l else 1000
theorem ccv_le (b x y l : Nat) : ccv lo hi b x y l ≤ 1000 := by
  unfold ccv
  split
  · exact gg_le _ _ _ _ _ _ _
  · exact Nat.le_refl _
def cst1 (lo hi : Nat → Nat) (b x y l ch : Nat) : Nat := if 2 ≤ y + ch ∧ y + ch < 14 then bnd l ch + ccv lo hi b (x + 1) (y + ch - 2) ch else 1000
theorem C_slot {x y l : Nat} : fX5_slotOf (nI x) (nI y) (nI l) = some (nI (6 * (12 * y + x) + l)) := by
  unfold fX5_slotOf bX5_slotOf_0
  rw [show (12 : Int32) = nI 12 from rfl, show (6 : Int32) = nI 6 from rfl, nI_mul, nI_add, nI_mul, nI_add]
/-- a column of the class's costs -/
def ctb (S : MS) (lo hi : Nat → Nat) (b x : Nat) : Prop := ∀ y l, y < 12 → l < 6 → m_I S 19 (6 * (12 * y + x) + l) = nI (ccv lo hi b x y l)
theorem C_costBy {b x y l ch : Nat} (hC : CS S) (hx : x + 1 ≤ 11) (hy : y < 12) (hl : l < 6) (hc : ch < 5) (h : ctb S lo hi b (x + 1)) : fX5_costBy S 16 (nI x) (nI y) (nI l) (nI ch) = some (nI (cst1 lo hi b x y l ch)) := by
  have hcc := ccv_le (lo := lo) (hi := hi) b (x + 1) (y + ch - 2) ch
  unfold fX5_costBy bX5_costBy_0 bX5_costBy_39 cst1
  simp only [nI_add, nI_1, Option.bind_some, C_isPlace]
  have hv : (nI (y + ch) - 2 : Int32).toInt = ((y + ch : Nat) : Int) - 2 := by
    have h2 : (2 : Int32).toInt = 2 := rfl
    rw [i_sub, nI_toInt (by omega), h2] <;> rw [nI_toInt (by omega), h2] <;> omega
  by_cases h1 : 2 ≤ y + ch ∧ y + ch < 14
  · have e : nI (y + ch) - 2 = nI (y + ch - 2) := by
      rw [i_eq, hv, nI_toInt (by omega)]
      omega
    have hp : bPl (nI (x + 1)) (nI (y + ch - 2)) = 1 := bPl_t (by rw [nI_toInt (by omega), nI_toInt (by omega)]; omega)
    rw [if_pos h1, e, hp, if_neg (by decide)]
    by_cases h5 : l = 5
    · subst h5
      rw [if_pos (show nI 5 = 5 from rfl), cP16_2 hC, Option.bind_some, C_slot, Option.bind_some, cL19 hC rfl (show 6 * (12 * (y + ch - 2) + (x + 1)) + ch < 864 by omega), h _ _ (by omega) (by omega), Option.bind_some]
      have : bnd 5 ch = 0 := if_pos rfl
      rw [this, show (0 : Int32) = nI 0 from rfl, nI_add]
    · rw [if_neg (show ¬ nI l = 5 from fun q => h5 ((nI_eq (b := 5) (by omega) (by omega)).mp q)), C_abs, bnd_i (by omega) hc, Option.bind_some, cP16_2 hC, Option.bind_some, C_slot, Option.bind_some, cL19 hC rfl (show 6 * (12 * (y + ch - 2) + (x + 1)) + ch < 864 by omega), h _ _ (by omega) (by omega), Option.bind_some, nI_add]
  · have hp : bPl (nI (x + 1)) (nI (y + ch) - 2) = 0 := bz_f (by rw [hv]; omega)
    rw [if_neg h1, hp, if_pos rfl]
    rfl
theorem cst1_ok {b d y l ch : Nat} (hd : d < b) (h : okc lo hi (b - d) y ch = true) : cst1 lo hi b (b - d - 1) y l ch = bnd l ch + gg lo hi b 1000 d (y + ch - 2) ch := by
  obtain ⟨h1, h2, h3⟩ := okc_b h
  unfold cst1 ccv
  rw [if_pos ⟨h1, h2⟩, show b - d - 1 + 1 = b - d by omega, if_pos h3, show b - (b - d) = d by omega]
theorem cst1_no {b d y l ch : Nat} (hd : d < b) (h : ¬ okc lo hi (b - d) y ch = true) : 1000 ≤ cst1 lo hi b (b - d - 1) y l ch := by
  unfold cst1 ccv
  by_cases h1 : 2 ≤ y + ch ∧ y + ch < 14
  · rw [if_pos h1, show b - d - 1 + 1 = b - d by omega, if_neg (fun q => h (by unfold okc; simp [h1.1, h1.2, q]))]
    omega
  · rw [if_neg h1]
    exact Nat.le_refl _
theorem mn_i {a b : Nat} (ha : a < 2 ^ 31) (hb : b < 2 ^ 31) : mn (nI a) (nI b) = nI (min a b) := by
  unfold mn
  by_cases h : a < b
  · rw [if_pos (nI_lt h hb), Nat.min_eq_left (by omega)]
  · rw [if_neg (by rw [nI_ltI ha hb]; exact h), Nat.min_eq_right (by omega)]
theorem mx_i {a b : Nat} (ha : a < 2 ^ 31) (hb : b < 2 ^ 31) : mx (nI a) (nI b) = nI (max a b) := by
  unfold mx
  by_cases h : b < a
  · rw [if_pos (nI_lt h ha), Nat.max_eq_left (by omega)]
  · rw [if_neg (by rw [nI_ltI hb ha]; exact h), Nat.max_eq_right (by omega)]
/-- the gates as both sides have taken them -/
def gts (S : MS) (lo hi : Nat → Nat) : Prop := ∀ x, x < 12 → m_I S 17 x = nI (lo x) ∧ m_I S 18 x = nI (hi x) ∧ lo x < 12 ∧ hi x < 12
theorem C_let {x y : Nat} (hC : CS S) (hg : gts S lo hi) (hx : x < 12) (hy : y < 12) : fX9_isWithin (nI y) (m_I S 17 x) (m_I S 18 x) = some (if letb lo hi x y = true then 1 else 0) := by
  obtain ⟨g1, g2, g3, g4⟩ := hg x hx
  rw [C_isWithin, g1, g2, nI_toInt (by omega), nI_toInt (by omega), nI_toInt (by omega)]
  unfold letb
  by_cases h : lo x ≤ y ∧ y ≤ hi x
  · rw [bz_t (by omega)]
    simp [h.1, h.2]
  · rw [bz_f (by omega)]
    by_cases h1 : lo x ≤ y
    · have : ¬ y ≤ hi x := fun q => h ⟨h1, q⟩
      simp [this]
    · simp [h1]
theorem C_leastCost {b x y l : Nat} (hC : CS S) (hg : gts S lo hi) (hxb : x ≤ b) (hb : b < 12) (hy : y < 12) (hl : l < 6) (h : x < b → ctb S lo hi b (x + 1)) : fX5_leastCost S 16 (nI x) (nI y) (nI l) (nI b) = some (nI (ccv lo hi b x y l)) := by
  unfold fX5_leastCost bX5_leastCost_0
  simp only [cP16_0 hC, cP16_1 hC, cL17 hC rfl (show x < 12 by omega), cL18 hC rfl (show x < 12 by omega), C_let hC hg (show x < 12 by omega) hy, Option.bind_some]
  unfold ccv
  by_cases hlt : letb lo hi x y = true
  · rw [if_neg (by rw [if_pos hlt]; decide), if_pos hlt]
    by_cases hxe : x = b
    · subst hxe
      rw [if_pos rfl, fin_r, Nat.sub_self]
      rfl
    · rw [if_neg (fun q => hxe ((nI_eq (by omega) (by omega)).mp q)), fin_l]
      obtain ⟨d, hd⟩ : ∃ d, b - x = d + 1 := ⟨b - x - 1, by omega⟩
      have hx1 : x = b - d - 1 := by omega
      have hxd : x + 1 = b - d := by omega
      rw [hd]
      refine lim_it2 (step := sX5_leastCost S) (st := fun c => (16, nI x, nI y, nI l, nI (gfo lo hi 1000 (b - d) y l (gg lo hi b 1000 d) c), nI c)) 5 (fun c hc => ?_) ?_
      · show bX5_leastCost_39 S 16 (nI x) (nI y) (nI l) (nI (gfo lo hi 1000 (b - d) y l (gg lo hi b 1000 d) c)) (nI c) = _
        have hle := gfo_le lo hi 1000 (b - d) y l (gg lo hi b 1000 d) c
        have hbd := bnd_le (l := l) (ch := c) (by omega) hc
        have hgl := gg_le lo hi b 1000 d (y + c - 2) c
        have hcb : cst1 lo hi b x y l c ≤ 2000 := by
          unfold cst1
          split
          · have := ccv_le (lo := lo) (hi := hi) b (x + 1) (y + c - 2) c
            omega
          · omega
        unfold bX5_leastCost_39
        rw [if_neg (show ¬ (5 : Int32) ≤ nI c from nI_ge (b := 5) hc (by omega)), cIs16 hC, Option.bind_some, C_costBy hC (by omega) hy hl hc (h (by omega)), Option.bind_some, C_min, mn_i (by omega) (by omega), Option.bind_some, Option.bind_some, nI_1]
        show some (Sum.inl (16, nI x, nI y, nI l, _, nI (c + 1))) = some (Sum.inl (16, nI x, nI y, nI l, nI (gst lo hi (b - d) y l (gg lo hi b 1000 d) c (gfo lo hi 1000 (b - d) y l (gg lo hi b 1000 d) c)), nI (c + 1)))
        congr 7
        unfold gst
        by_cases ho : okc lo hi (b - d) y c = true
        · rw [if_pos ho, hx1, cst1_ok (by omega) ho]
        · rw [if_neg ho, hx1]
          have := cst1_no (l := l) (show d < b by omega) ho
          rw [Nat.min_eq_left (by omega)]
      · show bX5_leastCost_39 S 16 (nI x) (nI y) (nI l) (nI (gfo lo hi 1000 (b - d) y l (gg lo hi b 1000 d) 5)) (nI 5) = _
        unfold bX5_leastCost_39
        rw [if_pos (by decide)]
        rfl
  · rw [if_pos (by rw [if_neg hlt]), if_neg hlt, fin_r]
    rfl
end FR
