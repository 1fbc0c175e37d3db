/-! matching: the least cost and the first of the least -/
section MA
def fo (c : Nat → Int) (P : Nat → Bool) (a : Int) : Nat → Int
  | 0 => a
  | g + 1 => if P g = true then min (fo c P a g) (c g) else fo c P a g
theorem fo_a {c : Nat → Int} {P : Nat → Bool} {a : Int} (m : Nat) : fo c P a m ≤ a := by
  induction m with
  | zero => exact Int.le_refl _
  | succ m ih =>
    unfold fo
    split
    · omega
    · exact ih
theorem fo_g {c : Nat → Int} {P : Nat → Bool} {a : Int} (m : Nat) : ∀ g, g < m → P g = true → fo c P a m ≤ c g := by
  induction m with
  | zero => intro g hg; omega
  | succ m ih =>
    intro g hg hp
    unfold fo
    by_cases h : g = m
    · subst h
      rw [if_pos hp]
      omega
    · have := ih g (by omega) hp
      split
      · omega
      · exact this
theorem fo_x {c : Nat → Int} {P : Nat → Bool} {a : Int} (m : Nat) : fo c P a m = a ∨ ∃ g, g < m ∧ P g = true ∧ fo c P a m = c g := by
  induction m with
  | zero => exact .inl rfl
  | succ m ih =>
    unfold fo
    by_cases h : P m = true
    · rw [if_pos h]
      by_cases hc : c m ≤ fo c P a m
      · exact .inr ⟨m, by omega, h, by omega⟩
      · rw [show min (fo c P a m) (c m) = fo c P a m by omega]
        rcases ih with e | ⟨g, h1, h2, h3⟩
        · exact .inl e
        · exact .inr ⟨g, by omega, h2, h3⟩
    · rw [if_neg h]
      rcases ih with e | ⟨g, h1, h2, h3⟩
      · exact .inl e
      · exact .inr ⟨g, by omega, h2, h3⟩
theorem or_bit (t g k : Nat) : (t ||| 2 ^ g).testBit k = (t.testBit k || decide (g = k)) := by rw [Nat.testBit_or, Nat.testBit_two_pow]
theorem pop_or {t g : Nat} (h : t.testBit g = false) (m : Nat) : pop (t ||| 2 ^ g) m = pop t m + if g < m then 1 else 0 := by
  induction m with
  | zero => rfl
  | succ m ih =>
    show pop (t ||| 2 ^ g) m + (if (t ||| 2 ^ g).testBit m = true then 1 else 0) = pop t m + (if t.testBit m = true then 1 else 0) + _
    rw [ih, or_bit]
    by_cases e : g = m
    · subst e
      rw [h]
      simp
    · have : decide (g = m) = false := by simp [e]
      rw [this, Bool.or_false]
      by_cases e2 : g < m
      · rw [if_pos e2, if_pos (show g < m + 1 by omega)]; omega
      · rw [if_neg e2, if_neg (show ¬ g < m + 1 by omega)]; omega
theorem pop_n {t n : Nat} (h : t < 2 ^ n) (m : Nat) : pop t m ≤ n ∧ pop t m ≤ m := by
  induction m with
  | zero => exact ⟨Nat.zero_le _, Nat.le_refl _⟩
  | succ m ih =>
    show pop t m + (if t.testBit m = true then 1 else 0) ≤ n ∧ pop t m + (if t.testBit m = true then 1 else 0) ≤ m + 1
    by_cases hm : m < n
    · split <;> omega
    · rw [Nat.testBit_lt_two_pow (Nat.lt_of_lt_of_le h (Nat.pow_le_pow_right (by decide) (by omega)))]
      simp
      omega
theorem or_lt {t g n : Nat} (h : t < 2 ^ n) (hg : g < n) : t ||| 2 ^ g < 2 ^ n := Nat.or_lt_two_pow h (Nat.pow_lt_pow_right (by decide) hg)
section ML
variable (cC cR : Nat → Nat → Int) (o n : Nat)
def Lc : Nat → Nat → Int
  | 0, t => 15 * ((n : Int) - (pop t 12 : Nat))
  | k + 1, t => fo (fun g => cC (o - k - 1) g + Lc k (t ||| 2 ^ g)) (fun g => !t.testBit g) (15 + Lc k t) n
def PC : Prop := ∀ f g, f < o → g < n → (0 ≤ cC f g ∧ cC f g ≤ 132 ∧ cR f g = cC f g) ∨ cC f g = 1000 ∧ cR f g = 1000000
variable {cC cR o n}
theorem Lc_b (h : PC cC cR o n) (hn : n ≤ 5) : ∀ k t, k ≤ o → t < 2 ^ n → 0 ≤ Lc cC o n k t ∧ Lc cC o n k t ≤ 15 * ((k : Int) + n - (pop t 12 : Nat)) := by
  intro k
  induction k with
  | zero =>
    intro t _ ht
    have := (pop_n ht 12).1
    unfold Lc
    omega
  | succ k ih =>
    intro t hk ht
    have h0 := ih t (by omega) ht
    unfold Lc
    have h1 := fo_a (c := fun g => cC (o - k - 1) g + Lc cC o n k (t ||| 2 ^ g)) (P := fun g => !t.testBit g) (a := 15 + Lc cC o n k t) n
    refine ⟨?_, by omega⟩
    rcases fo_x (c := fun g => cC (o - k - 1) g + Lc cC o n k (t ||| 2 ^ g)) (P := fun g => !t.testBit g) (a := 15 + Lc cC o n k t) n with e | ⟨g, hg, -, e⟩
    · omega
    · rw [e]
      have h2 := ih (t ||| 2 ^ g) (by omega) (or_lt ht hg)
      have h3 := h (o - k - 1) g (by omega) hg
      show 0 ≤ cC (o - k - 1) g + Lc cC o n k (t ||| 2 ^ g)
      omega
variable (cC cR o n)
/-- the first partner of the old front o - k - 1, n: none -/
def fpx (k t : Nat) : Nat → Nat
  | 0 => n
  | m + 1 => let g := n - m - 1; if (!t.testBit g) = true ∧ cC (o - k - 1) g + Lc cC o n k (t ||| 2 ^ g) = Lc cC o n (k + 1) t then g else fpx k t m
def fp (k t : Nat) : Nat := fpx cC o n k t n
def nx (k t : Nat) : Nat := if fp cC o n k t < n then t ||| 2 ^ fp cC o n k t else t
def FA : Nat → Nat → Nat
  | 0, _ => 0
  | k + 1, t => fp cC o n k t * (n + 1) ^ k + FA k (nx cC o n k t)
/-- what the rest of a row costs the reference -/
def RC : Nat → Nat → Nat → Int
  | 0, _, _ => 0
  | k + 1, t, r => if n ≤ r / (n + 1) ^ k then RC k t (r % (n + 1) ^ k) else (if t.testBit (r / (n + 1) ^ k) = true then 1000000 else cR (o - k - 1) (r / (n + 1) ^ k) - 30) + RC k (t ||| 2 ^ (r / (n + 1) ^ k)) (r % (n + 1) ^ k)
variable {cC cR o n}
def att (cC : Nat → Nat → Int) (o n k t g : Nat) : Prop := t.testBit g = false ∧ cC (o - k - 1) g + Lc cC o n k (t ||| 2 ^ g) = Lc cC o n (k + 1) t
theorem fpx_s {k t : Nat} (m : Nat) (hm : m ≤ n) : (fpx cC o n k t m = n ∧ ∀ g, n - m ≤ g → g < n → ¬ att cC o n k t g) ∨ (fpx cC o n k t m < n ∧ att cC o n k t (fpx cC o n k t m) ∧ ∀ g, n - m ≤ g → g < fpx cC o n k t m → ¬ att cC o n k t g) := by
  induction m with
  | zero => exact .inl ⟨rfl, fun g h1 h2 => by omega⟩
  | succ m ih =>
    unfold fpx
    by_cases h : (!t.testBit (n - m - 1)) = true ∧ cC (o - k - 1) (n - m - 1) + Lc cC o n k (t ||| 2 ^ (n - m - 1)) = Lc cC o n (k + 1) t
    · rw [if_pos h]
      exact .inr ⟨by omega, ⟨by simpa using h.1, h.2⟩, fun g h1 h2 => by omega⟩
    · rw [if_neg h]
      have hn : ¬ att cC o n k t (n - m - 1) := fun q => h ⟨by simpa using q.1, q.2⟩
      rcases ih (by omega) with ⟨a, b⟩ | ⟨a, b, c⟩
      · refine .inl ⟨a, fun g h1 h2 => ?_⟩
        by_cases e : g = n - m - 1
        · rw [e]; exact hn
        · exact b g (by omega) h2
      · refine .inr ⟨a, b, fun g h1 h2 => ?_⟩
        by_cases e : g = n - m - 1
        · rw [e]; exact hn
        · exact c g (by omega) h2
theorem fp_s {k t : Nat} : (fp cC o n k t = n ∧ ∀ g, g < n → ¬ att cC o n k t g) ∨ (fp cC o n k t < n ∧ att cC o n k t (fp cC o n k t) ∧ ∀ g, g < fp cC o n k t → ¬ att cC o n k t g) := by
  rcases fpx_s (cC := cC) (o := o) (k := k) (t := t) n (Nat.le_refl n) with ⟨a, b⟩ | ⟨a, b, c⟩
  · exact .inl ⟨a, fun g hg => b g (by omega) hg⟩
  · exact .inr ⟨a, b, fun g hg => c g (by omega) hg⟩
def Wt (cC : Nat → Nat → Int) (o n k t : Nat) : Int := Lc cC o n k t - 15 * ((k : Int) + n - (pop t 12 : Nat))
theorem FA_lt (k : Nat) : ∀ t, FA cC o n k t < (n + 1) ^ k := by
  induction k with
  | zero => intro t; exact Nat.one_pos
  | succ k ih =>
    intro t
    have h1 := ih (nx cC o n k t)
    have h2 : fp cC o n k t ≤ n := by rcases fp_s (cC := cC) (o := o) (n := n) (k := k) (t := t) with ⟨a, -⟩ | ⟨a, -⟩ <;> omega
    unfold FA
    have h3 : fp cC o n k t * (n + 1) ^ k ≤ n * (n + 1) ^ k := Nat.mul_le_mul_right _ h2
    have h4 : (n + 1) ^ (k + 1) = n * (n + 1) ^ k + (n + 1) ^ k := by rw [Nat.pow_succ, Nat.mul_comm, Nat.add_mul, Nat.one_mul]
    omega
theorem FA_ok (h : PC cC cR o n) (ho : o ≤ 5) (hn : n ≤ 5) : ∀ k t r, k ≤ o → t < 2 ^ n → r < (n + 1) ^ k → (r < FA cC o n k t → Wt cC o n k t < RC cR o n k t r) ∧ (r = FA cC o n k t → RC cR o n k t r = Wt cC o n k t) ∧ Wt cC o n k t ≤ RC cR o n k t r := by
  intro k
  induction k with
  | zero =>
    intro t r _ ht hr
    have : Wt cC o n 0 t = 0 := by unfold Wt Lc; omega
    rw [this]
    refine ⟨fun q => by unfold FA at q; omega, fun _ => rfl, Int.le_refl _⟩
  | succ k ih =>
    intro t r hk ht hr
    have hB : 0 < (n + 1) ^ k := Nat.pow_pos (by omega)
    have hd : r / (n + 1) ^ k ≤ n := by
      have : r / (n + 1) ^ k < n + 1 := by
        rw [Nat.div_lt_iff_lt_mul hB]
        rw [Nat.pow_succ, Nat.mul_comm] at hr
        exact hr
      omega
    have hm : r % (n + 1) ^ k < (n + 1) ^ k := Nat.mod_lt _ hB
    have hrr : r / (n + 1) ^ k * (n + 1) ^ k + r % (n + 1) ^ k = r := by rw [Nat.mul_comm]; exact Nat.div_add_mod _ _
    generalize hdd : r / (n + 1) ^ k = d at *
    generalize hmm : r % (n + 1) ^ k = r' at *
    have hL0 := Lc_b h hn k t (by omega) ht
    have hL1 := Lc_b h hn (k + 1) t hk ht
    have hp := (pop_n ht 12).1
    have la : Lc cC o n (k + 1) t ≤ 15 + Lc cC o n k t := fo_a n
    have lg : ∀ g, g < n → t.testBit g = false → Lc cC o n (k + 1) t ≤ cC (o - k - 1) g + Lc cC o n k (t ||| 2 ^ g) := fun g hg hb => fo_g (c := fun g => cC (o - k - 1) g + Lc cC o n k (t ||| 2 ^ g)) (P := fun g => !t.testBit g) n g hg (by simp [hb])
    have lx : (∀ g, g < n → ¬ att cC o n k t g) → Lc cC o n (k + 1) t = 15 + Lc cC o n k t := fun q => by
      rcases fo_x (c := fun g => cC (o - k - 1) g + Lc cC o n k (t ||| 2 ^ g)) (P := fun g => !t.testBit g) (a := 15 + Lc cC o n k t) n with e | ⟨g, hg, hb, e⟩
      · exact e
      · exact absurd ⟨by simpa using hb, e.symm⟩ (q g hg)
    have hRC : RC cR o n (k + 1) t r = if n ≤ d then RC cR o n k t r' else (if t.testBit d = true then 1000000 else cR (o - k - 1) d - 30) + RC cR o n k (t ||| 2 ^ d) r' := by
      show (if n ≤ r / (n + 1) ^ k then _ else _) = _
      rw [hdd, hmm]
    have hFA : FA cC o n (k + 1) t = fp cC o n k t * (n + 1) ^ k + FA cC o n k (nx cC o n k t) := rfl
    have hFl := FA_lt (cC := cC) (o := o) (n := n) k (nx cC o n k t)
    rw [hRC, hFA]
    -- order of two rows
    have ord : ∀ a, a ≠ d → (r < a * (n + 1) ^ k + FA cC o n k (nx cC o n k t) ↔ d < a) ∧ r ≠ a * (n + 1) ^ k + FA cC o n k (nx cC o n k t) := fun a ha => by
      rcases Nat.lt_or_gt_of_ne ha with q | q
      · have h1 : (a + 1) * (n + 1) ^ k ≤ d * (n + 1) ^ k := Nat.mul_le_mul_right _ q
        rw [Nat.add_mul, Nat.one_mul] at h1
        exact ⟨⟨fun _ => by omega, fun _ => by omega⟩, by omega⟩
      · have h1 : (d + 1) * (n + 1) ^ k ≤ a * (n + 1) ^ k := Nat.mul_le_mul_right _ q
        rw [Nat.add_mul, Nat.one_mul] at h1
        exact ⟨⟨fun _ => by omega, fun _ => by omega⟩, by omega⟩
    by_cases hdn : n ≤ d
    · have hdn' : d = n := by omega
      rw [if_pos hdn]
      obtain ⟨i1, i2, i3⟩ := ih t r' (by omega) ht hm
      rcases fp_s (cC := cC) (o := o) (n := n) (k := k) (t := t) with ⟨a, b⟩ | ⟨a, b, c⟩
      · have hnx : nx cC o n k t = t := by unfold nx; rw [if_neg (by omega)]
        have e := lx b
        rw [hnx, a]
        have hW : Wt cC o n (k + 1) t = Wt cC o n k t := by unfold Wt; rw [e]; omega
        rw [hW]
        refine ⟨fun q => i1 (by rw [hdn'] at hrr; omega), fun q => i2 (by rw [hdn'] at hrr; omega), i3⟩
      · have o1 := ord (fp cC o n k t) (by omega)
        have hW : Wt cC o n (k + 1) t ≤ Wt cC o n k t := by unfold Wt; omega
        exact ⟨fun q => by have := o1.1.mp q; omega, fun q => absurd q o1.2, by omega⟩
    · rw [if_neg hdn]
      have hdn' : d < n := by omega
      have htd := or_lt ht hdn'
      obtain ⟨i1, i2, i3⟩ := ih (t ||| 2 ^ d) r' (by omega) htd hm
      have hLd := Lc_b h hn k (t ||| 2 ^ d) (by omega) htd
      have hpd := (pop_n htd 12).1
      have hk5 : k ≤ 5 := by omega
      have big : ∀ z : Int, 1000000 - 30 ≤ z → Wt cC o n (k + 1) t < z + RC cR o n k (t ||| 2 ^ d) r' := fun z hz => by
        unfold Wt at i3 ⊢
        omega
      have strict : Wt cC o n (k + 1) t < (if t.testBit d = true then 1000000 else cR (o - k - 1) d - 30) + RC cR o n k (t ||| 2 ^ d) r' ∨ att cC o n k t d ∧ cR (o - k - 1) d = cC (o - k - 1) d := by
        by_cases hb : t.testBit d = true
        · rw [if_pos hb]; exact .inl (big _ (by omega))
        · rw [if_neg hb]
          have hb' : t.testBit d = false := by simpa using hb
          rcases h (o - k - 1) d (by omega) hdn' with ⟨c1, c2, c3⟩ | ⟨c1, c2⟩
          · by_cases e : cC (o - k - 1) d + Lc cC o n k (t ||| 2 ^ d) = Lc cC o n (k + 1) t
            · exact .inr ⟨⟨hb', e⟩, c3⟩
            · left
              have hl := lg d hdn' hb'
              have hpo := pop_or hb' 12
              rw [if_pos (by omega)] at hpo
              unfold Wt at i3 ⊢
              rw [hpo] at i3
              rw [c3]
              omega
          · left
            rw [c2]
            exact big _ (by omega)
      rcases strict with hs | ⟨hs, hcc⟩
      · refine ⟨fun _ => hs, fun q => ?_, Int.le_of_lt hs⟩
        exfalso
        by_cases e : fp cC o n k t = d
        · -- the first partner attains: not strict
          rcases fp_s (cC := cC) (o := o) (n := n) (k := k) (t := t) with ⟨a, b⟩ | ⟨a, b, c⟩
          · omega
          · rw [e] at b
            have hnx : nx cC o n k t = t ||| 2 ^ d := by unfold nx; rw [if_pos a, e]
            rw [hnx, e] at q
            have hi := i2 (by omega)
            have hb := b.1
            have hpo := pop_or hb 12
            rw [if_pos (by omega)] at hpo
            rw [hb, if_neg (by decide), hi] at hs
            have hc1 := h (o - k - 1) d (by omega) hdn'
            have he := b.2
            have hq : cC (o - k - 1) d ≠ 1000 := fun z => by
              rw [z] at he
              omega
            have hc2 : cR (o - k - 1) d = cC (o - k - 1) d := by
              rcases hc1 with ⟨-, -, c3⟩ | ⟨c1, -⟩
              · exact c3
              · exact absurd c1 hq
            unfold Wt at hs
            rw [hc2, hpo] at hs
            omega
        · exact (ord _ e).2 q
      · have hb := hs.1
        have he := hs.2
        have hpo := pop_or hb 12
        rw [if_pos (by omega)] at hpo
        rw [hb, if_neg (by decide), hcc]
        have hWd : Wt cC o n (k + 1) t = cC (o - k - 1) d - 30 + Wt cC o n k (t ||| 2 ^ d) := by
          unfold Wt
          rw [hpo]
          omega
        rcases fp_s (cC := cC) (o := o) (n := n) (k := k) (t := t) with ⟨a, b⟩ | ⟨a, b, c⟩
        · exact absurd hs (b d hdn')
        · by_cases e : fp cC o n k t = d
          · have hnx : nx cC o n k t = t ||| 2 ^ d := by unfold nx; rw [if_pos a, e]
            rw [hnx, e, hWd]
            refine ⟨fun q => ?_, fun q => ?_, by omega⟩
            · have := i1 (by omega); omega
            · have := i2 (by omega); omega
          · have o1 := ord _ e
            have hle : fp cC o n k t < d := by
              rcases Nat.lt_or_ge (fp cC o n k t) d with z | z
              · exact z
              · exact absurd hs (c d (by omega))
            exact ⟨fun q => by have := o1.1.mp q; omega, fun q => absurd q o1.2, by omega⟩
end ML
end MA
