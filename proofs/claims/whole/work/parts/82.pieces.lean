/-! pieces: both sides take a whole piece away at once -/
def nbp (p q : Nat) : Prop := (q = p + 1 ∧ p % 12 < 11) ∨ (p = q + 1 ∧ 0 < p % 12) ∨ (q = p + 12 ∧ p < 132) ∨ (p = q + 12 ∧ 11 < p)
theorem nbp_lt {p q : Nat} (h : nbp p q) (hp : p < 144) : q < 144 := by
  unfold nbp at h
  omega
/-- closed in U, from s on -/
def cls (U : Nat → Bool) (s : Nat) (D : Nat → Bool) : Prop := D s = true ∧ ∀ q p, D q = true → nbp q p → U p = true → D p = true
def Cmp (U : Nat → Bool) (s : Nat) (C : Nat → Bool) : Prop := (∀ p, C p = true → U p = true) ∧ cls U s C ∧ ∀ D, cls U s D → ∀ p, C p = true → D p = true
theorem Cmp.u {U C C' : Nat → Bool} {s : Nat} (h : Cmp U s C) (h' : Cmp U s C') (p : Nat) : C p = C' p := by
  have a := h.2.2 C' h'.2.1 p
  have b := h'.2.2 C h.2.1 p
  cases hc : C p with
  | true => rw [a hc]
  | false =>
    cases hc' : C' p with
    | false => rfl
    | true => rw [b hc'] at hc; cases hc
theorem cnt_del {f : Nat → Bool} {p n : Nat} (hp : p < n) (hf : f p = true) : cnt (fun x => f x && !decide (x = p)) n + 1 = cnt f n := by
  induction n with
  | zero => omega
  | succ n ih =>
    show cnt (fun x => f x && !decide (x = p)) n + (if (f n && !decide (n = p)) = true then 1 else 0) + 1 = cnt f n + (if f n = true then 1 else 0)
    by_cases h : p = n
    · subst h
      have : cnt (fun x => f x && !decide (x = p)) p = cnt f p := cnt_c (fun k hk => by
        have : ¬ k = p := by omega
        simp [this])
      rw [this, hf]
      simp
    · have := ih (by omega)
      have hn : ¬ n = p := fun e => h e.symm
      simp only [hn, decide_false, Bool.not_false, Bool.and_true]
      omega
theorem cnt_pos {f : Nat → Bool} {p n : Nat} (hp : p < n) (hf : f p = true) : 0 < cnt f n := by
  have := cnt_del hp hf
  omega
theorem cnt_add {U C : Nat → Bool} {p n : Nat} (hp : p < n) (h : (U p && !C p) = true) : cnt (fun x => U x && !(C x || decide (x = p))) n + 1 = cnt (fun x => U x && !C x) n := by
  rw [← cnt_del (f := fun x => U x && !C x) hp h]
  congr 1
  apply cnt_c
  intro k _
  cases U k <;> cases C k <;> simp
section PI
variable {S : MS} {I : Nat → Nat → Int32} {J : Nat → Nat → Int64}
/-- the class has reached C of U, from s on: n places in its row -/
def BQ (S0 S : MS) (U : Nat → Bool) (s n : Nat) (C : Nat → Bool) : Prop := FrC S0 S [12, 13] [] [] ∧ (∀ p, p < 144 → m_I S 12 p = if (U p && !C p) = true then 0 else 1) ∧ (∀ p, C p = true → U p = true ∧ p < 144 ∧ ∃ m, m < n ∧ m_I S 13 m = nI p) ∧ (∀ m, m < n → ∃ p, m_I S 13 m = nI p ∧ C p = true) ∧ n + cnt (fun p => U p && !C p) 144 = cnt U 144 ∧ ∀ D, cls U s D → ∀ p, C p = true → D p = true
def EX1 (S S' : MS) (n n' : Nat) (C C' : Nat → Bool) : Prop := n ≤ n' ∧ (∀ x, C x = true → C' x = true) ∧ ∀ m, m < n → m_I S' 13 m = m_I S 13 m
theorem EX1.rf {S : MS} {n : Nat} {C : Nat → Bool} : EX1 S S n n C C := ⟨Nat.le_refl _, fun _ h => h, fun _ _ => rfl⟩
theorem EX1.tr {S S' S'' : MS} {n n' n'' : Nat} {C C' C'' : Nat → Bool} (h : EX1 S S' n n' C C') (h' : EX1 S' S'' n' n'' C' C'') : EX1 S S'' n n'' C C'' := ⟨Nat.le_trans h.1 h'.1, fun x q => h'.2.1 x (h.2.1 x q), fun m hm => (h'.2.2 m (Nat.lt_of_lt_of_le hm h.1)).trans (h.2.2 m hm)⟩
theorem C_reach {S0 : MS} {U C : Nat → Bool} {s n p : Nat} (hC0 : CS S0) (h : BQ S0 S U s n C) (hp : p < 144) (hD : ∀ D, cls U s D → U p = true → D p = true) : ∃ n' S' C', fX0_reach S 8 (nI p) (nI n) = some (nI n', S') ∧ BQ S0 S' U s n' C' ∧ EX1 S S' n n' C C' ∧ (U p = true → C' p = true) := by
  obtain ⟨f, k12, kc, kr, kn, km⟩ := h
  have hC : CS S := hC0.fr f (by simp) (by simp)
  have hcU := cnt_le U 144
  unfold fX0_reach bX0_reach_0 bX0_reach_16
  simp only [cP8_8 hC, cL12 hC rfl hp, k12 p hp, Option.bind_some]
  by_cases hu : (U p && !C p) = true
  · have hpos := cnt_pos (f := fun p => U p && !C p) hp hu
    have hn : n < 144 := by omega
    simp only [hu, if_true, if_pos (show nI n < 144 from nI_lt (b := 144) hn (by omega)), cS12 hC rfl hp, Option.bind_some]
    have hC1 : CS (m_sI S 12 (upd (m_I S 12) p 1)) := hC
    simp only [cP8_9 hC1, cS13 hC1 rfl hn, Option.bind_some, nI_1, mI_ne (show (13 : Nat) ≠ 12 by decide)]
    have hCp : C p = false := by
      cases hc : C p with
      | false => rfl
      | true => rw [hc] at hu; simp at hu
    have hUp : U p = true := by
      cases hc : U p with
      | true => rfl
      | false => rw [hc] at hu; simp at hu
    refine ⟨n + 1, _, fun x => C x || decide (x = p), rfl, ⟨f.tr ((FrC.sI (by decide) (by simp)).tr (FrC.sI (by decide) (by simp))), fun x hx => ?_, fun x hx => ?_, fun m hm => ?_, ?_, fun D hDc x hx => ?_⟩, ⟨by omega, fun x hx => ?_, fun m hm => ?_⟩, fun _ => ?_⟩
    · rw [mI_ne (by decide), mI_same]
      by_cases hxp : x = p
      · subst hxp
        rw [upd_s]
        simp
      · rw [upd_n hxp, k12 x hx]
        simp [hxp]
    · rw [mI_same]
      simp only [Bool.or_eq_true, decide_eq_true_eq] at hx
      by_cases hxp : x = p
      · subst hxp
        exact ⟨hUp, hp, n, by omega, by rw [upd_s]⟩
      · obtain ⟨a1, a2, m, a3, a4⟩ := kc x (hx.resolve_right hxp)
        exact ⟨a1, a2, m, by omega, by rw [upd_n (by omega)]; exact a4⟩
    · rw [mI_same]
      by_cases hmn : m = n
      · subst hmn
        exact ⟨p, by rw [upd_s], by simp⟩
      · obtain ⟨x, a1, a2⟩ := kr m (by omega)
        exact ⟨x, by rw [upd_n hmn]; exact a1, by simp [a2]⟩
    · have := cnt_add (U := U) (C := C) hp hu
      show n + 1 + cnt (fun x => U x && !(C x || decide (x = p))) 144 = _
      omega
    · simp only [Bool.or_eq_true, decide_eq_true_eq] at hx
      rcases hx with hx | hx
      · exact km D hDc x hx
      · rw [hx]; exact hD D hDc hUp
    · simp [hx]
    · rw [mI_same, upd_n (by omega)]
    · simp
  · simp only [hu, if_false, e10]
    refine ⟨n, S, C, rfl, ⟨f, k12, kc, kr, kn, km⟩, EX1.rf, fun hU => ?_⟩
    rw [hU] at hu
    simpa using hu
/-- what is due for a place of the row -/
def dnb (U : Nat → Bool) (p : Nat) (C : Nat → Bool) : Prop := ∀ q, nbp p q → U q = true → C q = true
theorem C_reachStep {S0 : MS} {U C : Nat → Bool} {s n i p : Nat} (hC0 : CS S0) (h : BQ S0 S U s n C) (hi : i < n) (hip : m_I S 13 i = nI p) (hCp : C p = true) : ∃ n' S' C', sX0_reachPiece (8, nI n, nI i, S) = some (.inl (8, nI n', nI (i + 1), S')) ∧ BQ S0 S' U s n' C' ∧ EX1 S S' n n' C C' ∧ dnb U p C' := by
  have hcU := cnt_le U 144
  have hn : n ≤ 144 := by have := h.2.2.2.2.1; omega
  have hp : p < 144 := (h.2.2.1 p hCp).2.1
  have hC : CS S := hC0.fr h.1 (by simp) (by simp)
  have e1 : nI p - nI p / (12 : Int32) * (12 : Int32) = nI (p % 12) := nI_rem (b := 12) (by omega) (by omega) (by omega)
  have e2 : nI p / (12 : Int32) = nI (p / 12) := nI_div (b := 12) (by omega) (by omega) (by omega)
  rw [e2] at e1
  have hD : ∀ {S1 : MS} {n1 : Nat} {C1 : Nat → Bool} {q : Nat}, BQ S0 S1 U s n1 C1 → C1 p = true → nbp p q → ∀ D, cls U s D → U q = true → D q = true := fun hB hc hq D hDc hu => hDc.2 p _ (hB.2.2.2.2.2 D hDc p hc) hq hu
  have B109 : ∀ (S1 : MS) (x : Int32), bX0_reachPiece_109 S1 8 x (nI i) = some (.inl (8, x, nI (i + 1), S1)) := fun S1 x => by
    unfold bX0_reachPiece_109
    rw [nI_1, Option.bind_some]
  have c91 : ((11 : Int32) ≤ nI (p / 12)) = (132 ≤ p) := propext ((nI_leI (a := 11) (by omega) (by omega)).trans (by omega))
  have c75 : (nI (p / 12) ≤ 0) = (p < 12) := propext ((nI_leI (b := 0) (by omega) (by omega)).trans (by omega))
  have c58 : ((11 : Int32) ≤ nI (p % 12)) = (11 ≤ p % 12) := propext (nI_leI (a := 11) (by omega) (by omega))
  have c9 : (nI (p % 12) ≤ 0) = (p % 12 = 0) := nI_le0 (by omega)
  have B91 : ∀ (S1 : MS) (n1 : Nat) (C1 : Nat → Bool), BQ S0 S1 U s n1 C1 → C1 p = true → ∃ n' S' C', bX0_reachPiece_91 S1 8 (nI n1) (nI i) (nI p) (nI (p / 12)) = some (.inl (8, nI n', nI (i + 1), S')) ∧ BQ S0 S' U s n' C' ∧ EX1 S1 S' n1 n' C1 C' ∧ (p < 132 → U (p + 12) = true → C' (p + 12) = true) := by
    intro S1 n1 C1 hB hc
    have hC1 : CS S1 := hC0.fr hB.1 (by simp) (by simp)
    unfold bX0_reachPiece_91
    by_cases h1 : 132 ≤ p
    · rw [if_pos (by rw [c91]; exact h1), B109]
      exact ⟨n1, S1, C1, rfl, hB, EX1.rf, fun z => by omega⟩
    · obtain ⟨n', S', C', a1, a2, a3, a4⟩ := C_reach hC0 hB (p := p + 12) (by omega) (hD hB hc (.inr (.inr (.inl ⟨rfl, by omega⟩))))
      rw [if_neg (by rw [c91]; exact h1), cIs8 hC1, Option.bind_some, show nI p + (12 : Int32) = nI (p + 12) from nI_add p 12, a1, b2_s, B109]
      exact ⟨n', S', C', rfl, a2, a3, fun _ => a4⟩
  have B75 : ∀ (S1 : MS) (n1 : Nat) (C1 : Nat → Bool), BQ S0 S1 U s n1 C1 → C1 p = true → ∃ n' S' C', bX0_reachPiece_75 S1 8 (nI n1) (nI i) (nI p) (nI (p / 12)) = some (.inl (8, nI n', nI (i + 1), S')) ∧ BQ S0 S' U s n' C' ∧ EX1 S1 S' n1 n' C1 C' ∧ (p < 132 → U (p + 12) = true → C' (p + 12) = true) ∧ (11 < p → U (p - 12) = true → C' (p - 12) = true) := by
    intro S1 n1 C1 hB hc
    have hC1 : CS S1 := hC0.fr hB.1 (by simp) (by simp)
    unfold bX0_reachPiece_75
    by_cases h1 : p < 12
    · obtain ⟨n', S', C', a1, a2, a3, a4⟩ := B91 S1 n1 C1 hB hc
      rw [if_pos (by rw [c75]; exact h1), a1]
      exact ⟨n', S', C', rfl, a2, a3, a4, fun z => by omega⟩
    · obtain ⟨n2, S2, C2, b1, b2, b3, b4⟩ := C_reach hC0 hB (p := p - 12) (by omega) (hD hB hc (.inr (.inr (.inr ⟨by omega, by omega⟩))))
      obtain ⟨n', S', C', a1, a2, a3, a4⟩ := B91 S2 n2 C2 b2 (b3.2.1 p hc)
      have e12 : nI p - (12 : Int32) = nI (p - 12) := by
        have : nI p = nI (p - 12) + 12 := by rw [show (12 : Int32) = nI 12 from rfl, nI_add]; congr 1; omega
        rw [this, Int32.add_sub_cancel]
      rw [if_neg (by rw [c75]; exact h1), cIs8 hC1, Option.bind_some, e12, b1, b2_s, a1]
      exact ⟨n', S', C', rfl, a2, b3.tr a3, a4, fun _ z => a3.2.1 _ (b4 z)⟩
  have B58 : ∀ (S1 : MS) (n1 : Nat) (C1 : Nat → Bool), BQ S0 S1 U s n1 C1 → C1 p = true → ∃ n' S' C', bX0_reachPiece_58 S1 8 (nI n1) (nI i) (nI p) (nI (p % 12)) (nI (p / 12)) = some (.inl (8, nI n', nI (i + 1), S')) ∧ BQ S0 S' U s n' C' ∧ EX1 S1 S' n1 n' C1 C' ∧ (p < 132 → U (p + 12) = true → C' (p + 12) = true) ∧ (11 < p → U (p - 12) = true → C' (p - 12) = true) ∧ (p % 12 < 11 → U (p + 1) = true → C' (p + 1) = true) := by
    intro S1 n1 C1 hB hc
    have hC1 : CS S1 := hC0.fr hB.1 (by simp) (by simp)
    unfold bX0_reachPiece_58
    by_cases h1 : 11 ≤ p % 12
    · obtain ⟨n', S', C', a1, a2, a3, a4, a5⟩ := B75 S1 n1 C1 hB hc
      rw [if_pos (by rw [c58]; exact h1), a1]
      exact ⟨n', S', C', rfl, a2, a3, a4, a5, fun z => by omega⟩
    · obtain ⟨n2, S2, C2, b1, b2, b3, b4⟩ := C_reach hC0 hB (p := p + 1) (by omega) (hD hB hc (.inl ⟨rfl, by omega⟩))
      obtain ⟨n', S', C', a1, a2, a3, a4, a5⟩ := B75 S2 n2 C2 b2 (b3.2.1 p hc)
      rw [if_neg (by rw [c58]; exact h1), cIs8 hC1, Option.bind_some, nI_1, b1, b2_s, a1]
      exact ⟨n', S', C', rfl, a2, b3.tr a3, a4, a5, fun _ z => a3.2.1 _ (b4 z)⟩
  have hfin : ∀ C' : Nat → Bool, (p < 132 → U (p + 12) = true → C' (p + 12) = true) → (11 < p → U (p - 12) = true → C' (p - 12) = true) → (p % 12 < 11 → U (p + 1) = true → C' (p + 1) = true) → (0 < p % 12 → U (p - 1) = true → C' (p - 1) = true) → dnb U p C' := by
    intro C' a1 a2 a3 a4 q hq hu
    rcases hq with ⟨e, z⟩ | ⟨e, z⟩ | ⟨e, z⟩ | ⟨e, z⟩
    · rw [e] at hu ⊢; exact a3 z hu
    · have e' : q = p - 1 := by omega
      rw [e'] at hu ⊢; exact a4 z hu
    · rw [e] at hu ⊢; exact a1 z hu
    · have e' : q = p - 12 := by omega
      rw [e'] at hu ⊢; exact a2 z hu
  show ∃ n' S' C', bX0_reachPiece_9 S 8 (nI n) (nI i) = _ ∧ _
  unfold bX0_reachPiece_9
  rw [if_neg (nI_ge hi (by omega)), if_neg (show ¬ (144 : Int32) ≤ nI i from nI_ge (b := 144) (by omega) (by omega))]
  simp only [cP8_9 hC, cL13 hC rfl (show i < 144 by omega), hip, Option.bind_some, e1, e2]
  by_cases h1 : p % 12 = 0
  · obtain ⟨n', S', C', a1, a2, a3, a4, a5, a6⟩ := B58 S n C h hCp
    rw [if_pos (by rw [c9]; exact h1), a1]
    exact ⟨n', S', C', rfl, a2, a3, hfin C' a4 a5 a6 (fun z => by omega)⟩
  · obtain ⟨n2, S2, C2, b1, b2, b3, b4⟩ := C_reach hC0 h (p := p - 1) (by omega) (hD h hCp (.inr (.inl ⟨by omega, by omega⟩)))
    obtain ⟨n', S', C', a1, a2, a3, a4, a5, a6⟩ := B58 S2 n2 C2 b2 (b3.2.1 p hCp)
    have e11 : nI p - (1 : Int32) = nI (p - 1) := by
      obtain ⟨m, rfl⟩ : ∃ m, p = m + 1 := ⟨p - 1, by omega⟩
      rw [nI_pred]
      rfl
    rw [if_neg (by rw [c9]; exact h1), cIs8 hC, Option.bind_some, e11, b1, b2_s, a1]
    exact ⟨n', S', C', rfl, a2, b3.tr a3, hfin C' a4 a5 a6 (fun _ z => a3.2.1 _ (b4 z))⟩
theorem C_reachPiece {U : Nat → Bool} {s : Nat} (hC : CS S) (hU : ∀ p, p < 144 → m_I S 12 p = if U p = true then 0 else 1) (hs : s < 144) (hUs : U s = true) : ∃ S' C, fX0_reachPiece S 8 (nI s) = some S' ∧ FrC S S' [12, 13] [] [] ∧ (∀ p, p < 144 → m_I S' 12 p = if (U p && !C p) = true then 0 else 1) ∧ Cmp U s C := by
  have hcU := cnt_le U 144
  have B0 : BQ S S U s 0 (fun _ => false) := ⟨FrC.rf, (fun p hp => by simpa using hU p hp), (fun p hp => by cases hp), (fun m hm => by omega), (by simp), (fun D _ p hp => by cases hp)⟩
  obtain ⟨n1, S1, C1, a1, a2, a3, a4⟩ := C_reach hC B0 hs (fun D hD _ => hD.1)
  have all : ∀ (d i n : Nat) (S1 : MS) (C : Nat → Bool), i + d = 144 → i ≤ n → BQ S S1 U s n C → C s = true → (∀ m, m < i → ∀ p, m_I S1 13 m = nI p → C p = true → dnb U p C) → ∃ S' C', lim sX0_reachPiece (8, nI n, nI i, S1) = some S' ∧ FrC S S' [12, 13] [] [] ∧ (∀ p, p < 144 → m_I S' 12 p = if (U p && !C' p) = true then 0 else 1) ∧ Cmp U s C' := by
    intro d
    induction d with
    | zero =>
      intro i n S1 C hi hin hB hCs hdn
      have hn : n = 144 := by have := hB.2.2.2.2.1; omega
      refine ⟨S1, C, lim_end ?_, hB.1, hB.2.1, fun p hp => (hB.2.2.1 p hp).1, ⟨hCs, fun q p hq hqp hup => ?_⟩, hB.2.2.2.2.2⟩
      · show bX0_reachPiece_9 S1 8 (nI n) (nI i) = _
        unfold bX0_reachPiece_9 bX0_reachPiece_115 bX0_reachPiece_58 bX0_reachPiece_75 bX0_reachPiece_91 bX0_reachPiece_109
        rw [if_pos (nI_le (by omega) (by omega))]
      · obtain ⟨-, -, m, hm, hmq⟩ := hB.2.2.1 q hq
        exact hdn m (by omega) q hmq hq p hqp hup
    | succ d ih =>
      intro i n S1 C hi hin hB hCs hdn
      have hn : n ≤ 144 := by have := hB.2.2.2.2.1; omega
      by_cases h : i = n
      · refine ⟨S1, C, lim_end ?_, hB.1, hB.2.1, fun p hp => (hB.2.2.1 p hp).1, ⟨hCs, fun q p hq hqp hup => ?_⟩, hB.2.2.2.2.2⟩
        · show bX0_reachPiece_9 S1 8 (nI n) (nI i) = _
          unfold bX0_reachPiece_9 bX0_reachPiece_115 bX0_reachPiece_58 bX0_reachPiece_75 bX0_reachPiece_91 bX0_reachPiece_109
          rw [if_pos (nI_le (by omega) (by omega))]
        · obtain ⟨-, -, m, hm, hmq⟩ := hB.2.2.1 q hq
          exact hdn m (by omega) q hmq hq p hqp hup
      · obtain ⟨p, hp1, hp2⟩ := hB.2.2.2.1 i (by omega)
        obtain ⟨n', S', C', b1, b2, b3, b4⟩ := C_reachStep hC hB (show i < n by omega) hp1 hp2
        have hpb := (hB.2.2.1 p hp2).2.1
        rw [lim_eq, b1, fin_l]
        refine ih (i + 1) n' S' C' (by omega) (by have := b3.1; omega) b2 (b3.2.1 s hCs) (fun m hm x hx hcx => ?_)
        by_cases hmi : m = i
        · subst hmi
          rw [b3.2.2 m (by omega), hp1] at hx
          have hxb := (b2.2.2.1 x hcx).2.1
          have : p = x := (nI_eq (by omega) (by omega)).mp hx
          rw [← this]
          exact b4
        · rw [b3.2.2 m (by omega)] at hx
          obtain ⟨y, hy1, hy2⟩ := hB.2.2.2.1 m (by omega)
          have hyb := (hB.2.2.1 y hy2).2.1
          have hxb := (b2.2.2.1 x hcx).2.1
          have : y = x := (nI_eq (by omega) (by omega)).mp (hy1.symm.trans hx)
          subst this
          exact fun q hq hu => b3.2.1 q (hdn m (by omega) y hx hy2 q hq hu)
  unfold fX0_reachPiece bX0_reachPiece_0
  rw [cIs8 hC, Option.bind_some, show fX0_reach S 8 (nI s) 0 = _ from a1, b2_s, fin_l]
  exact all 144 0 n1 S1 C1 (by omega) (by omega) a2 (a4 hUs) (fun m hm => by omega)
end PI
