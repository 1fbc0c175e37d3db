/-! pieces of the reference; line, whole -/
section PR2
variable {S : MS} {I : Nat → Nat → Int32} {J : Nat → Nat → Int64} {np nw ep ew : Nat} {ps ws : Nat → Nat} {V : Nat → Int32} {v : Int32}
def tgt (V : Nat → Int32) (v : Int32) (b : Bool) (p : Nat) : Bool := decide (v ≤ V p) != b
def b01 (b : Bool) : Int32 := if b = true then 1 else 0
/-- what is left, when some are seen -/
def lft (V : Nat → Int32) (v : Int32) (b : Bool) (sn : Nat → Bool) (p : Nat) : Bool := !sn p && tgt V v b p
theorem R_mayGo {b : Bool} {sn : Nat → Bool} (hV : ∀ k, k < 144 → I 17 k = V k) (hs : ∀ p, p < 144 → I 20 p = b01 (sn p)) {p : Nat} (hp : p < 144) : fX10_mayGo (mkR I J) 1 (nI p) (b01 b) v = some (b01 (lft V v b sn p)) := by
  unfold fX10_mayGo bX10_mayGo_0 bX10_mayGo_23 bX10_mayGo_24 lft tgt
  simp only [rP27, rL20 rfl hp, hs p hp, rIs, R_isBelow hV hp, Option.bind_some]
  cases hsn : sn p with
  | true => simp [b01, zb0]
  | false =>
    by_cases h : v ≤ V p
    · cases b <;> simp [b01, h, zb0, zb1]
    · cases b <;> simp [b01, h, zb0, zb1]
/-- the reference has seen C of U, from s on: n places wait; of cur not all sides are looked at -/
def DQ (I0 I : Nat → Nat → Int32) (U sn : Nat → Bool) (s n : Nat) (C : Nat → Bool) : Prop := FrR I0 I [19, 20] [] ∧ (∀ p, p < 144 → I 20 p = b01 (sn p || C p)) ∧ (∀ p, C p = true → U p = true ∧ p < 144) ∧ (∀ m, m < n → ∃ p, I 19 m = nI p ∧ C p = true) ∧ n + cnt (fun p => U p && !C p) 144 ≤ 144 ∧ C s = true ∧ ∀ D, cls U s D → ∀ p, C p = true → D p = true
/-- the neighbour on a side, if there is one -/
def sdn (p k : Nat) : Option Nat := if k = 0 then (if p % 12 < 11 then some (p + 1) else none) else if k = 1 then (if 0 < p % 12 then some (p - 1) else none) else if k = 2 then (if p < 132 then some (p + 12) else none) else if 11 < p then some (p - 12) else none
theorem sdn_nbp {p k q : Nat} (h : sdn p k = some q) : nbp p q := by
  unfold sdn at h
  unfold nbp
  split at h
  · split at h
    · cases h; exact .inl ⟨rfl, by omega⟩
    · cases h
  · split at h
    · split at h
      · cases h; exact .inr (.inl ⟨by omega, by omega⟩)
      · cases h
    · split at h
      · split at h
        · cases h; exact .inr (.inr (.inl ⟨rfl, by omega⟩))
        · cases h
      · split at h
        · cases h; exact .inr (.inr (.inr ⟨by omega, by omega⟩))
        · cases h
theorem nbp_sdn {p q : Nat} (h : nbp p q) : ∃ k, k < 4 ∧ sdn p k = some q := by
  rcases h with ⟨e, z⟩ | ⟨e, z⟩ | ⟨e, z⟩ | ⟨e, z⟩
  · exact ⟨0, by omega, by simp [sdn, z, e]⟩
  · exact ⟨1, by omega, by simp only [sdn, z, if_true]; simp; omega⟩
  · exact ⟨2, by omega, by simp [sdn, z, e]⟩
  · exact ⟨3, by omega, by simp only [sdn, z, if_true]; simp; omega⟩
theorem R_sideHead {b : Bool} {n p k : Nat} (hp : p < 144) (hk : k < 4) : ∃ w : Int32, sX10_fill (.inr (1, b01 b, v, nI n, nI p, nI k, mkR I J)) = bX10_fill_158 (mkR I J) 1 (b01 b) v (nI n) (nI p) (nI k) (b01 (sdn p k).isSome) (nI p) w ∧ ∀ q, sdn p k = some q → nI p + w = nI q := by
  have e1 : nI p - nI p / (12 : Int32) * (12 : Int32) = nI (p % 12) := nI_rem (b := 12) (by omega) (by omega) (by omega)
  have c0 : ((11 : Int32) ≤ nI (p % 12)) = ¬ p % 12 < 11 := propext ((nI_leI (a := 11) (by omega) (by omega)).trans (by omega))
  have c1 : (nI (p % 12) ≤ 0) = ¬ 0 < p % 12 := propext ((nI_leI (b := 0) (by omega) (by omega)).trans (by omega))
  have c2 : ((132 : Int32) ≤ nI p) = ¬ p < 132 := propext ((nI_leI (a := 132) (by omega) (by omega)).trans (by omega))
  have c3 : (nI p ≤ (11 : Int32)) = ¬ 11 < p := propext ((nI_leI (b := 11) (by omega) (by omega)).trans (by omega))
  have s0 : ((nI 0) = (0 : Int32)) = True := eq_true rfl
  have s1 : ((nI 1) = (0 : Int32)) = False := by decide
  have s2 : ((nI 2) = (0 : Int32)) = False := by decide
  have s3 : ((nI 3) = (0 : Int32)) = False := by decide
  have t1 : ((nI 1) = (1 : Int32)) = True := eq_true rfl
  have t2 : ((nI 2) = (1 : Int32)) = False := by decide
  have t3 : ((nI 3) = (1 : Int32)) = False := by decide
  have u2 : ((nI 2) = (2 : Int32)) = True := eq_true rfl
  have u3 : ((nI 3) = (2 : Int32)) = False := by decide
  match k, hk with
  | 0, _ =>
    refine ⟨1, ?_, fun q hq => ?_⟩
    · show bX10_fill_37 (mkR I J) 1 (b01 b) v (nI n) (nI p) (nI 0) = _
      unfold bX10_fill_37 bX10_fill_122 sdn
      simp only [if_neg (show ¬ (4 : Int32) ≤ nI 0 by decide), s0, if_true, e1, c0]
      by_cases h : p % 12 < 11
      · simp [h, b01]
      · simp [h, b01]
    · unfold sdn at hq
      simp only [if_true] at hq
      split at hq
      · cases hq; exact nI_1 p
      · cases hq
  | 1, _ =>
    refine ⟨-1, ?_, fun q hq => ?_⟩
    · show bX10_fill_37 (mkR I J) 1 (b01 b) v (nI n) (nI p) (nI 1) = _
      unfold bX10_fill_37 bX10_fill_122 sdn
      simp only [if_neg (show ¬ (4 : Int32) ≤ nI 1 by decide), s1, t1, if_true, if_false, e1, c1, show ¬ (1 : Nat) = 0 by decide]
      by_cases h : 0 < p % 12
      · simp [h, b01]
      · simp [h, b01]
    · unfold sdn at hq
      simp only [if_true, if_false, show ¬ (1 : Nat) = 0 by decide] at hq
      split at hq
      · cases hq
        obtain ⟨m, rfl⟩ : ∃ m, p = m + 1 := ⟨p - 1, by omega⟩
        exact nI_dec m
      · cases hq
  | 2, _ =>
    refine ⟨12, ?_, fun q hq => ?_⟩
    · show bX10_fill_37 (mkR I J) 1 (b01 b) v (nI n) (nI p) (nI 2) = _
      unfold bX10_fill_37 bX10_fill_122 sdn
      simp only [if_neg (show ¬ (4 : Int32) ≤ nI 2 by decide), s2, t2, u2, if_true, if_false, c2, show ¬ (2 : Nat) = 0 by decide, show ¬ (2 : Nat) = 1 by decide]
      by_cases h : p < 132
      · simp [h, b01]
      · simp [h, b01]
    · unfold sdn at hq
      simp only [if_true, if_false, show ¬ (2 : Nat) = 0 by decide, show ¬ (2 : Nat) = 1 by decide] at hq
      split at hq
      · cases hq; exact nI_add p 12
      · cases hq
  | 3, _ =>
    refine ⟨-12, ?_, fun q hq => ?_⟩
    · show bX10_fill_37 (mkR I J) 1 (b01 b) v (nI n) (nI p) (nI 3) = _
      unfold bX10_fill_37 bX10_fill_122 sdn
      simp only [if_neg (show ¬ (4 : Int32) ≤ nI 3 by decide), s3, t3, u3, if_false, c3, show ¬ (3 : Nat) = 0 by decide, show ¬ (3 : Nat) = 1 by decide, show ¬ (3 : Nat) = 2 by decide]
      by_cases h : 11 < p
      · simp [h, b01]
      · simp [h, b01]
    · unfold sdn at hq
      simp only [if_false, show ¬ (3 : Nat) = 0 by decide, show ¬ (3 : Nat) = 1 by decide, show ¬ (3 : Nat) = 2 by decide] at hq
      split at hq
      · cases hq
        obtain ⟨m, rfl⟩ : ∃ m, p = m + 12 := ⟨p - 12, by omega⟩
        rw [← nI_add, Int32.add_assoc, show nI 12 + (-12 : Int32) = 0 by decide, Int32.add_zero]
        congr 1
      · cases hq
/-- one side of a place -/
theorem R_side {b : Bool} {I0 : Nat → Nat → Int32} {sn C : Nat → Bool} {s n p k : Nat} (hV : ∀ k, k < 144 → I 17 k = V k) (h : DQ I0 I (lft V v b sn) sn s n C) (hp : C p = true) (hk : k < 4) : ∃ n' I' C', sX10_fill (.inr (1, b01 b, v, nI n, nI p, nI k, mkR I J)) = some (.inl (.inr (1, b01 b, v, nI n', nI p, nI (k + 1), mkR I' J))) ∧ DQ I0 I' (lft V v b sn) sn s n' C' ∧ I' 17 = I 17 ∧ (∀ x, C x = true → C' x = true) ∧ (∀ x, C' x = true → C x = true ∨ ∃ m, m < n' ∧ I' 19 m = nI x) ∧ (∀ q, sdn p k = some q → lft V v b sn q = true → C' q = true) ∧ (∀ m, m < n → I' 19 m = I 19 m) ∧ n' + 2 * cnt (fun p => lft V v b sn p && !C' p) 144 ≤ n + 2 * cnt (fun p => lft V v b sn p && !C p) 144 ∧ n ≤ n' := by
  have hh := h
  obtain ⟨f, k20, kc, kr, kn, kcs, km⟩ := h
  have hpb := (kc p hp).2
  have B197 : ∀ (K : Nat → Nat → Int32) (x : Int32), bX10_fill_197 (mkR K J) 1 (b01 b) v x (nI p) (nI k) = some (.inl (.inr (1, b01 b, v, x, nI p, nI (k + 1), mkR K J))) := fun K x => by
    unfold bX10_fill_197
    rw [nI_1, Option.bind_some]
  obtain ⟨w, hw1, hw2⟩ := R_sideHead (I := I) (J := J) (v := v) (b := b) (n := n) hpb hk
  rw [hw1]
  unfold bX10_fill_158
  cases hsd : sdn p k with
  | none =>
    simp only [Option.isSome_none, b01, Bool.false_eq_true, if_false, if_true, Option.bind_some]
    rw [show (if b = true then (1 : Int32) else 0) = b01 b from rfl, B197]
    exact ⟨n, I, C, rfl, hh, rfl, fun _ x => x, fun _ x => .inl x, (fun q hq => by cases hq), fun _ _ => rfl, Nat.le_refl _, Nat.le_refl _⟩
  | some q =>
    have hnb := sdn_nbp hsd
    have hqb := nbp_lt hnb hpb
    have hmg := R_mayGo (J := J) (v := v) (b := b) (sn := fun p => sn p || C p) hV k20 hqb
    have hlf : lft V v b (fun p => sn p || C p) q = (lft V v b sn q && !C q) := by
      show (!(sn q || C q) && tgt V v b q) = ((!sn q && tgt V v b q) && !C q)
      generalize sn q = u1
      generalize C q = u2
      generalize tgt V v b q = u3
      cases u1 <;> cases u2 <;> cases u3 <;> rfl
    rw [hlf] at hmg
    rw [hw2 q hsd]
    simp only [Option.isSome_some, Option.bind_some, show (b01 true = 0) = False by decide, if_false, rIs, hmg]
    by_cases hu : (lft V v b sn q && !C q) = true
    · have hpos := cnt_pos (f := fun p => lft V v b sn p && !C p) hqb hu
      have hadd : cnt (fun p => lft V v b sn p && !(fun x => C x || decide (x = q)) p) 144 + 1 = cnt (fun p => lft V v b sn p && !C p) 144 := cnt_add (U := lft V v b sn) (C := C) hqb hu
      have hUq : lft V v b sn q = true := by
        cases hc : lft V v b sn q with
        | true => rfl
        | false => rw [hc] at hu; simp at hu
      have hn : n < 144 := by omega
      simp only [hu, show (b01 true = 0) = False by decide, if_false, rP27, rP26, rS20 rfl hqb, Option.bind_some, rS19 rfl hn, nI_1, B197]
      refine ⟨n + 1, _, fun x => C x || decide (x = q), rfl, ⟨f.tr ((FrR.up (by decide) (by simp)).tr (FrR.up (by decide) (by simp))), fun x hx => ?_, fun x hx => ?_, fun m hm => ?_, by omega, by simp [kcs], fun D hD x hx => ?_⟩, ?_, fun x hx => by simp [hx], fun x hx => ?_, (fun y hy _ => by cases hy; simp), fun m hm => ?_, by omega, by omega⟩
      · rw [up_n (by decide), up_s]
        by_cases hxq : x = q
        · subst hxq
          rw [upd_s]
          simp [b01]
        · rw [upd_n hxq, k20 x hx]
          simp [hxq]
      · simp only [Bool.or_eq_true, decide_eq_true_eq] at hx
        rcases hx with hx | hx
        · exact kc x hx
        · rw [hx]; exact ⟨hUq, hqb⟩
      · rw [up_s]
        by_cases hmn : m = n
        · subst hmn
          exact ⟨q, by rw [upd_s], by simp⟩
        · obtain ⟨x, a1, a2⟩ := kr m (by omega)
          refine ⟨x, ?_, by simp [a2]⟩
          rw [upd_n hmn, up_n (by decide)]
          exact a1
      · simp only [Bool.or_eq_true, decide_eq_true_eq] at hx
        rcases hx with hx | hx
        · exact km D hD x hx
        · rw [hx]; exact hD.2 p q (km D hD p hp) hnb hUq
      · rw [up_n (by decide), up_n (by decide)]
      · simp only [Bool.or_eq_true, decide_eq_true_eq] at hx
        rcases hx with hx | hx
        · exact .inl hx
        · refine .inr ⟨n, by omega, ?_⟩
          rw [up_s, upd_s, hx]
      · rw [up_s, upd_n (by omega), up_n (by decide)]
    · have hu' : (lft V v b sn q && !C q) = false := by simpa using hu
      simp only [hu', show (b01 false = 0) = True from eq_true rfl, if_true, B197]
      refine ⟨n, I, C, rfl, hh, rfl, fun _ x => x, fun _ x => .inl x, (fun y hy hl => ?_), fun _ _ => rfl, Nat.le_refl _, Nat.le_refl _⟩
      cases hy
      rw [hl] at hu'
      simpa using hu'
/-- all sides of a place -/
theorem R_sides {b : Bool} {I0 : Nat → Nat → Int32} {sn C : Nat → Bool} {s n p : Nat} (hV : ∀ k, k < 144 → I 17 k = V k) (h : DQ I0 I (lft V v b sn) sn s n C) (hp : C p = true) : ∃ n' I' C', lim sX10_fill (.inr (1, b01 b, v, nI n, nI p, nI 0, mkR I J)) = lim sX10_fill (.inl (1, b01 b, v, nI n', mkR I' J)) ∧ DQ I0 I' (lft V v b sn) sn s n' C' ∧ I' 17 = I 17 ∧ (∀ x, C x = true → C' x = true) ∧ (∀ x, C' x = true → C x = true ∨ ∃ m, m < n' ∧ I' 19 m = nI x) ∧ dnb (lft V v b sn) p C' ∧ (∀ m, m < n → I' 19 m = I 19 m) ∧ n' + 2 * cnt (fun p => lft V v b sn p && !C' p) 144 ≤ n + 2 * cnt (fun p => lft V v b sn p && !C p) 144 ∧ n ≤ n' := by
  have all : ∀ k, k ≤ 4 → ∃ n' I' C', lim sX10_fill (.inr (1, b01 b, v, nI n, nI p, nI 0, mkR I J)) = lim sX10_fill (.inr (1, b01 b, v, nI n', nI p, nI k, mkR I' J)) ∧ DQ I0 I' (lft V v b sn) sn s n' C' ∧ I' 17 = I 17 ∧ (∀ x, C x = true → C' x = true) ∧ (∀ x, C' x = true → C x = true ∨ ∃ m, m < n' ∧ I' 19 m = nI x) ∧ (∀ j, j < k → ∀ q, sdn p j = some q → lft V v b sn q = true → C' q = true) ∧ (∀ m, m < n → I' 19 m = I 19 m) ∧ n' + 2 * cnt (fun p => lft V v b sn p && !C' p) 144 ≤ n + 2 * cnt (fun p => lft V v b sn p && !C p) 144 ∧ n ≤ n' := by
    intro k
    induction k with
    | zero => intro _; exact ⟨n, I, C, rfl, h, rfl, fun _ x => x, fun _ x => .inl x, fun j hj => by omega, fun _ _ => rfl, Nat.le_refl _, Nat.le_refl _⟩
    | succ k ih =>
      intro hk
      obtain ⟨n1, I1, C1, a1, a2, a3, a4, a5, a6, a7, a8, a9⟩ := ih (by omega)
      obtain ⟨n2, I2, C2, b1, b2, b3, b4, b5, b6, b7, b8, b9⟩ := R_side (J := J) (fun j hj => by rw [a3]; exact hV j hj) a2 (a4 p hp) (show k < 4 by omega)
      refine ⟨n2, I2, C2, ?_, b2, b3.trans a3, fun x hx => b4 x (a4 x hx), fun x hx => ?_, fun j hj q hq hl => ?_, fun m hm => (b7 m (by omega)).trans (a7 m hm), by omega, by omega⟩
      · rw [a1, lim_eq, b1, fin_l]
      · rcases b5 x hx with hx | hx
        · rcases a5 x hx with hx | ⟨m, hm, e⟩
          · exact .inl hx
          · exact .inr ⟨m, by omega, by rw [b7 m hm]; exact e⟩
        · exact .inr hx
      · by_cases hjk : j = k
        · rw [hjk] at hq; exact b6 q hq hl
        · exact b4 q (a6 j (by omega) q hq hl)
  obtain ⟨n', I', C', a1, a2, a3, a4, a5, a6, a7, a8, a9⟩ := all 4 (Nat.le_refl _)
  refine ⟨n', I', C', ?_, a2, a3, a4, a5, fun q hq hl => ?_, a7, a8, a9⟩
  · rw [a1, lim_eq]
    show fin sX10_fill (bX10_fill_37 (mkR I' J) 1 (b01 b) v (nI n') (nI p) (nI 4)) = _
    unfold bX10_fill_37
    rw [if_pos (by decide), fin_l]
  · obtain ⟨k, hk, e⟩ := nbp_sdn hq
    exact a6 k hk q e hl
theorem R_fill {b : Bool} {sn : Nat → Bool} {s : Nat} (hV : ∀ k, k < 144 → I 17 k = V k) (hsn : ∀ p, p < 144 → I 20 p = b01 (sn p)) (hs : s < 144) (hUs : lft V v b sn s = true) : ∃ I' C, fX10_fill (mkR I J) 1 (nI s) (b01 b) v = some (mkR I' J) ∧ FrR I I' [19, 20] [] ∧ (∀ p, p < 144 → I' 20 p = b01 (sn p || C p)) ∧ Cmp (lft V v b sn) s C := by
  have all : ∀ (d n : Nat) (I1 : Nat → Nat → Int32) (C : Nat → Bool), n + 2 * cnt (fun p => lft V v b sn p && !C p) 144 ≤ d → DQ I I1 (lft V v b sn) sn s n C → I1 17 = I 17 → (∀ x, C x = true → dnb (lft V v b sn) x C ∨ ∃ m, m < n ∧ I1 19 m = nI x) → ∃ I' C', lim sX10_fill (.inl (1, b01 b, v, nI n, mkR I1 J)) = some (mkR I' J) ∧ FrR I I' [19, 20] [] ∧ (∀ p, p < 144 → I' 20 p = b01 (sn p || C' p)) ∧ Cmp (lft V v b sn) s C' := by
    intro d
    induction d with
    | zero =>
      intro n I1 C hd hB h17 hdn
      have hn : n = 0 := by omega
      subst hn
      refine ⟨I1, C, lim_end ?_, hB.1, hB.2.1, fun p hp => (hB.2.2.1 p hp).1, ⟨hB.2.2.2.2.2.1, fun q p hq hqp hup => ?_⟩, hB.2.2.2.2.2.2⟩
      · show bX10_fill_17 (mkR I1 J) 1 (b01 b) v (nI 0) = _
        unfold bX10_fill_17
        rw [if_pos (by decide)]
      · rcases hdn q hq with h | ⟨m, hm, -⟩
        · exact h p hqp hup
        · omega
    | succ d ih =>
      intro n I1 C hd hB h17 hdn
      by_cases hn : n = 0
      · subst hn
        refine ⟨I1, C, lim_end ?_, hB.1, hB.2.1, fun p hp => (hB.2.2.1 p hp).1, ⟨hB.2.2.2.2.2.1, fun q p hq hqp hup => ?_⟩, hB.2.2.2.2.2.2⟩
        · show bX10_fill_17 (mkR I1 J) 1 (b01 b) v (nI 0) = _
          unfold bX10_fill_17
          rw [if_pos (by decide)]
        · rcases hdn q hq with h | ⟨m, hm, -⟩
          · exact h p hqp hup
          · omega
      · obtain ⟨n, rfl⟩ : ∃ m, n = m + 1 := ⟨n - 1, by omega⟩
        have hn144 := hB.2.2.2.2.1
        obtain ⟨p, hp1, hp2⟩ := hB.2.2.2.1 n (by omega)
        have hpb := (hB.2.2.1 p hp2).2
        have hB' : DQ I I1 (lft V v b sn) sn s n C := ⟨hB.1, hB.2.1, hB.2.2.1, fun m hm => hB.2.2.2.1 m (by omega), by omega, hB.2.2.2.2.2.1, hB.2.2.2.2.2.2⟩
        obtain ⟨n', I2, C2, b1, b2, b3, b4, b5, b6, b7, b8, b9⟩ := R_sides (J := J) (fun j hj => by rw [h17]; exact hV j hj) hB' hp2
        rw [lim_eq]
        show ∃ I' C', fin sX10_fill (bX10_fill_17 (mkR I1 J) 1 (b01 b) v (nI (n + 1))) = _ ∧ _
        unfold bX10_fill_17
        rw [if_neg (by rw [nI_le0 (by omega)]; omega), nI_dec, Option.bind_some, rP26, Option.bind_some, rL19 rfl (by omega), hp1, Option.bind_some, fin_l, show lim sX10_fill (.inr (1, b01 b, v, nI n, nI p, 0, mkR I1 J)) = _ from b1]
        refine ih n' I2 C2 (by omega) b2 (b3.trans h17) (fun x hx => ?_)
        rcases b5 x hx with hcx | hcx
        · rcases hdn x hcx with h | ⟨m, hm, e⟩
          · exact .inl (fun q hq hl => b4 q (h q hq hl))
          · by_cases hmn : m = n
            · subst hmn
              have hxb := (hB.2.2.1 x hcx).2
              have : p = x := (nI_eq (by omega) (by omega)).mp (hp1.symm.trans e)
              rw [← this]
              exact .inl b6
            · exact .inr ⟨m, by omega, by rw [b7 m (by omega)]; exact e⟩
        · exact .inr hcx
  unfold fX10_fill bX10_fill_0
  simp only [rP26, rP27, rS19 (show (0 : Int32) = nI 0 from rfl) (show 0 < 144 by omega), Option.bind_some, rS20 rfl hs, fin_l, up_n (show (20 : Nat) ≠ 19 by decide)]
  have hadd : cnt (fun p => lft V v b sn p && !(fun x => false || decide (x = s)) p) 144 + 1 = cnt (fun x => lft V v b sn x && !false) 144 := cnt_add (U := lft V v b sn) (C := fun _ => false) hs (by simpa using hUs)
  have hcl := cnt_le (fun p => lft V v b sn p && !false) 144
  refine all _ 1 _ (fun x => false || decide (x = s)) (Nat.le_refl _) ⟨(FrR.up (by decide) (by simp)).tr (FrR.up (by decide) (by simp)), fun p hp => ?_, fun p hp => ?_, fun m hm => ?_, by omega, by simp, fun D hD p hp => ?_⟩ ?_ (fun x hx => ?_)
  · rw [up_s]
    by_cases hps : p = s
    · subst hps
      rw [upd_s]
      simp [b01]
    · rw [upd_n hps, hsn p hp]
      simp [hps]
  · simp only [Bool.false_or, decide_eq_true_eq] at hp
    rw [hp]
    exact ⟨hUs, hs⟩
  · refine ⟨s, ?_, by simp⟩
    rw [up_n (by decide), up_s, show m = 0 by omega, upd_s]
  · simp only [Bool.false_or, decide_eq_true_eq] at hp
    rw [hp]
    exact hD.1
  · rw [up_n (by decide), up_n (by decide)]
  · simp only [Bool.false_or, decide_eq_true_eq] at hx
    refine .inr ⟨0, by omega, ?_⟩
    rw [up_n (by decide), up_s, upd_s, hx]
end PR2
