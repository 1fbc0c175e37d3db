/-! the class: its fixed cells, and what stays -/
def kC : Nat → Nat
  | 1 => 10
  | 2 => 2
  | 3 => 0
  | 4 => 0
  | 5 => 12
  | 6 => 12
  | 7 => 12
  | 8 => 1
  | 9 => 12
  | 10 => 12
  | 11 => 12
  | 12 => 13
  | 13 => 12
  | 14 => 0
  | 15 => 0
  | 16 => 6
  | 17 => 12
  | 18 => 12
  | 19 => 12
  | 20 => 5
  | 21 => 16
  | 22 => 12
  | 23 => 12
  | 24 => 12
  | 25 => 12
  | 26 => 12
  | 27 => 16
  | 28 => 12
  | 29 => 12
  | 30 => 12
  | 31 => 12
  | 32 => 12
  | 33 => 12
  | 34 => 12
  | 35 => 16
  | 36 => 12
  | 37 => 12
  | 38 => 12
  | 39 => 12
  | 40 => 13
  | 41 => 0
  | 42 => 14
  | 43 => 8
  | 44 => 12
  | 45 => 8
  | 46 => 12
  | 47 => 8
  | 48 => 12
  | 49 => 8
  | 50 => 12
  | _ => 0
def lC : Nat → Nat
  | 5 => 12
  | 6 => 12
  | 7 => 12
  | 9 => 12
  | 10 => 12
  | 11 => 144
  | 12 => 144
  | 13 => 144
  | 17 => 12
  | 18 => 12
  | 19 => 864
  | 21 => 5
  | 22 => 5
  | 23 => 5
  | 24 => 5
  | 25 => 5
  | 26 => 5
  | 27 => 6
  | 28 => 32
  | 29 => 32
  | 30 => 32
  | 31 => 32
  | 32 => 32
  | 33 => 32
  | 34 => 5
  | 35 => 4
  | 36 => 144
  | 37 => 144
  | 38 => 144
  | 39 => 144
  | 40 => 4
  | 42 => 4
  | 44 => 60
  | 46 => 60
  | 48 => 60
  | 50 => 60
  | _ => 0
def pCl : List (Nat × Nat × Nat) := [(1, 0, 2), (1, 1, 8), (1, 5, 16), (1, 6, 20), (1, 7, 35), (1, 8, 40), (1, 9, 41), (1, 10, 42), (2, 0, 3), (2, 1, 4), (2, 4, 5), (2, 5, 6), (2, 6, 7), (8, 1, 9), (8, 2, 10), (8, 4, 11), (8, 8, 12), (8, 9, 13), (16, 0, 17), (16, 1, 18), (16, 2, 19), (20, 0, 21), (20, 1, 27), (20, 2, 34), (21, 0, 22), (21, 1, 23), (21, 2, 24), (21, 3, 25), (21, 4, 26), (27, 0, 28), (27, 1, 29), (27, 2, 30), (27, 3, 31), (27, 4, 32), (27, 5, 33), (35, 0, 36), (35, 1, 37), (35, 2, 38), (35, 3, 39), (42, 0, 43), (42, 1, 45), (42, 2, 47), (42, 3, 49), (43, 2, 44), (45, 2, 46), (47, 2, 48), (49, 2, 50)]
def m_at (S : MS) (a k : Nat) : Prop := 0 < a ∧ a ≤ m_n S ∧ m_K S a = k
/-- the shape of the class's memory -/
def CS (S : MS) : Prop := 50 ≤ m_n S ∧ (∀ a, 0 < a → a ≤ 50 → m_K S a = kC a ∧ m_L S a = lC a) ∧ (∀ t ∈ pCl, m_P S t.1 t.2.1 = some t.2.2) ∧ ((m_P S 1 3 = some 14 ∧ m_P S 1 4 = some 15) ∨ (m_P S 1 3 = some 15 ∧ m_P S 1 4 = some 14))
/-- what a method leaves: of the old cells kinds, lengths; numbers but those of PI and the fields Q of cell 1; references but those of PL -/
def FrC (S S' : MS) (PI Q PL : List Nat) : Prop := m_n S ≤ m_n S' ∧ (∀ a, 0 < a → a ≤ m_n S → m_K S' a = m_K S a ∧ m_L S' a = m_L S a ∧ (a ≠ 1 → a ∉ PI → m_I S' a = m_I S a) ∧ (a ∉ PL → m_P S' a = m_P S a)) ∧ ∀ k, k ∉ Q → m_I S' 1 k = m_I S 1 k
theorem FrC.rf {S : MS} {PI Q PL : List Nat} : FrC S S PI Q PL := ⟨Nat.le_refl _, fun _ _ _ => ⟨rfl, rfl, fun _ _ => rfl, fun _ => rfl⟩, fun _ _ => rfl⟩
theorem FrC.tr {S S' S'' : MS} {PI Q PL : List Nat} (h : FrC S S' PI Q PL) (h' : FrC S' S'' PI Q PL) : FrC S S'' PI Q PL := by
  obtain ⟨a1, a2, a3⟩ := h
  obtain ⟨b1, b2, b3⟩ := h'
  refine ⟨Nat.le_trans a1 b1, fun a h0 hn => ?_, fun k hk => (b3 k hk).trans (a3 k hk)⟩
  obtain ⟨c1, c2, c3, c4⟩ := a2 a h0 hn
  obtain ⟨d1, d2, d3, d4⟩ := b2 a h0 (Nat.le_trans hn a1)
  exact ⟨d1.trans c1, d2.trans c2, fun x y => (d3 x y).trans (c3 x y), fun x => (d4 x).trans (c4 x)⟩
theorem FrC.mono {S S' : MS} {PI Q PL PI' Q' PL' : List Nat} (h : FrC S S' PI Q PL) (h1 : ∀ x ∈ PI, x ∈ PI') (h2 : ∀ x ∈ Q, x ∈ Q') (h3 : ∀ x ∈ PL, x ∈ PL') : FrC S S' PI' Q' PL' :=
  ⟨h.1, fun a h0 hn => ⟨(h.2.1 a h0 hn).1, (h.2.1 a h0 hn).2.1, fun x y => (h.2.1 a h0 hn).2.2.1 x (fun z => y (h1 _ z)), fun x => (h.2.1 a h0 hn).2.2.2 (fun z => x (h3 _ z))⟩, fun k hk => h.2.2 k (fun z => hk (h2 _ z))⟩
theorem FrC.sI {S : MS} {a : Nat} {f : Nat → Int32} {PI Q PL : List Nat} (ha : a ≠ 1) (h : a ∈ PI) : FrC S (m_sI S a f) PI Q PL :=
  ⟨Nat.le_refl _, fun b _ _ => ⟨rfl, rfl, fun _ hb => by show va_up _ a f b = _; unfold va_up; rw [if_neg (fun e => hb (by rw [e]; exact h))]; rfl, fun _ => rfl⟩, fun k _ => by show va_up _ a f 1 k = _; unfold va_up; rw [if_neg (Ne.symm ha)]; rfl⟩
theorem FrC.sI1 {S : MS} {j : Nat} {v : Int32} {PI Q PL : List Nat} (h : j ∈ Q) : FrC S (m_sI S 1 (upd (m_I S 1) j v)) PI Q PL :=
  ⟨Nat.le_refl _, fun b _ _ => ⟨rfl, rfl, fun hb _ => by show va_up _ 1 _ b = _; unfold va_up; rw [if_neg hb]; rfl, fun _ => rfl⟩, fun k hk => by show (va_up S.2.2.2.1 1 (upd (m_I S 1) j v) 1 : Nat → Int32) k = _; unfold va_up upd; rw [if_pos rfl, if_neg (fun e => hk (by rw [e]; exact h))]⟩
theorem FrC.sP {S : MS} {a : Nat} {f : Nat → Option Nat} {PI Q PL : List Nat} (h : a ∈ PL) : FrC S (m_sP S a f) PI Q PL :=
  ⟨Nat.le_refl _, fun b _ _ => ⟨rfl, rfl, fun _ _ => rfl, fun hb => by show va_up _ a f b = _; unfold va_up; rw [if_neg (fun e => hb (by rw [e]; exact h))]; rfl⟩, fun k _ => rfl⟩
theorem FrC.new {S : MS} {k ln : Nat} {PI Q PL : List Nat} (hn : 0 < m_n S) : FrC S (m_new S k ln) PI Q PL := by
  have hx : ∀ (α : Type) (f : Nat → α) (v : α) (b : Nat), b ≤ m_n S → va_up f (S.1 + 1) v b = f b := fun α f v b hb => by
    unfold va_up
    rw [if_neg (by have : b ≤ S.1 := hb; omega)]
  exact ⟨Nat.le_succ _, fun b _ hb => ⟨hx _ _ _ b hb, hx _ _ _ b hb, fun _ _ => hx _ _ _ b hb, fun _ => hx _ _ _ b hb⟩, fun k _ => by show (va_up S.2.2.2.1 (S.1 + 1) (fun _ => 0) 1 : Nat → Int32) k = _; rw [hx _ _ _ 1 hn]; rfl⟩
theorem m_at.fr {S S' : MS} {a k : Nat} {PI Q PL : List Nat} (h : m_at S a k) (hf : FrC S S' PI Q PL) : m_at S' a k := ⟨h.1, Nat.le_trans h.2.1 hf.1, by rw [(hf.2.1 a h.1 h.2.1).1]; exact h.2.2⟩
theorem CS.fr {S S' : MS} {PI Q PL : List Nat} (h : CS S) (hf : FrC S S' PI Q PL) (hp : ∀ t ∈ pCl, t.1 ∉ PL) (h1 : 1 ∉ PL) : CS S' := by
  obtain ⟨h1, h2, h3, h4⟩ := h
  refine ⟨Nat.le_trans h1 hf.1, fun a h0 hn => ?_, fun t ht => ?_, ?_⟩
  · obtain ⟨c1, c2, -⟩ := hf.2.1 a h0 (by omega)
    rw [c1, c2]
    exact h2 a h0 hn
  · have hb : 0 < t.1 ∧ t.1 ≤ 50 := (List.all_eq_true.mp (by decide : pCl.all (fun t => decide (0 < t.1 ∧ t.1 ≤ 50)) = true) t ht) |> of_decide_eq_true
    obtain ⟨-, -, -, c4⟩ := hf.2.1 t.1 hb.1 (by omega)
    rw [c4 (hp t ht)]
    exact h3 t ht
  · obtain ⟨-, -, -, c4⟩ := hf.2.1 1 (by omega) (by omega)
    rw [c4 (by assumption)]
    exact h4
section CC
variable {S : MS}
theorem CS.at (h : CS S) (a : Nat) (h0 : 0 < a) (h1 : a ≤ 50) : m_at S a (kC a) := ⟨h0, Nat.le_trans h1 h.1, (h.2.1 a h0 h1).1⟩
theorem at_is {a k : Nat} (h : m_at S a k) : o_is S a k = some a := if_pos h
theorem at_gI {a k j : Nat} (h : m_at S a k) : o_gI S a k j = some (m_I S a j) := if_pos h
theorem at_gP {a k j q : Nat} (h : m_at S a k) (hq : m_P S a j = some q) : o_gP S a k j = some q := (if_pos h).trans hq
theorem at_sI {a k j : Nat} {v : Int32} (h : m_at S a k) : o_sI S a k j v = some (m_sI S a (upd (m_I S a) j v)) := if_pos h
theorem at_sP {a k j v : Nat} (h : m_at S a k) : o_sP S a k j v = some (m_sP S a (va_up (m_P S a) j (some v))) := if_pos h
theorem at_ln {a k : Nat} (h : m_at S a k) : o_ln S a k = some (nI (m_L S a)) := if_pos h
theorem at_ld {a k n j : Nat} {i : Int32} (h : m_at S a k) (hl : m_L S a = n) (hn : n < 2 ^ 31) (hi : i = nI j) (hj : j < n) : o_ld S a k i = some (m_I S a j) := by
  subst hi
  have hc : (nI j).toNatClampNeg = j := nI_clamp (by omega)
  unfold o_ld
  rw [hc, if_pos ⟨h, fun q => q.elim (nI_pos (by omega)) (fun q => by omega)⟩]
theorem at_st {a k n j : Nat} {i v : Int32} (h : m_at S a k) (hl : m_L S a = n) (hn : n < 2 ^ 31) (hi : i = nI j) (hj : j < n) : o_st S a k i v = some (m_sI S a (upd (m_I S a) j v)) := by
  subst hi
  have hc : (nI j).toNatClampNeg = j := nI_clamp (by omega)
  unfold o_st
  rw [hc, if_pos ⟨h, fun q => q.elim (nI_pos (by omega)) (fun q => by omega)⟩]
theorem at_ldP {a k n j q : Nat} {i : Int32} (h : m_at S a k) (hl : m_L S a = n) (hn : n < 2 ^ 31) (hi : i = nI j) (hj : j < n) (hq : m_P S a j = some q) : o_ldP S a k i = some q := by
  subst hi
  have hc : (nI j).toNatClampNeg = j := nI_clamp (by omega)
  unfold o_ldP
  rw [hc, if_pos ⟨h, fun q => q.elim (nI_pos (by omega)) (fun q => by omega)⟩, hq]
theorem cP1_0 (h : CS S) : o_gP S 1 10 0 = some 2 := at_gP (h.at 1 (by decide) (by decide)) (h.2.2.1 (1, 0, 2) (by decide))
theorem cP1_1 (h : CS S) : o_gP S 1 10 1 = some 8 := at_gP (h.at 1 (by decide) (by decide)) (h.2.2.1 (1, 1, 8) (by decide))
theorem cP1_5 (h : CS S) : o_gP S 1 10 5 = some 16 := at_gP (h.at 1 (by decide) (by decide)) (h.2.2.1 (1, 5, 16) (by decide))
theorem cP1_6 (h : CS S) : o_gP S 1 10 6 = some 20 := at_gP (h.at 1 (by decide) (by decide)) (h.2.2.1 (1, 6, 20) (by decide))
theorem cP1_7 (h : CS S) : o_gP S 1 10 7 = some 35 := at_gP (h.at 1 (by decide) (by decide)) (h.2.2.1 (1, 7, 35) (by decide))
theorem cP1_8 (h : CS S) : o_gP S 1 10 8 = some 40 := at_gP (h.at 1 (by decide) (by decide)) (h.2.2.1 (1, 8, 40) (by decide))
theorem cP1_9 (h : CS S) : o_gP S 1 10 9 = some 41 := at_gP (h.at 1 (by decide) (by decide)) (h.2.2.1 (1, 9, 41) (by decide))
theorem cP1_10 (h : CS S) : o_gP S 1 10 10 = some 42 := at_gP (h.at 1 (by decide) (by decide)) (h.2.2.1 (1, 10, 42) (by decide))
theorem cP2_0 (h : CS S) : o_gP S 2 2 0 = some 3 := at_gP (h.at 2 (by decide) (by decide)) (h.2.2.1 (2, 0, 3) (by decide))
theorem cP2_1 (h : CS S) : o_gP S 2 2 1 = some 4 := at_gP (h.at 2 (by decide) (by decide)) (h.2.2.1 (2, 1, 4) (by decide))
theorem cP2_4 (h : CS S) : o_gP S 2 2 4 = some 5 := at_gP (h.at 2 (by decide) (by decide)) (h.2.2.1 (2, 4, 5) (by decide))
theorem cP2_5 (h : CS S) : o_gP S 2 2 5 = some 6 := at_gP (h.at 2 (by decide) (by decide)) (h.2.2.1 (2, 5, 6) (by decide))
theorem cP2_6 (h : CS S) : o_gP S 2 2 6 = some 7 := at_gP (h.at 2 (by decide) (by decide)) (h.2.2.1 (2, 6, 7) (by decide))
theorem cP8_1 (h : CS S) : o_gP S 8 1 1 = some 9 := at_gP (h.at 8 (by decide) (by decide)) (h.2.2.1 (8, 1, 9) (by decide))
theorem cP8_2 (h : CS S) : o_gP S 8 1 2 = some 10 := at_gP (h.at 8 (by decide) (by decide)) (h.2.2.1 (8, 2, 10) (by decide))
theorem cP8_4 (h : CS S) : o_gP S 8 1 4 = some 11 := at_gP (h.at 8 (by decide) (by decide)) (h.2.2.1 (8, 4, 11) (by decide))
theorem cP8_8 (h : CS S) : o_gP S 8 1 8 = some 12 := at_gP (h.at 8 (by decide) (by decide)) (h.2.2.1 (8, 8, 12) (by decide))
theorem cP8_9 (h : CS S) : o_gP S 8 1 9 = some 13 := at_gP (h.at 8 (by decide) (by decide)) (h.2.2.1 (8, 9, 13) (by decide))
theorem cP16_0 (h : CS S) : o_gP S 16 6 0 = some 17 := at_gP (h.at 16 (by decide) (by decide)) (h.2.2.1 (16, 0, 17) (by decide))
theorem cP16_1 (h : CS S) : o_gP S 16 6 1 = some 18 := at_gP (h.at 16 (by decide) (by decide)) (h.2.2.1 (16, 1, 18) (by decide))
theorem cP16_2 (h : CS S) : o_gP S 16 6 2 = some 19 := at_gP (h.at 16 (by decide) (by decide)) (h.2.2.1 (16, 2, 19) (by decide))
theorem cP20_0 (h : CS S) : o_gP S 20 5 0 = some 21 := at_gP (h.at 20 (by decide) (by decide)) (h.2.2.1 (20, 0, 21) (by decide))
theorem cP20_1 (h : CS S) : o_gP S 20 5 1 = some 27 := at_gP (h.at 20 (by decide) (by decide)) (h.2.2.1 (20, 1, 27) (by decide))
theorem cP20_2 (h : CS S) : o_gP S 20 5 2 = some 34 := at_gP (h.at 20 (by decide) (by decide)) (h.2.2.1 (20, 2, 34) (by decide))
theorem cP43_2 (h : CS S) : o_gP S 43 8 2 = some 44 := at_gP (h.at 43 (by decide) (by decide)) (h.2.2.1 (43, 2, 44) (by decide))
theorem cP45_2 (h : CS S) : o_gP S 45 8 2 = some 46 := at_gP (h.at 45 (by decide) (by decide)) (h.2.2.1 (45, 2, 46) (by decide))
theorem cP47_2 (h : CS S) : o_gP S 47 8 2 = some 48 := at_gP (h.at 47 (by decide) (by decide)) (h.2.2.1 (47, 2, 48) (by decide))
theorem cP49_2 (h : CS S) : o_gP S 49 8 2 = some 50 := at_gP (h.at 49 (by decide) (by decide)) (h.2.2.1 (49, 2, 50) (by decide))
theorem cI1 (h : CS S) (k : Nat) : o_gI S 1 10 k = some (m_I S 1 k) := at_gI (h.at 1 (by decide) (by decide))
theorem cSI1 (h : CS S) (k : Nat) (v : Int32) : o_sI S 1 10 k v = some (m_sI S 1 (upd (m_I S 1) k v)) := at_sI (h.at 1 (by decide) (by decide))
theorem cIs1 (h : CS S) : o_is S 1 10 = some 1 := at_is (h.at 1 (by decide) (by decide))
theorem cI2 (h : CS S) (k : Nat) : o_gI S 2 2 k = some (m_I S 2 k) := at_gI (h.at 2 (by decide) (by decide))
theorem cSI2 (h : CS S) (k : Nat) (v : Int32) : o_sI S 2 2 k v = some (m_sI S 2 (upd (m_I S 2) k v)) := at_sI (h.at 2 (by decide) (by decide))
theorem cIs2 (h : CS S) : o_is S 2 2 = some 2 := at_is (h.at 2 (by decide) (by decide))
theorem cI3 (h : CS S) (k : Nat) : o_gI S 3 0 k = some (m_I S 3 k) := at_gI (h.at 3 (by decide) (by decide))
theorem cSI3 (h : CS S) (k : Nat) (v : Int32) : o_sI S 3 0 k v = some (m_sI S 3 (upd (m_I S 3) k v)) := at_sI (h.at 3 (by decide) (by decide))
theorem cIs3 (h : CS S) : o_is S 3 0 = some 3 := at_is (h.at 3 (by decide) (by decide))
theorem cI4 (h : CS S) (k : Nat) : o_gI S 4 0 k = some (m_I S 4 k) := at_gI (h.at 4 (by decide) (by decide))
theorem cSI4 (h : CS S) (k : Nat) (v : Int32) : o_sI S 4 0 k v = some (m_sI S 4 (upd (m_I S 4) k v)) := at_sI (h.at 4 (by decide) (by decide))
theorem cIs4 (h : CS S) : o_is S 4 0 = some 4 := at_is (h.at 4 (by decide) (by decide))
theorem cL5 (h : CS S) {i : Int32} {j : Nat} (hi : i = nI j) (hj : j < 12) : o_ld S 5 12 i = some (m_I S 5 j) := at_ld (h.at 5 (by decide) (by decide)) (h.2.1 5 (by decide) (by decide)).2 (by decide) hi hj
theorem cS5 (h : CS S) {i v : Int32} {j : Nat} (hi : i = nI j) (hj : j < 12) : o_st S 5 12 i v = some (m_sI S 5 (upd (m_I S 5) j v)) := at_st (h.at 5 (by decide) (by decide)) (h.2.1 5 (by decide) (by decide)).2 (by decide) hi hj
theorem cL6 (h : CS S) {i : Int32} {j : Nat} (hi : i = nI j) (hj : j < 12) : o_ld S 6 12 i = some (m_I S 6 j) := at_ld (h.at 6 (by decide) (by decide)) (h.2.1 6 (by decide) (by decide)).2 (by decide) hi hj
theorem cS6 (h : CS S) {i v : Int32} {j : Nat} (hi : i = nI j) (hj : j < 12) : o_st S 6 12 i v = some (m_sI S 6 (upd (m_I S 6) j v)) := at_st (h.at 6 (by decide) (by decide)) (h.2.1 6 (by decide) (by decide)).2 (by decide) hi hj
theorem cL7 (h : CS S) {i : Int32} {j : Nat} (hi : i = nI j) (hj : j < 12) : o_ld S 7 12 i = some (m_I S 7 j) := at_ld (h.at 7 (by decide) (by decide)) (h.2.1 7 (by decide) (by decide)).2 (by decide) hi hj
theorem cS7 (h : CS S) {i v : Int32} {j : Nat} (hi : i = nI j) (hj : j < 12) : o_st S 7 12 i v = some (m_sI S 7 (upd (m_I S 7) j v)) := at_st (h.at 7 (by decide) (by decide)) (h.2.1 7 (by decide) (by decide)).2 (by decide) hi hj
theorem cI8 (h : CS S) (k : Nat) : o_gI S 8 1 k = some (m_I S 8 k) := at_gI (h.at 8 (by decide) (by decide))
theorem cSI8 (h : CS S) (k : Nat) (v : Int32) : o_sI S 8 1 k v = some (m_sI S 8 (upd (m_I S 8) k v)) := at_sI (h.at 8 (by decide) (by decide))
theorem cIs8 (h : CS S) : o_is S 8 1 = some 8 := at_is (h.at 8 (by decide) (by decide))
theorem cL9 (h : CS S) {i : Int32} {j : Nat} (hi : i = nI j) (hj : j < 12) : o_ld S 9 12 i = some (m_I S 9 j) := at_ld (h.at 9 (by decide) (by decide)) (h.2.1 9 (by decide) (by decide)).2 (by decide) hi hj
theorem cS9 (h : CS S) {i v : Int32} {j : Nat} (hi : i = nI j) (hj : j < 12) : o_st S 9 12 i v = some (m_sI S 9 (upd (m_I S 9) j v)) := at_st (h.at 9 (by decide) (by decide)) (h.2.1 9 (by decide) (by decide)).2 (by decide) hi hj
theorem cL10 (h : CS S) {i : Int32} {j : Nat} (hi : i = nI j) (hj : j < 12) : o_ld S 10 12 i = some (m_I S 10 j) := at_ld (h.at 10 (by decide) (by decide)) (h.2.1 10 (by decide) (by decide)).2 (by decide) hi hj
theorem cS10 (h : CS S) {i v : Int32} {j : Nat} (hi : i = nI j) (hj : j < 12) : o_st S 10 12 i v = some (m_sI S 10 (upd (m_I S 10) j v)) := at_st (h.at 10 (by decide) (by decide)) (h.2.1 10 (by decide) (by decide)).2 (by decide) hi hj
theorem cL11 (h : CS S) {i : Int32} {j : Nat} (hi : i = nI j) (hj : j < 144) : o_ld S 11 12 i = some (m_I S 11 j) := at_ld (h.at 11 (by decide) (by decide)) (h.2.1 11 (by decide) (by decide)).2 (by decide) hi hj
theorem cS11 (h : CS S) {i v : Int32} {j : Nat} (hi : i = nI j) (hj : j < 144) : o_st S 11 12 i v = some (m_sI S 11 (upd (m_I S 11) j v)) := at_st (h.at 11 (by decide) (by decide)) (h.2.1 11 (by decide) (by decide)).2 (by decide) hi hj
theorem cL12 (h : CS S) {i : Int32} {j : Nat} (hi : i = nI j) (hj : j < 144) : o_ld S 12 13 i = some (m_I S 12 j) := at_ld (h.at 12 (by decide) (by decide)) (h.2.1 12 (by decide) (by decide)).2 (by decide) hi hj
theorem cS12 (h : CS S) {i v : Int32} {j : Nat} (hi : i = nI j) (hj : j < 144) : o_st S 12 13 i v = some (m_sI S 12 (upd (m_I S 12) j v)) := at_st (h.at 12 (by decide) (by decide)) (h.2.1 12 (by decide) (by decide)).2 (by decide) hi hj
theorem cL13 (h : CS S) {i : Int32} {j : Nat} (hi : i = nI j) (hj : j < 144) : o_ld S 13 12 i = some (m_I S 13 j) := at_ld (h.at 13 (by decide) (by decide)) (h.2.1 13 (by decide) (by decide)).2 (by decide) hi hj
theorem cS13 (h : CS S) {i v : Int32} {j : Nat} (hi : i = nI j) (hj : j < 144) : o_st S 13 12 i v = some (m_sI S 13 (upd (m_I S 13) j v)) := at_st (h.at 13 (by decide) (by decide)) (h.2.1 13 (by decide) (by decide)).2 (by decide) hi hj
theorem cI14 (h : CS S) (k : Nat) : o_gI S 14 0 k = some (m_I S 14 k) := at_gI (h.at 14 (by decide) (by decide))
theorem cSI14 (h : CS S) (k : Nat) (v : Int32) : o_sI S 14 0 k v = some (m_sI S 14 (upd (m_I S 14) k v)) := at_sI (h.at 14 (by decide) (by decide))
theorem cIs14 (h : CS S) : o_is S 14 0 = some 14 := at_is (h.at 14 (by decide) (by decide))
theorem cI15 (h : CS S) (k : Nat) : o_gI S 15 0 k = some (m_I S 15 k) := at_gI (h.at 15 (by decide) (by decide))
theorem cSI15 (h : CS S) (k : Nat) (v : Int32) : o_sI S 15 0 k v = some (m_sI S 15 (upd (m_I S 15) k v)) := at_sI (h.at 15 (by decide) (by decide))
theorem cIs15 (h : CS S) : o_is S 15 0 = some 15 := at_is (h.at 15 (by decide) (by decide))
theorem cI16 (h : CS S) (k : Nat) : o_gI S 16 6 k = some (m_I S 16 k) := at_gI (h.at 16 (by decide) (by decide))
theorem cSI16 (h : CS S) (k : Nat) (v : Int32) : o_sI S 16 6 k v = some (m_sI S 16 (upd (m_I S 16) k v)) := at_sI (h.at 16 (by decide) (by decide))
theorem cIs16 (h : CS S) : o_is S 16 6 = some 16 := at_is (h.at 16 (by decide) (by decide))
theorem cL17 (h : CS S) {i : Int32} {j : Nat} (hi : i = nI j) (hj : j < 12) : o_ld S 17 12 i = some (m_I S 17 j) := at_ld (h.at 17 (by decide) (by decide)) (h.2.1 17 (by decide) (by decide)).2 (by decide) hi hj
theorem cS17 (h : CS S) {i v : Int32} {j : Nat} (hi : i = nI j) (hj : j < 12) : o_st S 17 12 i v = some (m_sI S 17 (upd (m_I S 17) j v)) := at_st (h.at 17 (by decide) (by decide)) (h.2.1 17 (by decide) (by decide)).2 (by decide) hi hj
theorem cL18 (h : CS S) {i : Int32} {j : Nat} (hi : i = nI j) (hj : j < 12) : o_ld S 18 12 i = some (m_I S 18 j) := at_ld (h.at 18 (by decide) (by decide)) (h.2.1 18 (by decide) (by decide)).2 (by decide) hi hj
theorem cS18 (h : CS S) {i v : Int32} {j : Nat} (hi : i = nI j) (hj : j < 12) : o_st S 18 12 i v = some (m_sI S 18 (upd (m_I S 18) j v)) := at_st (h.at 18 (by decide) (by decide)) (h.2.1 18 (by decide) (by decide)).2 (by decide) hi hj
theorem cL19 (h : CS S) {i : Int32} {j : Nat} (hi : i = nI j) (hj : j < 864) : o_ld S 19 12 i = some (m_I S 19 j) := at_ld (h.at 19 (by decide) (by decide)) (h.2.1 19 (by decide) (by decide)).2 (by decide) hi hj
theorem cS19 (h : CS S) {i v : Int32} {j : Nat} (hi : i = nI j) (hj : j < 864) : o_st S 19 12 i v = some (m_sI S 19 (upd (m_I S 19) j v)) := at_st (h.at 19 (by decide) (by decide)) (h.2.1 19 (by decide) (by decide)).2 (by decide) hi hj
theorem cI20 (h : CS S) (k : Nat) : o_gI S 20 5 k = some (m_I S 20 k) := at_gI (h.at 20 (by decide) (by decide))
theorem cSI20 (h : CS S) (k : Nat) (v : Int32) : o_sI S 20 5 k v = some (m_sI S 20 (upd (m_I S 20) k v)) := at_sI (h.at 20 (by decide) (by decide))
theorem cIs20 (h : CS S) : o_is S 20 5 = some 20 := at_is (h.at 20 (by decide) (by decide))
theorem cL22 (h : CS S) {i : Int32} {j : Nat} (hi : i = nI j) (hj : j < 5) : o_ld S 22 12 i = some (m_I S 22 j) := at_ld (h.at 22 (by decide) (by decide)) (h.2.1 22 (by decide) (by decide)).2 (by decide) hi hj
theorem cS22 (h : CS S) {i v : Int32} {j : Nat} (hi : i = nI j) (hj : j < 5) : o_st S 22 12 i v = some (m_sI S 22 (upd (m_I S 22) j v)) := at_st (h.at 22 (by decide) (by decide)) (h.2.1 22 (by decide) (by decide)).2 (by decide) hi hj
theorem cL23 (h : CS S) {i : Int32} {j : Nat} (hi : i = nI j) (hj : j < 5) : o_ld S 23 12 i = some (m_I S 23 j) := at_ld (h.at 23 (by decide) (by decide)) (h.2.1 23 (by decide) (by decide)).2 (by decide) hi hj
theorem cS23 (h : CS S) {i v : Int32} {j : Nat} (hi : i = nI j) (hj : j < 5) : o_st S 23 12 i v = some (m_sI S 23 (upd (m_I S 23) j v)) := at_st (h.at 23 (by decide) (by decide)) (h.2.1 23 (by decide) (by decide)).2 (by decide) hi hj
theorem cL24 (h : CS S) {i : Int32} {j : Nat} (hi : i = nI j) (hj : j < 5) : o_ld S 24 12 i = some (m_I S 24 j) := at_ld (h.at 24 (by decide) (by decide)) (h.2.1 24 (by decide) (by decide)).2 (by decide) hi hj
theorem cS24 (h : CS S) {i v : Int32} {j : Nat} (hi : i = nI j) (hj : j < 5) : o_st S 24 12 i v = some (m_sI S 24 (upd (m_I S 24) j v)) := at_st (h.at 24 (by decide) (by decide)) (h.2.1 24 (by decide) (by decide)).2 (by decide) hi hj
theorem cL25 (h : CS S) {i : Int32} {j : Nat} (hi : i = nI j) (hj : j < 5) : o_ld S 25 12 i = some (m_I S 25 j) := at_ld (h.at 25 (by decide) (by decide)) (h.2.1 25 (by decide) (by decide)).2 (by decide) hi hj
theorem cS25 (h : CS S) {i v : Int32} {j : Nat} (hi : i = nI j) (hj : j < 5) : o_st S 25 12 i v = some (m_sI S 25 (upd (m_I S 25) j v)) := at_st (h.at 25 (by decide) (by decide)) (h.2.1 25 (by decide) (by decide)).2 (by decide) hi hj
theorem cL26 (h : CS S) {i : Int32} {j : Nat} (hi : i = nI j) (hj : j < 5) : o_ld S 26 12 i = some (m_I S 26 j) := at_ld (h.at 26 (by decide) (by decide)) (h.2.1 26 (by decide) (by decide)).2 (by decide) hi hj
theorem cS26 (h : CS S) {i v : Int32} {j : Nat} (hi : i = nI j) (hj : j < 5) : o_st S 26 12 i v = some (m_sI S 26 (upd (m_I S 26) j v)) := at_st (h.at 26 (by decide) (by decide)) (h.2.1 26 (by decide) (by decide)).2 (by decide) hi hj
theorem cL28 (h : CS S) {i : Int32} {j : Nat} (hi : i = nI j) (hj : j < 32) : o_ld S 28 12 i = some (m_I S 28 j) := at_ld (h.at 28 (by decide) (by decide)) (h.2.1 28 (by decide) (by decide)).2 (by decide) hi hj
theorem cS28 (h : CS S) {i v : Int32} {j : Nat} (hi : i = nI j) (hj : j < 32) : o_st S 28 12 i v = some (m_sI S 28 (upd (m_I S 28) j v)) := at_st (h.at 28 (by decide) (by decide)) (h.2.1 28 (by decide) (by decide)).2 (by decide) hi hj
theorem cL29 (h : CS S) {i : Int32} {j : Nat} (hi : i = nI j) (hj : j < 32) : o_ld S 29 12 i = some (m_I S 29 j) := at_ld (h.at 29 (by decide) (by decide)) (h.2.1 29 (by decide) (by decide)).2 (by decide) hi hj
theorem cS29 (h : CS S) {i v : Int32} {j : Nat} (hi : i = nI j) (hj : j < 32) : o_st S 29 12 i v = some (m_sI S 29 (upd (m_I S 29) j v)) := at_st (h.at 29 (by decide) (by decide)) (h.2.1 29 (by decide) (by decide)).2 (by decide) hi hj
theorem cL30 (h : CS S) {i : Int32} {j : Nat} (hi : i = nI j) (hj : j < 32) : o_ld S 30 12 i = some (m_I S 30 j) := at_ld (h.at 30 (by decide) (by decide)) (h.2.1 30 (by decide) (by decide)).2 (by decide) hi hj
theorem cS30 (h : CS S) {i v : Int32} {j : Nat} (hi : i = nI j) (hj : j < 32) : o_st S 30 12 i v = some (m_sI S 30 (upd (m_I S 30) j v)) := at_st (h.at 30 (by decide) (by decide)) (h.2.1 30 (by decide) (by decide)).2 (by decide) hi hj
theorem cL31 (h : CS S) {i : Int32} {j : Nat} (hi : i = nI j) (hj : j < 32) : o_ld S 31 12 i = some (m_I S 31 j) := at_ld (h.at 31 (by decide) (by decide)) (h.2.1 31 (by decide) (by decide)).2 (by decide) hi hj
theorem cS31 (h : CS S) {i v : Int32} {j : Nat} (hi : i = nI j) (hj : j < 32) : o_st S 31 12 i v = some (m_sI S 31 (upd (m_I S 31) j v)) := at_st (h.at 31 (by decide) (by decide)) (h.2.1 31 (by decide) (by decide)).2 (by decide) hi hj
theorem cL32 (h : CS S) {i : Int32} {j : Nat} (hi : i = nI j) (hj : j < 32) : o_ld S 32 12 i = some (m_I S 32 j) := at_ld (h.at 32 (by decide) (by decide)) (h.2.1 32 (by decide) (by decide)).2 (by decide) hi hj
theorem cS32 (h : CS S) {i v : Int32} {j : Nat} (hi : i = nI j) (hj : j < 32) : o_st S 32 12 i v = some (m_sI S 32 (upd (m_I S 32) j v)) := at_st (h.at 32 (by decide) (by decide)) (h.2.1 32 (by decide) (by decide)).2 (by decide) hi hj
theorem cL33 (h : CS S) {i : Int32} {j : Nat} (hi : i = nI j) (hj : j < 32) : o_ld S 33 12 i = some (m_I S 33 j) := at_ld (h.at 33 (by decide) (by decide)) (h.2.1 33 (by decide) (by decide)).2 (by decide) hi hj
theorem cS33 (h : CS S) {i v : Int32} {j : Nat} (hi : i = nI j) (hj : j < 32) : o_st S 33 12 i v = some (m_sI S 33 (upd (m_I S 33) j v)) := at_st (h.at 33 (by decide) (by decide)) (h.2.1 33 (by decide) (by decide)).2 (by decide) hi hj
theorem cL34 (h : CS S) {i : Int32} {j : Nat} (hi : i = nI j) (hj : j < 5) : o_ld S 34 12 i = some (m_I S 34 j) := at_ld (h.at 34 (by decide) (by decide)) (h.2.1 34 (by decide) (by decide)).2 (by decide) hi hj
theorem cS34 (h : CS S) {i v : Int32} {j : Nat} (hi : i = nI j) (hj : j < 5) : o_st S 34 12 i v = some (m_sI S 34 (upd (m_I S 34) j v)) := at_st (h.at 34 (by decide) (by decide)) (h.2.1 34 (by decide) (by decide)).2 (by decide) hi hj
theorem cL36 (h : CS S) {i : Int32} {j : Nat} (hi : i = nI j) (hj : j < 144) : o_ld S 36 12 i = some (m_I S 36 j) := at_ld (h.at 36 (by decide) (by decide)) (h.2.1 36 (by decide) (by decide)).2 (by decide) hi hj
theorem cS36 (h : CS S) {i v : Int32} {j : Nat} (hi : i = nI j) (hj : j < 144) : o_st S 36 12 i v = some (m_sI S 36 (upd (m_I S 36) j v)) := at_st (h.at 36 (by decide) (by decide)) (h.2.1 36 (by decide) (by decide)).2 (by decide) hi hj
theorem cL37 (h : CS S) {i : Int32} {j : Nat} (hi : i = nI j) (hj : j < 144) : o_ld S 37 12 i = some (m_I S 37 j) := at_ld (h.at 37 (by decide) (by decide)) (h.2.1 37 (by decide) (by decide)).2 (by decide) hi hj
theorem cS37 (h : CS S) {i v : Int32} {j : Nat} (hi : i = nI j) (hj : j < 144) : o_st S 37 12 i v = some (m_sI S 37 (upd (m_I S 37) j v)) := at_st (h.at 37 (by decide) (by decide)) (h.2.1 37 (by decide) (by decide)).2 (by decide) hi hj
theorem cL38 (h : CS S) {i : Int32} {j : Nat} (hi : i = nI j) (hj : j < 144) : o_ld S 38 12 i = some (m_I S 38 j) := at_ld (h.at 38 (by decide) (by decide)) (h.2.1 38 (by decide) (by decide)).2 (by decide) hi hj
theorem cS38 (h : CS S) {i v : Int32} {j : Nat} (hi : i = nI j) (hj : j < 144) : o_st S 38 12 i v = some (m_sI S 38 (upd (m_I S 38) j v)) := at_st (h.at 38 (by decide) (by decide)) (h.2.1 38 (by decide) (by decide)).2 (by decide) hi hj
theorem cL39 (h : CS S) {i : Int32} {j : Nat} (hi : i = nI j) (hj : j < 144) : o_ld S 39 12 i = some (m_I S 39 j) := at_ld (h.at 39 (by decide) (by decide)) (h.2.1 39 (by decide) (by decide)).2 (by decide) hi hj
theorem cS39 (h : CS S) {i v : Int32} {j : Nat} (hi : i = nI j) (hj : j < 144) : o_st S 39 12 i v = some (m_sI S 39 (upd (m_I S 39) j v)) := at_st (h.at 39 (by decide) (by decide)) (h.2.1 39 (by decide) (by decide)).2 (by decide) hi hj
theorem cL40 (h : CS S) {i : Int32} {j : Nat} (hi : i = nI j) (hj : j < 4) : o_ld S 40 13 i = some (m_I S 40 j) := at_ld (h.at 40 (by decide) (by decide)) (h.2.1 40 (by decide) (by decide)).2 (by decide) hi hj
theorem cS40 (h : CS S) {i v : Int32} {j : Nat} (hi : i = nI j) (hj : j < 4) : o_st S 40 13 i v = some (m_sI S 40 (upd (m_I S 40) j v)) := at_st (h.at 40 (by decide) (by decide)) (h.2.1 40 (by decide) (by decide)).2 (by decide) hi hj
theorem cI41 (h : CS S) (k : Nat) : o_gI S 41 0 k = some (m_I S 41 k) := at_gI (h.at 41 (by decide) (by decide))
theorem cSI41 (h : CS S) (k : Nat) (v : Int32) : o_sI S 41 0 k v = some (m_sI S 41 (upd (m_I S 41) k v)) := at_sI (h.at 41 (by decide) (by decide))
theorem cIs41 (h : CS S) : o_is S 41 0 = some 41 := at_is (h.at 41 (by decide) (by decide))
theorem cI43 (h : CS S) (k : Nat) : o_gI S 43 8 k = some (m_I S 43 k) := at_gI (h.at 43 (by decide) (by decide))
theorem cSI43 (h : CS S) (k : Nat) (v : Int32) : o_sI S 43 8 k v = some (m_sI S 43 (upd (m_I S 43) k v)) := at_sI (h.at 43 (by decide) (by decide))
theorem cIs43 (h : CS S) : o_is S 43 8 = some 43 := at_is (h.at 43 (by decide) (by decide))
theorem cL44 (h : CS S) {i : Int32} {j : Nat} (hi : i = nI j) (hj : j < 60) : o_ld S 44 12 i = some (m_I S 44 j) := at_ld (h.at 44 (by decide) (by decide)) (h.2.1 44 (by decide) (by decide)).2 (by decide) hi hj
theorem cS44 (h : CS S) {i v : Int32} {j : Nat} (hi : i = nI j) (hj : j < 60) : o_st S 44 12 i v = some (m_sI S 44 (upd (m_I S 44) j v)) := at_st (h.at 44 (by decide) (by decide)) (h.2.1 44 (by decide) (by decide)).2 (by decide) hi hj
theorem cI45 (h : CS S) (k : Nat) : o_gI S 45 8 k = some (m_I S 45 k) := at_gI (h.at 45 (by decide) (by decide))
theorem cSI45 (h : CS S) (k : Nat) (v : Int32) : o_sI S 45 8 k v = some (m_sI S 45 (upd (m_I S 45) k v)) := at_sI (h.at 45 (by decide) (by decide))
theorem cIs45 (h : CS S) : o_is S 45 8 = some 45 := at_is (h.at 45 (by decide) (by decide))
theorem cL46 (h : CS S) {i : Int32} {j : Nat} (hi : i = nI j) (hj : j < 60) : o_ld S 46 12 i = some (m_I S 46 j) := at_ld (h.at 46 (by decide) (by decide)) (h.2.1 46 (by decide) (by decide)).2 (by decide) hi hj
theorem cS46 (h : CS S) {i v : Int32} {j : Nat} (hi : i = nI j) (hj : j < 60) : o_st S 46 12 i v = some (m_sI S 46 (upd (m_I S 46) j v)) := at_st (h.at 46 (by decide) (by decide)) (h.2.1 46 (by decide) (by decide)).2 (by decide) hi hj
theorem cI47 (h : CS S) (k : Nat) : o_gI S 47 8 k = some (m_I S 47 k) := at_gI (h.at 47 (by decide) (by decide))
theorem cSI47 (h : CS S) (k : Nat) (v : Int32) : o_sI S 47 8 k v = some (m_sI S 47 (upd (m_I S 47) k v)) := at_sI (h.at 47 (by decide) (by decide))
theorem cIs47 (h : CS S) : o_is S 47 8 = some 47 := at_is (h.at 47 (by decide) (by decide))
theorem cL48 (h : CS S) {i : Int32} {j : Nat} (hi : i = nI j) (hj : j < 60) : o_ld S 48 12 i = some (m_I S 48 j) := at_ld (h.at 48 (by decide) (by decide)) (h.2.1 48 (by decide) (by decide)).2 (by decide) hi hj
theorem cS48 (h : CS S) {i v : Int32} {j : Nat} (hi : i = nI j) (hj : j < 60) : o_st S 48 12 i v = some (m_sI S 48 (upd (m_I S 48) j v)) := at_st (h.at 48 (by decide) (by decide)) (h.2.1 48 (by decide) (by decide)).2 (by decide) hi hj
theorem cI49 (h : CS S) (k : Nat) : o_gI S 49 8 k = some (m_I S 49 k) := at_gI (h.at 49 (by decide) (by decide))
theorem cSI49 (h : CS S) (k : Nat) (v : Int32) : o_sI S 49 8 k v = some (m_sI S 49 (upd (m_I S 49) k v)) := at_sI (h.at 49 (by decide) (by decide))
theorem cIs49 (h : CS S) : o_is S 49 8 = some 49 := at_is (h.at 49 (by decide) (by decide))
theorem cL50 (h : CS S) {i : Int32} {j : Nat} (hi : i = nI j) (hj : j < 60) : o_ld S 50 12 i = some (m_I S 50 j) := at_ld (h.at 50 (by decide) (by decide)) (h.2.1 50 (by decide) (by decide)).2 (by decide) hi hj
theorem cS50 (h : CS S) {i v : Int32} {j : Nat} (hi : i = nI j) (hj : j < 60) : o_st S 50 12 i v = some (m_sI S 50 (upd (m_I S 50) j v)) := at_st (h.at 50 (by decide) (by decide)) (h.2.1 50 (by decide) (by decide)).2 (by decide) hi hj
theorem CS.sI (h : CS S) (a : Nat) (f : Nat → Int32) : CS (m_sI S a f) := h
end CC
theorem mI_sI {S : MS} {a b : Nat} {f : Nat → Int32} : m_I (m_sI S a f) b = if b = a then f else m_I S b := rfl
theorem mI_same {S : MS} {a : Nat} {f : Nat → Int32} : m_I (m_sI S a f) a = f := if_pos rfl
theorem mI_ne {S : MS} {a b : Nat} {f : Nat → Int32} (h : b ≠ a) : m_I (m_sI S a f) b = m_I S b := if_neg h
theorem mI_sP {S : MS} {a b : Nat} {f : Nat → Option Nat} : m_I (m_sP S a f) b = m_I S b := rfl
theorem mP_sI {S : MS} {a b : Nat} {f : Nat → Int32} : m_P (m_sI S a f) b = m_P S b := rfl
theorem mK_sI {S : MS} {a b : Nat} {f : Nat → Int32} : m_K (m_sI S a f) b = m_K S b := rfl
theorem mL_sI {S : MS} {a b : Nat} {f : Nat → Int32} : m_L (m_sI S a f) b = m_L S b := rfl
theorem upd_s {f : Nat → Int32} {k : Nat} {v : Int32} : upd f k v k = v := if_pos rfl
theorem upd_n {f : Nat → Int32} {k j : Nat} {v : Int32} (h : j ≠ k) : upd f k v j = f j := if_neg h
theorem up_s {α : Type} {f : Nat → α} {k : Nat} {v : α} : va_up f k v k = v := if_pos rfl
theorem up_n {α : Type} {f : Nat → α} {k j : Nat} {v : α} (h : j ≠ k) : va_up f k v j = f j := if_neg h
/-- of the reference: rows but those of P, fields of its one object but those of Q -/
def FrR (I I' : Nat → Nat → Int32) (P Q : List Nat) : Prop := (∀ a, a ≠ 1 → a ∉ P → I' a = I a) ∧ ∀ k, k ∉ Q → I' 1 k = I 1 k
theorem FrR.rf {I : Nat → Nat → Int32} {P Q : List Nat} : FrR I I P Q := ⟨fun _ _ _ => rfl, fun _ _ => rfl⟩
theorem FrR.tr {I I' I'' : Nat → Nat → Int32} {P Q : List Nat} (h : FrR I I' P Q) (h' : FrR I' I'' P Q) : FrR I I'' P Q := ⟨fun a x y => (h'.1 a x y).trans (h.1 a x y), fun k x => (h'.2 k x).trans (h.2 k x)⟩
theorem FrR.mono {I I' : Nat → Nat → Int32} {P Q P' Q' : List Nat} (h : FrR I I' P Q) (h1 : ∀ x ∈ P, x ∈ P') (h2 : ∀ x ∈ Q, x ∈ Q') : FrR I I' P' Q' := ⟨fun a x y => h.1 a x (fun z => y (h1 _ z)), fun k x => h.2 k (fun z => x (h2 _ z))⟩
theorem FrR.up {I : Nat → Nat → Int32} {P Q : List Nat} {a : Nat} {f : Nat → Int32} (ha : a ≠ 1) (h : a ∈ P) : FrR I (va_up I a f) P Q := ⟨fun b _ hb => up_n (fun e => hb (by rw [e]; exact h)), fun k _ => by rw [up_n (Ne.symm ha)]⟩
theorem FrR.up1 {I : Nat → Nat → Int32} {P Q : List Nat} {k : Nat} {v : Int32} (h : k ∈ Q) : FrR I (va_up I 1 (upd (I 1) k v)) P Q := ⟨fun b hb _ => up_n hb, fun j hj => by rw [up_s, upd_n (fun e => hj (by rw [e]; exact h))]⟩
