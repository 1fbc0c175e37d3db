/-- copies between arrays of ints; of references that are all of one kind -/
def o_cpy (S : MS) (a : Nat) (sp : Int32) (b : Nat) (dp n : Int32) : Option MS := if ((0 < a ∧ a ≤ m_n S ∧ m_K S a = 12) ∧ (0 < b ∧ b ≤ m_n S ∧ m_K S b = 12)) ∧ (¬ sp < 0 ∧ ¬ dp < 0 ∧ ¬ n < 0) ∧ sp.toNatClampNeg + n.toNatClampNeg ≤ m_L S a ∧ dp.toNatClampNeg + n.toNatClampNeg ≤ m_L S b then some (m_sI S b (va_cpy (m_I S a) (m_I S b) sp.toNatClampNeg dp.toNatClampNeg n.toNatClampNeg)) else none
def o_okk (k : Nat) : Prop := k = 3 ∨ k = 4 ∨ k = 7 ∨ k = 9
noncomputable def o_cpyQ (S : MS) (a : Nat) (sp : Int32) (b : Nat) (dp n : Int32) : Option MS := @ite _ (((0 < a ∧ a ≤ m_n S ∧ m_K S a = 15) ∧ (0 < b ∧ b ≤ m_n S ∧ m_K S b = 15)) ∧ (¬ sp < 0 ∧ ¬ dp < 0 ∧ ¬ n < 0) ∧ (sp.toNatClampNeg + n.toNatClampNeg ≤ m_L S a ∧ dp.toNatClampNeg + n.toNatClampNeg ≤ m_L S b) ∧ ∃ kv, o_okk kv ∧ ∀ i, i < n.toNatClampNeg → ∀ y, m_P S a (sp.toNatClampNeg + i) = some y → 0 < y ∧ y ≤ m_n S ∧ m_K S y = kv) (Classical.propDecidable _) (some (m_sP S b (va_cpy (m_P S a) (m_P S b) sp.toNatClampNeg dp.toNatClampNeg n.toNatClampNeg))) none
/-- the length of an array of references that may be the shared empty one (number 0) -/
def o_lnE (S : MS) (a : Nat) : Option Int32 := if a = 0 then some 0 else o_ln S a 15
/-- a store into an Object[], of one of the kinds that lists hold; of null -/
def o_stO (S : MS) (a : Nat) (i : Int32) (v : Nat) : Option MS := if ((0 < a ∧ a ≤ m_n S ∧ m_K S a = 15) ∧ (0 < v ∧ v ≤ m_n S ∧ (m_K S v = 3 ∨ m_K S v = 4 ∨ m_K S v = 7 ∨ m_K S v = 9))) ∧ ¬ (i < 0 ∨ m_L S a ≤ i.toNatClampNeg) then some (m_sP S a (va_up (m_P S a) i.toNatClampNeg (some v))) else none
def o_stN (S : MS) (a : Nat) (i : Int32) : Option MS := if (0 < a ∧ a ≤ m_n S ∧ m_K S a = 15) ∧ ¬ (i < 0 ∨ m_L S a ≤ i.toNatClampNeg) then some (m_sP S a (va_up (m_P S a) i.toNatClampNeg none)) else none
section KR
variable {p : Program} {l : Launch} {e : Env} {R : Room} {s : State} {m : MethodId} {args : Array Value} {below : List Frame} {meth : Method} {c : Code} {H : Heap} {locs : List Loc} {cells slots : Nat} {Q : State → Prop}
variable {cc : ByteArray} {pc nL : Nat} {ls : Array Slot} {rest : List Value} {D : va_G} {cy : Nat → ClassId} {ad : Nat → Nat} {A : Nat → Prop} {H0 : Heap} {S : MS} {own : String} {zz : Nat → Nat → Prop} {K0 : Nat} {lv : List (Nat × Value)}
theorem ST.updL {S' : MS} {a : Nat} {L : List Loc} {H1 : Heap} (h : ST D cy ad A H0 zz S H locs) (h0 : 0 < a) (hn : a ≤ m_n S) (hS : m_n S' = m_n S) (ho : ∀ b, b ≠ a → m_ce cy ad S' b = m_ce cy ad S b) (he : va_at D vwCl (ad a, m_ce cy ad S' a) H1) (hz : H1.size = H.size) (oq : ∀ q : Nat, q ≠ ad a → H1[q]? = H[q]?) (hL : ∀ q ∈ L, q.base = ad a) : ST D cy ad A H0 zz S' H1 (locs ++ L) := by
  obtain ⟨⟨hP, hD⟩, hV, hs⟩ := h
  have hat := m_ws_at (cy := cy) (ad := ad) h0 hn
  have hw := m_ws_set (cy := cy) (ad := ad) h0 hn hS ho rfl
  refine ⟨⟨?_, ?_⟩, ⟨by rw [hz]; exact hV.1, fun q g1 g2 => ?_, fun q hq => ?_⟩, ?_⟩
  · rw [← hw]; exact hP.set hD hat he oq
  · rw [← hw]; exact hD.set hat
  · rw [oq q (fun e => g2 (by rw [e]; exact hD.2 _ _ hat))]
    exact hV.2.1 q g1 g2
  · rcases List.mem_append.mp hq with h | h
    · exact hV.2.2 q h
    · rw [hL q h]
      exact hD.2 _ _ hat
  · rw [hS, hz]; exact hs
theorem k_nn {z : Int32} (hz : ¬ z < 0) : z.toInt = (z.toNatClampNeg : Int) := by
  have hz0 : (0 : Int) ≤ z.toInt := by
    have := Int32.not_lt.mp hz
    simpa using Int32.le_iff_toInt_le.mp this
  show z.toInt = ((z.toInt.toNat : Nat) : Int)
  omega
theorem k_cpy (C0 : CX p s m args meth c own cc nL D cy) (M : ST D cy ad A H0 zz S H locs) (hl : lv_has ls nL lv) {index : Nat} (hlink : Cond.methodLink own index arraycopyName ∈ UW) (hnat : Cond.native arraycopyName ∈ UW) (hstat : Cond.static arraycopyName ∈ UW) (hini : Cond.initialized "java/lang/System" ∈ UW) {S' : MS} {a b : Nat} {sp dp n : Int32} (hg : o_cpy S a sp b dp n = some S')
    (hframes : 1 ≤ R.frames) (hlocals : (rest.map fun v => v.category).sum + (nativeFrameWords "java/lang/System" "arraycopy" 5 + 11) ≤ R.locals) (hdg : decode cc pc = .ok (.invokestatic index, 3))
    (kk : ∀ (H1 : Heap) (locs1 : List Loc), ST D cy ad A H0 zz S' H1 locs1 → W p l e R s m args below meth c H1 locs1 cells slots Q (F0 m (pc + 3) ls rest)) : W p l e R s m args below meth c H locs cells slots Q (F0 m pc ls (.int n :: .int dp :: .ref (ad b) :: .int sp :: .ref (ad a) :: rest)) := by
  obtain ⟨hx, hb, hml, hown, hG, hts, -⟩ := C0
  obtain ⟨⟨⟨⟨a0, an, aK⟩, b0, bn, bK⟩, ⟨h1, h2, h3⟩, h4, h5⟩, e1⟩ := o_if hg
  subst e1
  have hea := m_ws_at (cy := cy) (ad := ad) a0 an
  rw [m_ce_int aK (by decide) (by decide)] at hea
  have heb := m_ws_at (cy := cy) (ad := ad) b0 bn
  rw [m_ce_int bK (by decide) (by decide)] at heb
  intro T hT X
  have hc0 : H[ad a]? = some (vp_cell (cy 12) (m_L S a, .inl (m_I S a))) := M.1.1 _ _ hea
  have hc1 : H[ad b]? = some (vp_cell (cy 12) (m_L S b, .inl (m_I S b))) := M.1.1 _ _ heb
  obtain ⟨-, k0, hk0, cm0, hkk0⟩ := (hG.1.2 0 _ rfl).1 (m_L S a) (fun j => .int (m_I S a j))
  obtain ⟨-, k1, hk1, cm1, hkk1⟩ := (hG.1.2 0 _ rfl).1 (m_L S b) (fun j => .int (m_I S b j))
  obtain ⟨vm', X', step⟩ := X.arraycopy hx hown (hts _ hlink) (hts _ hnat) (hts _ hstat) (hts _ hini) (src := ad a) (dst := ad b) (cs := vp_cell (cy 12) (m_L S a, .inl (m_I S a))) (cd := vp_cell (cy 12) (m_L S b, .inl (m_I S b))) (srcPos := sp) (destPos := dp) (n := n) (by rw [hT]; exact hc0) (by rw [hT]; exact hc1)
    (fun _ h => by cases h) (fun _ h => by cases h) (fun h => by cases h) (fun h => by cases h) hk0 hk1 hkk0 hkk1 rfl h1 h2 h3
    (by rw [k_nn h1, k_nn h3]; show ¬ _ > ((arrV (cy 12) (m_L S a) (fun j => .int (m_I S a j))).slots.size : Int); rw [arrV_size]; omega)
    (by rw [k_nn h2, k_nn h3]; show ¬ _ > ((arrV (cy 12) (m_L S b) (fun j => .int (m_I S b j))).slots.size : Int); rw [arrV_size]; omega)
    (fun vm₁ _ i hi => by
      have e : (vp_cell (cy 12) (m_L S a, .inl (m_I S a))).slots.getD (sp.toNatClampNeg + i) .null = .int (m_I S a (sp.toNatClampNeg + i)) := by
        show (arrV (cy 12) (m_L S a) (fun j => .int (m_I S a j))).slots.getD _ _ = _
        rw [Array.getD_eq_getD_getElem?, arrV_read _ _ (by omega)]
        rfl
      refine ⟨?_, ?_⟩
      · rw [e]
        rfl
      · rw [e]
        exact trivial)
    (g := F0 m pc ls (.int n :: .int dp :: .ref (ad b) :: .int sp :: .ref (ad a) :: rest)) rfl (by rw [hml]; exact hl.1) (rest := rest) rfl (by rw [hb]; exact hdg) hframes (by show 2 * 0 + _ + _ ≤ _; omega)
  have e1 : copied (vp_cell (cy 12) (m_L S a, .inl (m_I S a))) (vp_cell (cy 12) (m_L S b, .inl (m_I S b))) sp dp n = vp_cell (cy 12) (m_L S b, .inl (va_cpy (m_I S a) (m_I S b) sp.toNatClampNeg dp.toNatClampNeg n.toNatClampNeg)) := va_copied (fun z => .int z) (cy 12) (cy 12) (m_I S a) (m_I S b) h4
  rw [e1] at X' step
  have hl2 : ad b < H.size := (Array.getElem?_eq_some_iff.mp hc1).1
  generalize hY : vp_cell (cy 12) (m_L S b, .inl (va_cpy (m_I S a) (m_I S b) sp.toNatClampNeg dp.toNatClampNeg n.toNatClampNeg)) = Y at X' step
  have hheap : ((T.setVm vm').setCell (ad b) Y).heap = H.setIfInBounds (ad b) Y := by rw [← hT]; rfl
  obtain ⟨t, a1, b1⟩ := kk _ _ (M.updL (S' := m_sI S b (va_cpy (m_I S a) (m_I S b) sp.toNatClampNeg dp.toNatClampNeg n.toNatClampNeg)) (H1 := H.setIfInBounds (ad b) Y) b0 bn rfl (fun x hx => m_sI_o hx) (by
      rw [m_ce_int (S := m_sI S b _) (kd := 12) bK (by decide) (by decide), m_sI_s]
      show (H.setIfInBounds (ad b) Y)[ad b]? = some (vp_cell (cy 12) (m_L S b, .inl (va_cpy (m_I S a) (m_I S b) sp.toNatClampNeg dp.toNatClampNeg n.toNatClampNeg)))
      rw [hY]
      simp [Array.getElem?_setIfInBounds, hl2]) (by simp) (fun q hq => by simp [Array.getElem?_setIfInBounds, Ne.symm hq]) (fun q hq => by
      obtain ⟨z, -, hz⟩ := List.mem_map.mp hq
      rw [← hz])) _ hheap X'
  exact ⟨t, step t a1, b1⟩
theorem k_okk {kv : Nat} (h : o_okk kv) : ∃ (C : String) (T : u_T) (N : Nat), vwCl[kv]? = some (C, T, N) ∧ kv < 12 ∧ Cond.castable C "java/lang/Object" ∈ UW := by
  rcases h with rfl | rfl | rfl | rfl
  · exact ⟨RX2, TX2, 6, rfl, by decide, uw_of 1656 (by decide +kernel) rfl⟩
  · exact ⟨RX3, TX3, 5, rfl, by decide, uw_of 1655 (by decide +kernel) rfl⟩
  · exact ⟨RX6, TX6, 6, rfl, by decide, uw_of 1653 (by decide +kernel) rfl⟩
  · exact ⟨RX8, TX8, 6, rfl, by decide, uw_of 1654 (by decide +kernel) rfl⟩
theorem k_cpyQ (C0 : CX p s m args meth c own cc nL D cy) (M : ST D cy ad A H0 zz S H locs) (hl : lv_has ls nL lv) {index : Nat} (hlink : Cond.methodLink own index arraycopyName ∈ UW) (hnat : Cond.native arraycopyName ∈ UW) (hstat : Cond.static arraycopyName ∈ UW) (hini : Cond.initialized "java/lang/System" ∈ UW) {S' : MS} {a b : Nat} {sp dp n : Int32} (hg : o_cpyQ S a sp b dp n = some S')
    (hframes : 1 ≤ R.frames) (hlocals : (rest.map fun v => v.category).sum + (nativeFrameWords "java/lang/System" "arraycopy" 5 + 11) ≤ R.locals) (hdg : decode cc pc = .ok (.invokestatic index, 3))
    (kk : ∀ (H1 : Heap) (locs1 : List Loc), ST D cy ad A H0 zz S' H1 locs1 → W p l e R s m args below meth c H1 locs1 cells slots Q (F0 m (pc + 3) ls rest)) : W p l e R s m args below meth c H locs cells slots Q (F0 m pc ls (.int n :: .int dp :: .ref (ad b) :: .int sp :: .ref (ad a) :: rest)) := by
  obtain ⟨hx, hb, hml, hown, hG, hts, -⟩ := C0
  obtain ⟨⟨⟨⟨a0, an, aK⟩, b0, bn, bK⟩, ⟨h1, h2, h3⟩, ⟨h4, h5⟩, kv, hkv, hel⟩, e1⟩ := o_if hg
  subst e1
  obtain ⟨C, TC, NC, hcl, hkv12, hcast⟩ := k_okk hkv
  have hcls := (hG.1.1 kv _ hcl).2
  obtain ⟨kC0, hkC0, -⟩ := hcls.2
  obtain ⟨q1, q2, qf1, qf2, qf3⟩ := Cond.castable_spec (hts _ hcast)
  have hea := m_ws_at (cy := cy) (ad := ad) a0 an
  rw [m_ce_ref aK (by decide)] at hea
  have heb := m_ws_at (cy := cy) (ad := ad) b0 bn
  rw [m_ce_ref bK (by decide)] at heb
  intro T hT X
  generalize hf : (fun x => (m_P S a x).map ad) = f at hea
  generalize hgg : (fun x => (m_P S b x).map ad) = g at heb
  have hc0 : H[ad a]? = some (vp_cell (cy 15) (m_L S a, .inr (.inr (.inr (.inr f))))) := M.1.1 _ _ hea
  have hc1 : H[ad b]? = some (vp_cell (cy 15) (m_L S b, .inr (.inr (.inr (.inr g))))) := M.1.1 _ _ heb
  obtain ⟨-, k0, hk0, cm0, hkk0⟩ := (hG.1.2 3 _ rfl).1 (m_L S a) (fun j => va_rf (f j))
  obtain ⟨-, k1, hk1, cm1, hkk1⟩ := (hG.1.2 3 _ rfl).1 (m_L S b) (fun j => va_rf (g j))
  obtain ⟨vm', X', step⟩ := X.arraycopy hx hown (hts _ hlink) (hts _ hnat) (hts _ hstat) (hts _ hini) (src := ad a) (dst := ad b) (cs := vp_cell (cy 15) (m_L S a, .inr (.inr (.inr (.inr f))))) (cd := vp_cell (cy 15) (m_L S b, .inr (.inr (.inr (.inr g))))) (srcPos := sp) (destPos := dp) (n := n) (by rw [hT]; exact hc0) (by rw [hT]; exact hc1)
    (fun _ h => by cases h) (fun _ h => by cases h) (fun h => by cases h) (fun h => by cases h) hk0 hk1 hkk0 hkk1 rfl h1 h2 h3
    (by rw [k_nn h1, k_nn h3]; show ¬ _ > ((arrV (cy 15) (m_L S a) (fun j => va_rf (f j))).slots.size : Int); rw [arrV_size]; omega)
    (by rw [k_nn h2, k_nn h3]; show ¬ _ > ((arrV (cy 15) (m_L S b) (fun j => va_rf (g j))).slots.size : Int); rw [arrV_size]; omega)
    (fun vm₁ hal i hi => by
      have e : (vp_cell (cy 15) (m_L S a, .inr (.inr (.inr (.inr f))))).slots.getD (sp.toNatClampNeg + i) .null = va_rf (f (sp.toNatClampNeg + i)) := by
        show (arrV (cy 15) (m_L S a) (fun j => va_rf (f j))).slots.getD _ _ = _
        rw [Array.getD_eq_getD_getElem?, arrV_read _ _ (by omega)]
        rfl
      rw [e]
      have ef : f (sp.toNatClampNeg + i) = (m_P S a (sp.toNatClampNeg + i)).map ad := by rw [← hf]
      cases hy : m_P S a (sp.toNatClampNeg + i) with
      | none => rw [ef, hy]; exact ⟨rfl, trivial⟩
      | some y =>
        rw [ef, hy]
        obtain ⟨y0, yn, yK⟩ := hel i hi y hy
        have hey := m_ws_at (cy := cy) (ad := ad) y0 yn
        rw [m_ce_obj yK hkv12] at hey
        obtain ⟨r', hr', cellV, g1, g2, g3, -⟩ := M.1.1 _ _ hey
        obtain ⟨kA, comp, r1, r2, r3, -⟩ := (hG.1.2 3 _ rfl).2
        cases hk1.symm.trans r1
        cases hkk1.symm.trans r2
        obtain ⟨kE, hkE, -⟩ := Vm.findClass_spec r3
        obtain ⟨kC', hkC', -⟩ := hal.2.2 _ _ hkC0
        obtain ⟨kE', hkE', -⟩ := hal.2.2 _ _ hkE
        have eq1 : q1 = D.1 kv := Option.some.inj (qf1.symm.trans hcls.1)
        have eq2 := Option.some.inj (qf2.symm.trans r3)
        refine ⟨rfl, cellV, (show T.heap[ad y]? = some cellV by rw [hT]; exact g1), (fun q h => by rw [h] at g3; cases g3), ⟨kC', by rw [g2]; exact hkC'⟩, ?_, ?_⟩
        · exact ⟨kE', hkE'⟩
        · show vm₁.assignable _ _ = true
          rw [hal.assignable, g2, ← eq1, ← eq2]
          exact qf3)
    (g := F0 m pc ls (.int n :: .int dp :: .ref (ad b) :: .int sp :: .ref (ad a) :: rest)) rfl (by rw [hml]; exact hl.1) (rest := rest) rfl (by rw [hb]; exact hdg) hframes (by show 2 * 0 + _ + _ ≤ _; omega)
  have e1 : copied (vp_cell (cy 15) (m_L S a, .inr (.inr (.inr (.inr f))))) (vp_cell (cy 15) (m_L S b, .inr (.inr (.inr (.inr g))))) sp dp n = vp_cell (cy 15) (m_L S b, .inr (.inr (.inr (.inr (va_cpy f g sp.toNatClampNeg dp.toNatClampNeg n.toNatClampNeg))))) := by
    rw [vp_cell_q, vp_cell_q, vp_cell_q]
    exact va_copied (fun z => va_rf z) (cy 15) (cy 15) f g h4
  rw [e1] at X' step
  have hl2 : ad b < H.size := (Array.getElem?_eq_some_iff.mp hc1).1
  have hcp : va_cpy f g sp.toNatClampNeg dp.toNatClampNeg n.toNatClampNeg = fun x => (va_cpy (m_P S a) (m_P S b) sp.toNatClampNeg dp.toNatClampNeg n.toNatClampNeg x).map ad := by
    funext x
    unfold va_cpy
    by_cases hx2 : dp.toNatClampNeg ≤ x ∧ x < dp.toNatClampNeg + n.toNatClampNeg
    · rw [if_pos hx2, if_pos hx2, ← hf]
    · rw [if_neg hx2, if_neg hx2, ← hgg]
  generalize hY : vp_cell (cy 15) (m_L S b, .inr (.inr (.inr (.inr (va_cpy f g sp.toNatClampNeg dp.toNatClampNeg n.toNatClampNeg))))) = Y at X' step
  have hheap : ((T.setVm vm').setCell (ad b) Y).heap = H.setIfInBounds (ad b) Y := by rw [← hT]; rfl
  obtain ⟨t, a1, b1⟩ := kk _ _ (M.updL (S' := m_sP S b (va_cpy (m_P S a) (m_P S b) sp.toNatClampNeg dp.toNatClampNeg n.toNatClampNeg)) (H1 := H.setIfInBounds (ad b) Y) b0 bn rfl (fun x hx => m_sP_o hx) (by
      rw [m_ce_ref (S := m_sP S b _) (kd := 15) bK (by decide), m_sP_s]
      show (H.setIfInBounds (ad b) Y)[ad b]? = some (vp_cell (cy 15) (m_L S b, .inr (.inr (.inr (.inr (fun x => (va_cpy (m_P S a) (m_P S b) sp.toNatClampNeg dp.toNatClampNeg n.toNatClampNeg x).map ad))))))
      rw [← hcp, hY]
      simp [Array.getElem?_setIfInBounds, hl2]) (by simp) (fun q hq => by simp [Array.getElem?_setIfInBounds, Ne.symm hq]) (fun q hq => by
      obtain ⟨z, -, hz⟩ := List.mem_map.mp hq
      rw [← hz])) _ hheap X'
  exact ⟨t, step t a1, b1⟩
theorem k_lnE (C0 : CX p s m args meth c own cc nL D cy) (hE : EX ad A s) (M : ST D cy ad A s.heap zz S H locs) {a : Nat} {v : Int32} (hg : o_lnE S a = some v) (hdg : decode cc pc = .ok (.arraylength, 1))
    (kk : W p l e R s m args below meth c H locs cells slots Q (F0 m (pc + 1) ls (.int v :: rest))) : W p l e R s m args below meth c H locs cells slots Q (F0 m pc ls (.ref (ad a) :: rest)) := by
  unfold o_lnE at hg
  by_cases ha : a = 0
  · rw [if_pos ha] at hg
    cases hg
    subst ha
    obtain ⟨hx, hb, -⟩ := C0
    obtain ⟨cell, h1, h2, h3, h4, h5, h6⟩ := hE.2.1.kept M.2.1.2.1
    exact W.alen hx hb h1 h2 h5 (g := F0 m pc ls (.ref (ad 0) :: rest)) rfl rfl hdg kk
  · rw [if_neg ha] at hg
    exact k_lnQ C0 M.1 hg hdg kk
theorem k_gs (C0 : CX p s m args meth c own cc nL D cy) (hE : EX ad A s) (M : ST D cy ad A s.heap zz S H locs) {index : Nat} (hl : Cond.fieldLink own index "java/util/ArrayList" "DEFAULTCAPACITY_EMPTY_ELEMENTDATA" "[Ljava/lang/Object;" ∈ UW) (hdg : decode cc pc = .ok (.getstatic index, 3))
    (kk : W p l e R s m args below meth c H locs cells slots Q (F0 m (pc + 3) ls (.ref (ad 0) :: rest))) : W p l e R s m args below meth c H locs cells slots Q (F0 m pc ls rest) := by
  obtain ⟨hx, hb, -, hown, hG, hts, -⟩ := C0
  exact va_gets hx hb hE.1 M.2.1 hown (hts _ hl) (fun _ h => h) hdg kk
theorem k_ad0 (hE : EX ad A s) (hA : ∀ k, 0 < k → A (ad k)) {a : Nat} (h : ad a = ad 0) : a = 0 := by
  rcases Nat.eq_zero_or_pos a with h0 | h0
  · exact h0
  · exact absurd (by rw [← h]; exact hA a h0) hE.2.1.out
theorem k_ane (C0 : CX p s m args meth c own cc nL D cy) (hE : EX ad A s) (hA : ∀ k, 0 < k → A (ad k)) {a tgt : Nat} {off : Int} (hdg : decode cc pc = .ok (.if_acmp .eq off, 3)) (ht : (pc : Int) + off = (tgt : Int))
    (kt : a = 0 → W p l e R s m args below meth c H locs cells slots Q (F0 m tgt ls rest)) (kf : ¬ a = 0 → W p l e R s m args below meth c H locs cells slots Q (F0 m (pc + 3) ls rest)) : W p l e R s m args below meth c H locs cells slots Q (F0 m pc ls (.ref (ad 0) :: .ref (ad a) :: rest)) := by
  obtain ⟨hx, hb, -⟩ := C0
  exact lv_acmp_eq (rx := some (ad a)) (ry := some (ad 0)) hx hb hdg ht (fun h => kt (k_ad0 hE hA (Option.some.inj h))) (fun h => kf (fun e => h (by rw [e])))
theorem k_stO (C0 : CX p s m args meth c own cc nL D cy) (M : ST D cy ad A H0 zz S H locs) {S' : MS} {a v : Nat} {i : Int32} (hg : o_stO S a i v = some S') (hdg : decode cc pc = .ok (.aastore, 1))
    (kk : ∀ (H1 : Heap) (locs1 : List Loc), ST D cy ad A H0 zz S' H1 locs1 → W p l e R s m args below meth c H1 locs1 cells slots Q (F0 m (pc + 1) ls rest)) : W p l e R s m args below meth c H locs cells slots Q (F0 m pc ls (.ref (ad v) :: .int i :: .ref (ad a) :: rest)) := by
  obtain ⟨⟨⟨h1, h2, h3, h4⟩, h5⟩, e1⟩ := o_if hg
  have hk : o_okk (m_K S v) := h4
  obtain ⟨C, TC, NC, hcl, hkv12, hcast⟩ := k_okk hk
  refine k_stP (kd := 15) (kv := m_K S v) 3 C0 M (by decide) rfl hkv12 hcl (Or.inr hcast) ?_ hdg kk
  unfold o_stP
  rw [if_pos ⟨⟨h1, h2, h3, rfl⟩, h5⟩, e1]
theorem k_stN (C0 : CX p s m args meth c own cc nL D cy) (M : ST D cy ad A H0 zz S H locs) {S' : MS} {a : Nat} {i : Int32} (hg : o_stN S a i = some S') (hdg : decode cc pc = .ok (.aastore, 1))
    (kk : ∀ (H1 : Heap) (locs1 : List Loc), ST D cy ad A H0 zz S' H1 locs1 → W p l e R s m args below meth c H1 locs1 cells slots Q (F0 m (pc + 1) ls rest)) : W p l e R s m args below meth c H locs cells slots Q (F0 m pc ls (.null :: .int i :: .ref (ad a) :: rest)) := by
  obtain ⟨hx, hb, -, hown, hG, hts, -⟩ := C0
  obtain ⟨⟨⟨h0, hn, hK⟩, hin⟩, e1⟩ := o_if hg
  subst e1
  have he := m_ws_at (cy := cy) (ad := ad) h0 hn
  rw [m_ce_ref hK (by decide)] at he
  have hc := M.1.1 _ _ he
  refine va_WaastN hx hb hc ((hG.1.2 3 _ rfl).1 _ _) (fun q => by cases q) (by show ¬ (i < 0 ∨ (arrV _ _ _).slots.size ≤ _); rw [arrV_size]; exact hin) rfl rfl hdg fun H1 e z oq => ?_
  refine kk H1 _ (M.upd (S' := m_sP S a (va_up (m_P S a) i.toNatClampNeg none)) (e0 := .inl (0, 0, .inl (fun _ => 0))) h0 hn rfl (fun b hb => m_sP_o hb) ?_ z oq)
  rw [m_ce_ref (S := m_sP S a _) (kd := 15) hK (by decide), m_sP_s]
  show H1[ad a]? = some (vp_cell (cy 15) (m_L S a, .inr (.inr (.inr (.inr (fun x => (va_up (m_P S a) i.toNatClampNeg none x).map ad))))))
  rw [e, vp_cell_q, vp_cell_q, arrV_store]
  congr 2
  funext q
  by_cases hq : q = i.toNatClampNeg
  · subst hq
    simp [updV, va_up, va_rf]
  · simp [updV, va_up, hq]
end KR
