theorem vtI {α : Type} {x y : α} (h : some x = some y) : x = y := Option.some.inj h
def fc : FieldType → Nat
  | .int => 0
  | .boolean => 0
  | .long => 1
  | .object _ => 2
  | .array _ => 2
  | _ => 9
theorem fc_dv {ty : FieldType} {t : Nat} (h : fc ty = t) (h2 : t ≠ 9) (ad : Nat → Nat) (k : Nat) : defaultValue ty = c_fv ad (fun _ => 0) (fun _ => 0) (fun _ => none) k t := by
  cases ty <;> simp [fc] at h <;> subst h <;> first | rfl | exact absurd rfl h2
/-- a class's making -/
def NWF (own : String) (index ci N : Nat) : Prop := ∃ (C : String) (T : u_T) (ty0 : Nat → FieldType), vwCl[ci]? = some (C, T, N) ∧ (∀ w ∈ u_ws C T N, w ∈ UW) ∧ (∀ x, x < N → parseFieldDescriptor (T x).2.2.1 = some (ty0 x)) ∧ (KF ci).length = N ∧ (∀ j, j < N → (KF ci)[j]? = some (fc (ty0 j)) ∧ fc (ty0 j) ≠ 9) ∧
  Cond.classLink own index C ∈ UW ∧ Cond.instantiable C N ∈ UW ∧ Cond.initialized C ∈ UW ∧ ci < 12
def ZA (ad : Nat → Nat) (K0 : Nat) : Nat → Nat → Prop := fun n h => h = ad (n + 1) ∧ K0 ≤ n
def ZN (n0 h0 : Nat) : Nat → Nat → Prop := fun n h => n = n0 ∧ h = h0
section KR
variable {p : Program} {l : Launch} {e : Env} {R : Room} {s : State} {m : MethodId} {args : Array Value} {below : List Frame} {meth : Method} {c : Code} {H : Heap} {locs : List Loc} {cells slots : Nat} {Q : State → Prop}
variable {cc : ByteArray} {pc nL : Nat} {ls : Array Slot} {rest : List Value} {D : va_G} {cy : Nat → ClassId} {ad : Nat → Nat} {A : Nat → Prop} {H0 : Heap} {S : MS} {own : String} {zz : Nat → Nat → Prop} {K0 : Nat}
theorem vtop {v v' : Value} (h : v = v') (k : W p l e R s m args below meth c H locs cells slots Q (F0 m pc ls (v' :: rest))) : W p l e R s m args below meth c H locs cells slots Q (F0 m pc ls (v :: rest)) := h ▸ k
theorem vtopi {x y : Int32} (h : x = y) (k : W p l e R s m args below meth c H locs cells slots Q (F0 m pc ls (.int y :: rest))) : W p l e R s m args below meth c H locs cells slots Q (F0 m pc ls (.int x :: rest)) := h ▸ k
theorem vtopl {x y : Int64} (h : x = y) (k : W p l e R s m args below meth c H locs cells slots Q (F0 m pc ls (.long y :: rest))) : W p l e R s m args below meth c H locs cells slots Q (F0 m pc ls (.long x :: rest)) := h ▸ k
theorem k_sI (C0 : CX p s m args meth c own cc nL D cy) (M : ST D cy ad A H0 zz S H locs) {S' : MS} {a ci k index : Nat} {v : Int32} (hg : o_sI S a ci k v = some S') (hf : FL own index ci k 0 .int 0) (hdg : decode cc pc = .ok (.putfield index, 3))
    (kk : ∀ (H1 : Heap) (locs1 : List Loc), ST D cy ad A H0 zz S' H1 locs1 → W p l e R s m args below meth c H1 locs1 cells slots Q (F0 m (pc + 3) ls rest)) : W p l e R s m args below meth c H locs cells slots Q (F0 m pc ls (.int v :: .ref (ad a) :: rest)) := by
  obtain ⟨hm, e1⟩ := o_if hg
  subst e1
  have hkf : (KF ci)[k]? = some 0 := by obtain ⟨C, ref, T, N, ty0, -, -, -, -, -, h, -⟩ := hf; exact h
  refine k_put (S' := m_sI S a (upd (m_I S a) k v)) C0 M hm rfl hm.2.2 (fun b hb => m_sI_o hb) (fun y t hy => ?_) hf rfl rfl hdg kk
  rw [m_sI_s]
  by_cases e : y = k
  · subst e
    rw [hkf] at hy
    cases hy
    simp [c_fv, upd]
  · rw [if_neg e]
    simp [c_fv, upd, e, m_sI, m_J, m_P]
theorem k_sZ (C0 : CX p s m args meth c own cc nL D cy) (M : ST D cy ad A H0 zz S H locs) {S' : MS} {a ci k index : Nat} {v : Int32} (hz : o_zb v = some v) (hg : o_sI S a ci k v = some S') (hf : FL own index ci k 0 .boolean 0) (hdg : decode cc pc = .ok (.putfield index, 3))
    (kk : ∀ (H1 : Heap) (locs1 : List Loc), ST D cy ad A H0 zz S' H1 locs1 → W p l e R s m args below meth c H1 locs1 cells slots Q (F0 m (pc + 3) ls rest)) : W p l e R s m args below meth c H locs cells slots Q (F0 m pc ls (.int v :: .ref (ad a) :: rest)) := by
  obtain ⟨hm, e1⟩ := o_if hg
  obtain ⟨hv, -⟩ := o_if hz
  subst e1
  have hkf : (KF ci)[k]? = some 0 := by obtain ⟨C, ref, T, N, ty0, -, -, -, -, -, h, -⟩ := hf; exact h
  refine k_put (S' := m_sI S a (upd (m_I S a) k v)) C0 M hm rfl hm.2.2 (fun b hb => m_sI_o hb) (fun y t hy => ?_) hf (by rcases hv with rfl | rfl <;> rfl) (by rcases hv with rfl | rfl <;> rfl) hdg kk
  rw [m_sI_s]
  by_cases e : y = k
  · subst e
    rw [hkf] at hy
    cases hy
    simp [c_fv, upd]
  · rw [if_neg e]
    simp [c_fv, upd, e, m_sI, m_J, m_P]
theorem k_sJ (C0 : CX p s m args meth c own cc nL D cy) (M : ST D cy ad A H0 zz S H locs) {S' : MS} {a ci k index : Nat} {v : Int64} (hg : o_sJ S a ci k v = some S') (hf : FL own index ci k 1 .long 0) (hdg : decode cc pc = .ok (.putfield index, 3))
    (kk : ∀ (H1 : Heap) (locs1 : List Loc), ST D cy ad A H0 zz S' H1 locs1 → W p l e R s m args below meth c H1 locs1 cells slots Q (F0 m (pc + 3) ls rest)) : W p l e R s m args below meth c H locs cells slots Q (F0 m pc ls (.long v :: .ref (ad a) :: rest)) := by
  obtain ⟨hm, e1⟩ := o_if hg
  subst e1
  have hkf : (KF ci)[k]? = some 1 := by obtain ⟨C, ref, T, N, ty0, -, -, -, -, -, h, -⟩ := hf; exact h
  refine k_put (S' := m_sJ S a (va_up (m_J S a) k v)) C0 M hm rfl hm.2.2 (fun b hb => m_sJ_o hb) (fun y t hy => ?_) hf rfl rfl hdg kk
  rw [m_sJ_s]
  by_cases e : y = k
  · subst e
    rw [hkf] at hy
    cases hy
    simp [c_fv, va_up]
  · rw [if_neg e]
    simp [c_fv, va_up, e, m_sJ, m_I, m_P]
theorem k_sP (C0 : CX p s m args meth c own cc nL D cy) (M : ST D cy ad A H0 zz S H locs) {S' : MS} {a ci k index v : Nat} {ty : FieldType} (hty : fc ty = 2) (hg : o_sP S a ci k v = some S') (hf : FL own index ci k 2 ty 0) (hdg : decode cc pc = .ok (.putfield index, 3))
    (kk : ∀ (H1 : Heap) (locs1 : List Loc), ST D cy ad A H0 zz S' H1 locs1 → W p l e R s m args below meth c H1 locs1 cells slots Q (F0 m (pc + 3) ls rest)) : W p l e R s m args below meth c H locs cells slots Q (F0 m pc ls (.ref (ad v) :: .ref (ad a) :: rest)) := by
  obtain ⟨hm, e1⟩ := o_if hg
  subst e1
  have hkf : (KF ci)[k]? = some 2 := by obtain ⟨C, ref, T, N, ty0, -, -, -, -, -, h, -⟩ := hf; exact h
  refine k_put (S' := m_sP S a (va_up (m_P S a) k (some v))) C0 M hm rfl hm.2.2 (fun b hb => m_sP_o hb) (fun y t hy => ?_) hf (by cases ty <;> simp [fc] at hty <;> rfl) (by cases ty <;> simp [fc] at hty <;> rfl) hdg kk
  rw [m_sP_s]
  by_cases e : y = k
  · subst e
    rw [hkf] at hy
    cases hy
    simp [c_fv, va_up, va_re, va_rf]
  · rw [if_neg e]
    simp [c_fv, va_up, e, m_sP, m_I, m_J]
theorem k_sIF (C0 : CX p s m args meth c own cc nL D cy) (M : ST D cy ad A H0 zz S H locs) {S' : MS} {a ci k index : Nat} {v : Int32} (hin2 : meth.name = "<init>") (hg : o_sI S a ci k v = some S') (hf : FL own index ci k 0 .int 1) (hdg : decode cc pc = .ok (.putfield index, 3))
    (kk : ∀ (H1 : Heap) (locs1 : List Loc), ST D cy ad A H0 zz S' H1 locs1 → W p l e R s m args below meth c H1 locs1 cells slots Q (F0 m (pc + 3) ls rest)) : W p l e R s m args below meth c H locs cells slots Q (F0 m pc ls (.int v :: .ref (ad a) :: rest)) := by
  obtain ⟨hm, e1⟩ := o_if hg
  subst e1
  have hkf : (KF ci)[k]? = some 0 := by obtain ⟨C, ref, T, N, ty0, -, -, -, -, -, h, -⟩ := hf; exact h
  refine k_putF (S' := m_sI S a (upd (m_I S a) k v)) C0 M hm rfl hm.2.2 (fun b hb => m_sI_o hb) (fun y t hy => ?_) hf hin2 rfl rfl hdg kk
  rw [m_sI_s]
  by_cases e : y = k
  · subst e
    rw [hkf] at hy
    cases hy
    simp [c_fv, upd]
  · rw [if_neg e]
    simp [c_fv, upd, e, m_sI, m_J, m_P]
theorem k_sPF (C0 : CX p s m args meth c own cc nL D cy) (M : ST D cy ad A H0 zz S H locs) {S' : MS} {a ci k index v : Nat} {ty : FieldType} (hin2 : meth.name = "<init>") (hty : fc ty = 2) (hg : o_sP S a ci k v = some S') (hf : FL own index ci k 2 ty 1) (hdg : decode cc pc = .ok (.putfield index, 3))
    (kk : ∀ (H1 : Heap) (locs1 : List Loc), ST D cy ad A H0 zz S' H1 locs1 → W p l e R s m args below meth c H1 locs1 cells slots Q (F0 m (pc + 3) ls rest)) : W p l e R s m args below meth c H locs cells slots Q (F0 m pc ls (.ref (ad v) :: .ref (ad a) :: rest)) := by
  obtain ⟨hm, e1⟩ := o_if hg
  subst e1
  have hkf : (KF ci)[k]? = some 2 := by obtain ⟨C, ref, T, N, ty0, -, -, -, -, -, h, -⟩ := hf; exact h
  refine k_putF (S' := m_sP S a (va_up (m_P S a) k (some v))) C0 M hm rfl hm.2.2 (fun b hb => m_sP_o hb) (fun y t hy => ?_) hf hin2 (by cases ty <;> simp [fc] at hty <;> rfl) (by cases ty <;> simp [fc] at hty <;> rfl) hdg kk
  rw [m_sP_s]
  by_cases e : y = k
  · subst e
    rw [hkf] at hy
    cases hy
    simp [c_fv, va_up, va_re, va_rf]
  · rw [if_neg e]
    simp [c_fv, va_up, e, m_sP, m_I, m_J]
theorem k_ld (C0 : CX p s m args meth c own cc nL D cy) (M : MW D cy ad A S H) {a : Nat} {i v : Int32} (hg : o_ld S a 12 i = some v) (hdg : decode cc pc = .ok (.iaload, 1))
    (kk : W p l e R s m args below meth c H locs cells slots Q (F0 m (pc + 1) ls (.int v :: rest))) : W p l e R s m args below meth c H locs cells slots Q (F0 m pc ls (.int i :: .ref (ad a) :: rest)) := by
  obtain ⟨hx, hb, -, hown, hG, hts, -⟩ := C0
  obtain ⟨⟨⟨h0, hn, hK⟩, hin⟩, e1⟩ := o_if hg
  subst e1
  have he := m_ws_at (cy := cy) (ad := ad) h0 hn
  rw [m_ce_int hK (by decide) (by decide)] at he
  exact va_iald hx hb hG.1 M.1 (a - 1) 0 he rfl hin hdg kk
theorem k_ldZ (C0 : CX p s m args meth c own cc nL D cy) (M : MW D cy ad A S H) {a : Nat} {i v : Int32} (hg : o_ld S a 13 i = some v) (hdg : decode cc pc = .ok (.baload, 1))
    (kk : W p l e R s m args below meth c H locs cells slots Q (F0 m (pc + 1) ls (.int v :: rest))) : W p l e R s m args below meth c H locs cells slots Q (F0 m pc ls (.int i :: .ref (ad a) :: rest)) := by
  obtain ⟨hx, hb, -, hown, hG, hts, -⟩ := C0
  obtain ⟨⟨⟨h0, hn, hK⟩, hin⟩, e1⟩ := o_if hg
  subst e1
  have he := m_ws_at (cy := cy) (ad := ad) h0 hn
  rw [m_ce_int hK (by decide) (by decide)] at he
  exact va_zald hx hb hG.1 M.1 (a - 1) 1 he rfl hin hdg kk
theorem k_ln (C0 : CX p s m args meth c own cc nL D cy) (M : MW D cy ad A S H) {a : Nat} {v : Int32} (hg : o_ln S a 12 = some v) (hdg : decode cc pc = .ok (.arraylength, 1))
    (kk : W p l e R s m args below meth c H locs cells slots Q (F0 m (pc + 1) ls (.int v :: rest))) : W p l e R s m args below meth c H locs cells slots Q (F0 m pc ls (.ref (ad a) :: rest)) := by
  obtain ⟨hx, hb, -, hown, hG, hts, -⟩ := C0
  obtain ⟨⟨h0, hn, hK⟩, e1⟩ := o_if hg
  have he := m_ws_at (cy := cy) (ad := ad) h0 hn
  rw [m_ce_int hK (by decide) (by decide)] at he
  exact va_alen hx hb hG.1 M.1 (a - 1) 0 he (ty := .int) rfl e1 hdg kk
theorem k_lnQ (C0 : CX p s m args meth c own cc nL D cy) (M : MW D cy ad A S H) {a : Nat} {v : Int32} (hg : o_ln S a 15 = some v) (hdg : decode cc pc = .ok (.arraylength, 1))
    (kk : W p l e R s m args below meth c H locs cells slots Q (F0 m (pc + 1) ls (.int v :: rest))) : W p l e R s m args below meth c H locs cells slots Q (F0 m pc ls (.ref (ad a) :: rest)) := by
  obtain ⟨hx, hb, -, hown, hG, hts, -⟩ := C0
  obtain ⟨⟨h0, hn, hK⟩, e1⟩ := o_if hg
  have he := m_ws_at (cy := cy) (ad := ad) h0 hn
  rw [m_ce_ref hK (by decide)] at he
  exact va_alen hx hb hG.1 M.1 (a - 1) 3 he (ty := .object "java/lang/Object") rfl e1 hdg kk
theorem k_ldP {ty : FieldType} (t0 : Nat) {kd : Nat} (C0 : CX p s m args meth c own cc nL D cy) (M : MW D cy ad A S H) {a v : Nat} {i : Int32} (hkd : 14 ≤ kd) (hty : ty.isReference = true) (ht : (m_tys cy)[t0]? = some (cy kd, ty)) (hg : o_ldP S a kd i = some v) (hdg : decode cc pc = .ok (.aaload, 1))
    (kk : W p l e R s m args below meth c H locs cells slots Q (F0 m (pc + 1) ls (.ref (ad v) :: rest))) : W p l e R s m args below meth c H locs cells slots Q (F0 m pc ls (.int i :: .ref (ad a) :: rest)) := by
  obtain ⟨hx, hb, -, hown, hG, hts, -⟩ := C0
  obtain ⟨⟨⟨h0, hn, hK⟩, hin⟩, e1⟩ := o_if2 hg
  have he := m_ws_at (cy := cy) (ad := ad) h0 hn
  rw [m_ce_ref hK hkd] at he
  have hlt : i.toNatClampNeg < m_L S a := Nat.not_le.mp fun q => hin (Or.inr q)
  have hc := M.1 _ _ he
  refine W.aald (v := .ref (ad v)) (ty := ty) hx hb hc ((hG.1.2 t0 _ ht).1 _ _) hty (fun q => by cases q) (by show ¬ (i < 0 ∨ (arrV _ _ _).slots.size ≤ _); rw [arrV_size]; exact hin) ?_ rfl rfl hdg kk
  show (arrV _ _ _).slots[_]? = _
  rw [arrV_read _ _ hlt]
  show some (va_rf ((m_P S a i.toNatClampNeg).map ad)) = _
  rw [e1]
  rfl
theorem k_st (C0 : CX p s m args meth c own cc nL D cy) (M : ST D cy ad A H0 zz S H locs) {S' : MS} {a : Nat} {i v : Int32} (hg : o_st S a 12 i v = some S') (hdg : decode cc pc = .ok (.iastore, 1))
    (kk : ∀ (H1 : Heap) (locs1 : List Loc), ST D cy ad A H0 zz S' H1 locs1 → W p l e R s m args below meth c H1 locs1 cells slots Q (F0 m (pc + 1) ls rest)) : W p l e R s m args below meth c H locs cells slots Q (F0 m pc ls (.int v :: .int i :: .ref (ad a) :: rest)) := by
  obtain ⟨hx, hb, -, hown, hG, hts, -⟩ := C0
  obtain ⟨⟨⟨h0, hn, hK⟩, hin⟩, e1⟩ := o_if hg
  subst e1
  have he := m_ws_at (cy := cy) (ad := ad) h0 hn
  rw [m_ce_int hK (by decide) (by decide)] at he
  have hc := M.1.1 _ _ he
  refine W.iast hx hb hc ((hG.1.2 0 _ rfl).1 _ _) (fun q => by cases q) (by show ¬ (i < 0 ∨ (arrV _ _ _).slots.size ≤ _); rw [arrV_size]; exact hin) rfl rfl hdg fun H1 e z oq => ?_
  refine kk H1 _ (M.upd (S' := m_sI S a (upd (m_I S a) i.toNatClampNeg v)) (e0 := .inl (0, 0, .inl (fun _ => 0))) h0 hn rfl (fun b hb => m_sI_o hb) ?_ z oq)
  rw [m_ce_int (S := m_sI S a _) (kd := 12) hK (by decide) (by decide), m_sI_s]
  show H1[ad a]? = some (vp_cell (cy 12) (m_L S a, .inl (upd (m_I S a) i.toNatClampNeg v)))
  rw [e, vp_cell_i, vp_cell_i, arrV_store]
  congr 2
  funext q
  by_cases hq : q = i.toNatClampNeg
  · subst hq
    simp [updV, upd]
  · simp [updV, upd, hq]
theorem k_stZ (C0 : CX p s m args meth c own cc nL D cy) (M : ST D cy ad A H0 zz S H locs) {S' : MS} {a : Nat} {i v : Int32} (hz : o_zb v = some v) (hg : o_st S a 13 i v = some S') (hdg : decode cc pc = .ok (.bastore, 1))
    (kk : ∀ (H1 : Heap) (locs1 : List Loc), ST D cy ad A H0 zz S' H1 locs1 → W p l e R s m args below meth c H1 locs1 cells slots Q (F0 m (pc + 1) ls rest)) : W p l e R s m args below meth c H locs cells slots Q (F0 m pc ls (.int v :: .int i :: .ref (ad a) :: rest)) := by
  obtain ⟨hx, hb, -, hown, hG, hts, -⟩ := C0
  obtain ⟨⟨⟨h0, hn, hK⟩, hin⟩, e1⟩ := o_if hg
  obtain ⟨hv, -⟩ := o_if hz
  have hnv : narrow .boolean (.int v) = .int v := by rcases hv with rfl | rfl <;> rfl
  subst e1
  have he := m_ws_at (cy := cy) (ad := ad) h0 hn
  rw [m_ce_int hK (by decide) (by decide)] at he
  have hc := M.1.1 _ _ he
  refine W.zast hx hb hc ((hG.1.2 1 _ rfl).1 _ _) (fun q => by cases q) (by show ¬ (i < 0 ∨ (arrV _ _ _).slots.size ≤ _); rw [arrV_size]; exact hin) rfl rfl hdg fun H1 e z oq => ?_
  refine kk H1 _ (M.upd (S' := m_sI S a (upd (m_I S a) i.toNatClampNeg v)) (e0 := .inl (0, 0, .inl (fun _ => 0))) h0 hn rfl (fun b hb => m_sI_o hb) ?_ z oq)
  rw [m_ce_int (S := m_sI S a _) (kd := 13) hK (by decide) (by decide), m_sI_s]
  show H1[ad a]? = some (vp_cell (cy 13) (m_L S a, .inl (upd (m_I S a) i.toNatClampNeg v)))
  rw [e, hnv, vp_cell_i, vp_cell_i, arrV_store]
  congr 2
  funext q
  by_cases hq : q = i.toNatClampNeg
  · subst hq
    simp [updV, upd]
  · simp [updV, upd, hq]
/-- a store of a reference into an array of references; the component's class may be told by castable, or by being the same -/
theorem k_stP (t0 : Nat) {C Ck : String} {kd kv : Nat} {T : u_T} {N : Nat} (C0 : CX p s m args meth c own cc nL D cy) (M : ST D cy ad A H0 zz S H locs) {S' : MS} {a v : Nat} {i : Int32} (hkd : 14 ≤ kd) (ht : (m_tys cy)[t0]? = some (cy kd, .object C)) (hkv : kv < 12) (hcl : vwCl[kv]? = some (Ck, T, N)) (hcast : Ck = C ∨ Cond.castable Ck C ∈ UW) (hg : o_stP S a kd i v kv = some S') (hdg : decode cc pc = .ok (.aastore, 1))
    (kk : ∀ (H1 : Heap) (locs1 : List Loc), ST D cy ad A H0 zz S' H1 locs1 → W p l e R s m args below meth c H1 locs1 cells slots Q (F0 m (pc + 1) ls rest)) : W p l e R s m args below meth c H locs cells slots Q (F0 m pc ls (.ref (ad v) :: .int i :: .ref (ad a) :: rest)) := by
  obtain ⟨hx, hb, -, hown, hG, hts, -⟩ := C0
  obtain ⟨⟨⟨⟨h0, hn, hK⟩, h0v, hnv, hKv⟩, hin⟩, e1⟩ := o_if hg
  subst e1
  have hlt : i.toNatClampNeg < m_L S a := Nat.not_le.mp fun q => hin (Or.inr q)
  have hi0 : ¬ i < 0 := fun q => hin (Or.inl q)
  have he := m_ws_at (cy := cy) (ad := ad) h0 hn
  rw [m_ce_ref hK hkd] at he
  have hev := m_ws_at (cy := cy) (ad := ad) h0v hnv
  rw [m_ce_obj hKv hkv] at hev
  have hc := M.1.1 _ _ he
  obtain ⟨r', hr', cellV, g1, g2, g3, -⟩ := M.1.1 _ _ hev
  have hcls := (hG.1.1 kv _ hcl).2
  obtain ⟨kA, comp, k1, k2, k3, -⟩ := (hG.1.2 t0 _ ht).2
  obtain ⟨kC, hkC, -⟩ := hcls.2
  have has : s.vm.assignable (D.1 kv) comp = true ∧ ∃ kc : Class, s.vm.classes[comp]? = some kc := by
    rcases hcast with h | h
    · subst h
      have hcomp : comp = D.1 kv := Option.some.inj (k3.symm.trans hcls.1)
      subst hcomp
      exact ⟨va_assign hcls, kC, hkC⟩
    · obtain ⟨c1, c2, f1, f2, f3⟩ := Cond.castable_spec (hts _ h)
      have e1 : c1 = D.1 kv := Option.some.inj (f1.symm.trans hcls.1)
      have e2 : c2 = comp := Option.some.inj (f2.symm.trans k3)
      subst e1 e2
      exact ⟨f3, (Vm.findClass_spec f2).imp fun _ h => h.1⟩
  obtain ⟨has, kc, hkc⟩ := has
  refine W.aast hx hb hc (fun q h => by cases h) (fun h => by cases h) k1 k2 rfl hkc ⟨hi0, by show _ < (arrV _ _ _).slots.size; rw [arrV_size]; exact hlt⟩ g1 (fun q h => by rw [g3] at h; cases h) (by rw [g2]; exact hkC) (by rw [g2]; exact has) rfl rfl hdg fun H1 e z oq => ?_
  refine kk H1 _ (M.upd (S' := m_sP S a (va_up (m_P S a) i.toNatClampNeg (some v))) (e0 := .inl (0, 0, .inl (fun _ => 0))) h0 hn rfl (fun b hb => m_sP_o hb) ?_ z oq)
  rw [m_ce_ref (S := m_sP S a _) (kd := kd) hK hkd, m_sP_s]
  show H1[ad a]? = some (vp_cell (cy kd) (m_L S a, .inr (.inr (.inr (.inr (fun x => (va_up (m_P S a) i.toNatClampNeg (some v) x).map ad))))))
  rw [e, vp_cell_q, vp_cell_q, arrV_store]
  congr 2
  funext q
  by_cases hq : q = i.toNatClampNeg
  · subst hq
    simp [updV, va_up, va_rf]
  · simp [updV, va_up, hq]
theorem k_is (hM : MW D cy ad A S H) (hG : GK D cy s) {a kd b : Nat} {C : String} {T : u_T} {N : Nat} (hk : kd < 12) (hc : vwCl[kd]? = some (C, T, N)) (hg : 0 < a ∧ a ≤ m_n S ∧ m_K S a = kd) : ∃ cell : Cell, H[ad a]? = some cell ∧ cell.vm.isStatics = false ∧ s.vm.findClass C = some cell.cls := by
  obtain ⟨h0, hn, hK⟩ := hg
  have he := m_ws_at (cy := cy) (ad := ad) h0 hn
  rw [m_ce_obj hK hk] at he
  exact va_recv hG.1 hM.1 hc he
theorem k_cast (C0 : CX p s m args meth c own cc nL D cy) (M : MW D cy ad A S H) {a kd v index : Nat} {C : String} {T : u_T} {N : Nat} (hg : o_is S a kd = some v) (hk : kd < 12) (hc : vwCl[kd]? = some (C, T, N)) (hl : Cond.classLink own index C ∈ UW) (hdg : decode cc pc = .ok (.checkcast index, 3))
    (kk : W p l e R s m args below meth c H locs cells slots Q (F0 m (pc + 3) ls (.ref (ad v) :: rest))) : W p l e R s m args below meth c H locs cells slots Q (F0 m pc ls (.ref (ad a) :: rest)) := by
  obtain ⟨hx, hb, -, hown, hG, hts, -⟩ := C0
  obtain ⟨hm, e1⟩ := o_if hg
  subst e1
  exact va_castS hx hb hown (hts _ hl) (hG.1.1 kd _ hc).2 (k_is M hG (b := 0) hk hc hm) hdg kk
theorem ST.new {k ln : Nat} {H1 : Heap} (h : ST D cy ad A H0 (ZA ad K0) S H locs) (hA : ∀ k, 0 < k → A (ad k)) (he : va_at D vwCl (H.size, c_ce cy ad k ln (fun _ => 0) (fun _ => 0) (fun _ => none)) H1) (hz : H1.size = H.size + 1) (hs : ad (m_n S + 1) + 1 = ad (m_n S + 2)) (oq : ∀ q : Nat, q < H.size → H1[q]? = H[q]?) : ST D cy ad A H0 (ZA ad K0) (m_new S k ln) H1 locs := by
  obtain ⟨⟨hP, hD⟩, hV, hzz⟩ := h
  have hzz' : H.size = ad (m_n S + 1) := hzz.1
  have hk : ∀ (k : Nat) (x : Nat × va_E), (m_ws cy ad S)[k]? = some x → H1[x.1]? = H[x.1]? := fun k x hx => oq x.1 ((hP k x hx).lt)
  refine ⟨⟨?_, ?_⟩, ?_, ?_⟩
  · rw [m_ws_new, ← hzz']
    refine (hP.kept hk).app (fun k x hx => ?_)
    have hz : k < 1 := (List.getElem?_eq_some_iff.mp hx).1
    rw [show k = 0 by omega] at hx
    cases hx
    exact he
  · rw [m_ws_new, ← hzz']
    exact hD.push hP rfl (by rw [hzz']; exact hA _ (by omega))
  · exact ⟨Nat.le_trans hV.1 (by omega), fun x h1 h2 => (oq x (Nat.lt_of_lt_of_le h1 hV.1)).trans (hV.2.1 x h1 h2), hV.2.2⟩
  · refine ⟨?_, Nat.le_succ_of_le hzz.2⟩
    show H1.size = ad (m_n S + 1 + 1)
    rw [hz, hzz', hs]
theorem k_new (C0 : CX p s m args meth c own cc nL D cy) (M : ST D cy ad A H0 (ZA ad K0) S H locs) (hA : ∀ k, 0 < k → A (ad k)) (hs : ∀ k, K0 ≤ k → ad (k + 1) + 1 = ad (k + 2)) {ci N index : Nat} (hf : NWF own index ci N) (hcells : cells + 1 ≤ R.cells) (hslots : slots + N ≤ R.slots) (hdg : decode cc pc = .ok (.new index, 3))
    (kk : ∀ (H1 : Heap), ST D cy ad A H0 (ZA ad K0) (m_new S ci 0) H1 locs → W p l e R s m args below meth c H1 locs (cells + 1) (slots + N) Q (F0 m (pc + 3) ls (.ref (ad (m_n S + 1)) :: rest))) : W p l e R s m args below meth c H locs cells slots Q (F0 m pc ls rest) := by
  obtain ⟨hx, hb, -, hown, hG, hts, -⟩ := C0
  obtain ⟨C, T, ty0, hc, hin, hty, hlen, hdf, hl1, hl2, hl3, hci⟩ := hf
  have hKn := hG.1.1 ci _ hc
  have hzz : H.size = ad (m_n S + 1) := M.2.2.1
  refine W.newcK hx hb hown (hts _ hl1) (hts _ hl2) (hts _ hl3) rfl hdg hcells hslots hKn.2.1 rfl fun H1 kC hkC e1 z1 o1 => ?_
  rw [hzz]
  refine kk H1 (M.new hA ?_ z1 (hs _ M.2.2.2) o1)
  unfold c_ce
  rw [if_pos hci]
  refine ⟨_, hc, (u_born ty0 hts hin hKn hkC e1 hty).to (fun j hj => ?_)⟩
  obtain ⟨d1, d2⟩ := hdf j hj
  unfold vp_V
  rw [List.getD_eq_getElem?_getD, c_fs_get, d1, Nat.zero_add]
  exact fc_dv rfl d2 ad j
theorem k_newI {atype : ArrayType} {ty : FieldType} {kd : Nat} (t0 : Nat) (C0 : CX p s m args meth c own cc nL D cy) (M : ST D cy ad A H0 (ZA ad K0) S H locs) (hA : ∀ k, 0 < k → A (ad k)) (hs : ∀ k, K0 ≤ k → ad (k + 1) + 1 = ad (k + 2)) (hty : newarray.typeOf atype = ty) (hw : Cond.arrayClass ty ∈ UW) (ht : (m_tys cy)[t0]? = some (cy kd, ty)) (hkd : 12 ≤ kd ∧ kd < 14) (hra : va_RA s (cy kd) ty = (s.vm.findClass ("[" ++ ty.toString) = some (cy kd))) (hdv : defaultValue ty = .int 0) {n : Int32} {b N : Nat} (hn : o_le b n = some N) (hbytes : b * componentBytes ty ≤ 536870912) (hcells : cells + 1 ≤ R.cells) (hslots : slots + b ≤ R.slots) (hdg : decode cc pc = .ok (.newarray atype, 2))
    (kk : ∀ (H1 : Heap), ST D cy ad A H0 (ZA ad K0) (m_new S kd N) H1 locs → W p l e R s m args below meth c H1 locs (cells + 1) (slots + b) Q (F0 m (pc + 2) ls (.ref (ad (m_n S + 1)) :: rest))) : W p l e R s m args below meth c H locs cells slots Q (F0 m pc ls (.int n :: rest)) := by
  obtain ⟨hx, hb, -, hown, hG, hts, -⟩ := C0
  subst hty
  obtain ⟨⟨hn0, hnb⟩, hN⟩ := o_if hn
  have hNb : N ≤ b := by rw [← hN]; exact hnb
  have hzz : H.size = ad (m_n S + 1) := M.2.2.1
  refine va_newaK hx hb (hts _ hw) rfl hdg rfl hn0 hN (Nat.le_trans (Nat.mul_le_mul_right _ hNb) hbytes) hcells (Nat.le_trans (Nat.add_le_add_left hNb _) hslots) rfl fun H1 cA e1 z1 o1 hAr hNm => ?_
  have hcA : cA = cy kd := by
    have h := (hG.1.2 t0 _ ht).2
    rw [hra] at h
    exact Option.some.inj (hNm.symm.trans h)
  subst hcA
  rw [hzz]
  refine W.widen (Nat.le_refl _) (Nat.add_le_add_left hNb _) (kk H1 (M.new hA ?_ z1 (hs _ M.2.2.2) o1))
  unfold c_ce
  rw [if_neg (by omega), if_pos hkd.2]
  show H1[H.size]? = some (vp_cell _ _)
  rw [e1, vp_cell_i, hdv]
theorem k_newQ {C : String} {kd index : Nat} (t0 : Nat) (C0 : CX p s m args meth c own cc nL D cy) (M : ST D cy ad A H0 (ZA ad K0) S H locs) (hA : ∀ k, 0 < k → A (ad k)) (hs : ∀ k, K0 ≤ k → ad (k + 1) + 1 = ad (k + 2)) (hl : Cond.classLink own index C ∈ UW) (hw : Cond.arrayOver (.object C) ∈ UW) (ht : (m_tys cy)[t0]? = some (cy kd, .object C)) (hkd : 14 ≤ kd) {n : Int32} {b N : Nat} (hn : o_le b n = some N) (hbytes : b * 4 ≤ 536870912) (hcells : cells + 1 ≤ R.cells) (hslots : slots + b ≤ R.slots) (hdg : decode cc pc = .ok (.anewarray index, 3))
    (kk : ∀ (H1 : Heap), ST D cy ad A H0 (ZA ad K0) (m_new S kd N) H1 locs → W p l e R s m args below meth c H1 locs (cells + 1) (slots + b) Q (F0 m (pc + 3) ls (.ref (ad (m_n S + 1)) :: rest))) : W p l e R s m args below meth c H locs cells slots Q (F0 m pc ls (.int n :: rest)) := by
  obtain ⟨hx, hb, -, hown, hG, hts, -⟩ := C0
  obtain ⟨⟨hn0, hnb⟩, hN⟩ := o_if hn
  have hNb : N ≤ b := by rw [← hN]; exact hnb
  have hzz : H.size = ad (m_n S + 1) := M.2.2.1
  subst hN
  refine W.anew hx hb hown (hts _ hl) (hts _ hw) rfl hdg rfl hn0 (Nat.le_trans (Nat.mul_le_mul_right _ hNb) hbytes) hcells (Nat.le_trans (Nat.add_le_add_left hNb _) hslots) fun cA kA comp f1 f2 f3 f4 => ?_
  have hcA : cA = cy kd := by
    obtain ⟨kA2, comp2, -, -, -, h⟩ := (hG.1.2 t0 _ ht).2
    exact Option.some.inj (f1.symm.trans h)
  subst hcA
  generalize hH1 : H.push ({ cls := cy kd, slots := Array.replicate n.toNatClampNeg .null, vm := .none } : Cell) = H1
  have z1 : H1.size = H.size + 1 := by rw [← hH1, Array.size_push]
  have e1 : H1[H.size]? = some (arrV (cy kd) n.toNatClampNeg (fun _ => .null)) := by rw [← hH1, Array.getElem?_push_size, ← arrV_new]
  have o1 : ∀ q : Nat, q < H.size → H1[q]? = H[q]? := fun q hq => by rw [← hH1, Array.getElem?_push, if_neg (Nat.ne_of_lt hq)]
  rw [hzz]
  refine W.widen (Nat.le_refl _) (Nat.add_le_add_left hNb _) (kk H1 (M.new hA ?_ z1 (hs _ M.2.2.2) o1))
  unfold c_ce
  rw [if_neg (by omega), if_neg (by omega)]
  show H1[H.size]? = some (vp_cell _ _)
  rw [e1, vp_cell_q]
  rfl
end KR
/-- what stays of the start: the shared empty array of java.util.ArrayList, the class object of Object[] -/
def EX (ad : Nat → Nat) (A : Nat → Prop) (U : State) : Prop := va_Z "java/util/ArrayList" "DEFAULTCAPACITY_EMPTY_ELEMENTDATA" "[Ljava/lang/Object;" (.ref (ad 0)) A U U.heap ∧ va_T (.object "java/lang/Object") (ad 0) 0 (fun _ => .null) A U U.heap ∧ ∃ mi : Nat, va_Mi "[Ljava/lang/Object;" mi U
theorem EX.moved {ad : Nat → Nat} {A : Nat → Prop} {s U : State} {H : Heap} {locs : List Loc} (hS : va_S A s.heap H locs) (hU : U.heap = H) (hW : s.vm.Alike U.vm) (h : EX ad A s) : EX ad A U := by
  obtain ⟨h1, h2, mi, h3⟩ := h
  refine ⟨?_, ?_, mi, h3.moved hW⟩
  · rw [hU]; exact (h1.kept hS.2.1).moved hW
  · rw [hU]; exact (h2.kept hS.2.1).moved hW
theorem EX.blind {ad : Nat → Nat} {A : Nat → Prop} {U : State} {g : JFrame} {mk : MethodId} {a : Array Value} (h : EX ad A U) : EX ad A (U.calling g mk a) := EX.moved va_S.rf rfl (Vm.Alike.refl U.vm) h
def PcS (D : va_G) (cy : Nat → ClassId) (vs : List Value) : Array Value → State → Prop := va_Pc vs (fun U => GK D cy U)
def PcR (D : va_G) (cy : Nat → ClassId) (ad : Nat → Nat) (A : Nat → Prop) (S : MS) (vs : List Value) : Array Value → State → Prop := va_Pc vs (fun U => GK D cy U ∧ MW D cy ad A S U.heap)
def PcA (D : va_G) (cy : Nat → ClassId) (ad : Nat → Nat) (A : Nat → Prop) (K0 : Nat) (S : MS) (vs : List Value) : Array Value → State → Prop := va_Pc vs (fun U => GK D cy U ∧ EX ad A U ∧ MW D cy ad A S U.heap ∧ U.heap.size = ad (m_n S + 1) ∧ K0 ≤ m_n S)
def QcS (v : Option Value) : Array Value → State → Outcome → State → Prop := fun _ st o t => o = .returned v ∧ t.heap = st.heap
def QcM (D : va_G) (cy : Nat → ClassId) (ad : Nat → Nat) (A : Nat → Prop) (n0 : Nat) (S' : MS) (v : Option Value) : Array Value → State → Outcome → State → Prop := fun _ st o t => o = .returned v ∧ MW D cy ad A S' t.heap ∧ (t.heap.size = st.heap.size ∧ m_n S' = n0) ∧ ∀ q : Nat, q < st.heap.size → ¬ A q → t.heap[q]? = st.heap[q]?
def QcA (D : va_G) (cy : Nat → ClassId) (ad : Nat → Nat) (A : Nat → Prop) (K0 : Nat) (S' : MS) (v : Option Value) : Array Value → State → Outcome → State → Prop := fun _ st o t => o = .returned v ∧ MW D cy ad A S' t.heap ∧ ((t.heap.size = ad (m_n S' + 1) ∧ K0 ≤ m_n S') ∧ st.heap.size ≤ t.heap.size) ∧ ∀ q : Nat, q < st.heap.size → ¬ A q → t.heap[q]? = st.heap[q]?
theorem PcS.blind {D : va_G} {cy : Nat → ClassId} {vs : List Value} : FrameBlind (PcS D cy vs) := fun _ _ _ _ h => ⟨h.1, h.2.blind⟩
theorem PcR.blind {D : va_G} {cy : Nat → ClassId} {ad : Nat → Nat} {A : Nat → Prop} {S : MS} {vs : List Value} : FrameBlind (PcR D cy ad A S vs) := fun _ _ _ _ h => ⟨h.1, h.2.1.blind, h.2.2⟩
theorem PcA.blind {D : va_G} {cy : Nat → ClassId} {ad : Nat → Nat} {A : Nat → Prop} {K0 : Nat} {S : MS} {vs : List Value} : FrameBlind (PcA D cy ad A K0 S vs) := fun _ _ _ _ h => ⟨h.1, h.2.1.blind, h.2.2.1.blind, h.2.2.2⟩
/-- a call's words: by its link, of a static, of a method of an object, of a constructor -/
def CB (own : String) (index : Nat) (y : MethodName) (bytes : ByteArray) (maxL : Nat) (ret : Option FieldType) (n : Nat) : Prop := Cond.code y bytes maxL ret ∈ UW ∧ Cond.initialized y.cls ∈ UW ∧ (y.cls ≠ "java/lang/invoke/MethodHandle" ∧ y.cls ≠ "java/lang/invoke/VarHandle" ∧ (parseMethodDescriptor y.desc).map (fun d => d.parameters.length) = some n) ∧ Cond.methodLink own index y ∈ UW
def CBS (own : String) (index : Nat) (y : MethodName) (bytes : ByteArray) (maxL : Nat) (ret : Option FieldType) (n : Nat) : Prop := CB own index y bytes maxL ret n ∧ Cond.static y ∈ UW
def CBV (own : String) (index : Nat) (y : MethodName) (bytes : ByteArray) (maxL : Nat) (ret : Option FieldType) (n kd : Nat) : Prop := CB own index y bytes maxL ret n ∧ Cond.instanceMethod y ∈ UW ∧ Cond.selects y.cls y y ∈ UW ∧ kd < 12 ∧ ∃ (T : u_T) (N : Nat), vwCl[kd]? = some (y.cls, T, N)
def CBI (own : String) (index : Nat) (y : MethodName) (bytes : ByteArray) (maxL n : Nat) : Prop := CB own index y bytes maxL none n ∧ Cond.instanceMethod y ∈ UW ∧ y.name = "<init>"
def CN (own : String) (index : Nat) (y : MethodName) (host : String) (bytes : ByteArray) (maxL : Nat) (ret : Option FieldType) (n : Nat) : Prop := Cond.code y bytes maxL ret ∈ UW ∧ Cond.initialized y.cls ∈ UW ∧ (y.cls ≠ "java/lang/invoke/MethodHandle" ∧ y.cls ≠ "java/lang/invoke/VarHandle" ∧ (parseMethodDescriptor y.desc).map (fun d => d.parameters.length) = some n) ∧ Cond.methodLinkNest own index y host ∈ UW
def CNS (own : String) (index : Nat) (y : MethodName) (host : String) (bytes : ByteArray) (maxL : Nat) (ret : Option FieldType) (n : Nat) : Prop := CN own index y host bytes maxL ret n ∧ Cond.static y ∈ UW
def CNI (own : String) (index : Nat) (y : MethodName) (host : String) (bytes : ByteArray) (maxL n : Nat) : Prop := CN own index y host bytes maxL none n ∧ Cond.instanceMethod y ∈ UW ∧ y.name = "<init>"
section KC
variable {p : Program} {l : Launch} {e : Env} {R : Room} {s : State} {m : MethodId} {args : Array Value} {below : List Frame} {meth : Method} {c : Code} {H : Heap} {locs : List Loc} {cells slots : Nat} {Q : State → Prop}
variable {cc : ByteArray} {pc nL : Nat} {ls : Array Slot} {rest : List Value} {D : va_G} {cy : Nat → ClassId} {ad : Nat → Nat} {A : Nat → Prop} {H0 : Heap} {S : MS} {own : String} {zz : Nat → Nat → Prop} {K0 : Nat}
variable {y : MethodName} {bytes : ByteArray} {maxL mc ms n index kd : Nat} {ret : Option FieldType} {rm : Room} {Pc : Array Value → State → Prop} {Qc : Array Value → State → Outcome → State → Prop} {free : Addr → Prop} {As : List Value} {host : String} {lv : List (Nat × Value)}
theorem cb_of (hts : ∀ w ∈ UW, w.before args s = true) (hG : GK D cy s) (h : CB own index y bytes maxL ret n) (hrm : rm.cells = mc ∧ rm.slots = ms) (hR : rm.frames + 1 ≤ R.frames ∧ 8 + (maxL + 11) + rm.locals ≤ R.locals) : CallB R s args own index y bytes maxL ret [Cond.code y bytes maxL ret] rm mc ms n := by
  obtain ⟨h1, h2, ⟨h3, h4, h5⟩, h6⟩ := h
  refine ⟨hrm.1, hrm.2, hR.1, hR.2, fun w hw a' U hW => ?_, List.mem_cons_self, hts _ h1, hts _ h2, ⟨h3, h4⟩, fun sig hs => ?_, hts _ h6⟩
  · rw [List.mem_singleton] at hw
    subst hw
    exact gx_args (gx_all _ h1) (gx_moved (gx_all _ h1) hW (hG.2 _ h1))
  · rw [hs] at h5
    exact (Option.some.inj h5).symm
theorem cn_of (hts : ∀ w ∈ UW, w.before args s = true) (hG : GK D cy s) (h : CN own index y host bytes maxL ret n) (hrm : rm.cells = mc ∧ rm.slots = ms) (hR : rm.frames + 1 ≤ R.frames ∧ 8 + (maxL + 11) + rm.locals ≤ R.locals) : va_CN R s args own index y host bytes maxL ret [Cond.code y bytes maxL ret] rm mc ms n := by
  obtain ⟨h1, h2, ⟨h3, h4, h5⟩, h6⟩ := h
  refine ⟨⟨hrm.1, hrm.2, hR.1, hR.2, fun w hw a' U hW => ?_, List.mem_cons_self⟩, hts _ h1, hts _ h2, ⟨h3, h4⟩, fun sig hs => ?_, hts _ h6⟩
  · rw [List.mem_singleton] at hw
    subst hw
    exact gx_args (gx_all _ h1) (gx_moved (gx_all _ h1) hW (hG.2 _ h1))
  · rw [hs] at h5
    exact (Option.some.inj h5).symm
/-- what a callee's start asks, out of the caller's world -/
def PreF (s : State) (H : Heap) (Pc : Array Value → State → Prop) (As : List Value) : Prop := FrameBlind Pc ∧ ∀ U : State, U.heap = H → s.WarmedH U.vm → Pc As.toArray U
theorem pre_S (C0 : CX p s m args meth c own cc nL D cy) : PreF s H (PcS D cy As) As := ⟨PcS.blind, fun U _ hW => ⟨rfl, C0.2.2.2.2.1.moved hW⟩⟩
theorem pre_R (C0 : CX p s m args meth c own cc nL D cy) (M : MW D cy ad A S H) : PreF s H (PcR D cy ad A S As) As := ⟨PcR.blind, fun U hU hW => ⟨rfl, C0.2.2.2.2.1.moved hW, by rw [hU]; exact M⟩⟩
theorem pre_A (C0 : CX p s m args meth c own cc nL D cy) (hE : EX ad A s) (M : ST D cy ad A s.heap (ZA ad K0) S H locs) : PreF s H (PcA D cy ad A K0 S As) As := ⟨PcA.blind, fun U hU hW => ⟨rfl, C0.2.2.2.2.1.moved hW, hE.moved M.2.1 hU hW.alike, by rw [hU]; exact M.1, by rw [hU]; exact M.2.2⟩⟩
theorem r_S (C0 : CX p s m args meth c own cc nL D cy) (hf : CBS own index y bytes maxL ret n) (hM : Met l y [Cond.code y bytes maxL ret] rm Pc Qc mc ms free) (hp : PreF s H Pc As) (hl : lv_has ls nL lv) (hdg : decode cc pc = .ok (.invokestatic index, 3)) (hn : As.length = n) (hW : (rest.map fun v => v.category).sum ≤ 8)
    (hrm : rm.cells = mc ∧ rm.slots = ms) (hR : rm.frames + 1 ≤ R.frames ∧ 8 + (maxL + 11) + rm.locals ≤ R.locals) (hc : cells + mc ≤ R.cells ∧ slots + ms ≤ R.slots) {st : List Value} (hst : st = As.reverse ++ rest) :
    va_Run p l e R s m args below meth c H locs cells slots mc ms (F0 m pc ls st) rest (Qc As.toArray) free := by
  obtain ⟨hx, hb, hml, hown, hG, hts, -⟩ := C0
  exact va_runS ⟨hx, hb, hml, hown, hts⟩ hM ⟨cb_of hts hG hf.1 hrm hR, hts _ hf.2⟩ hp rfl hn hl.1 hst (lv_room hW) hdg hc
theorem r_SN (C0 : CX p s m args meth c own cc nL D cy) (hf : CNS own index y host bytes maxL ret n) (hM : Met l y [Cond.code y bytes maxL ret] rm Pc Qc mc ms free) (hp : PreF s H Pc As) (hl : lv_has ls nL lv) (hdg : decode cc pc = .ok (.invokestatic index, 3)) (hn : As.length = n) (hW : (rest.map fun v => v.category).sum ≤ 8)
    (hrm : rm.cells = mc ∧ rm.slots = ms) (hR : rm.frames + 1 ≤ R.frames ∧ 8 + (maxL + 11) + rm.locals ≤ R.locals) (hc : cells + mc ≤ R.cells ∧ slots + ms ≤ R.slots) {st : List Value} (hst : st = As.reverse ++ rest) :
    va_Run p l e R s m args below meth c H locs cells slots mc ms (F0 m pc ls st) rest (Qc As.toArray) free := by
  obtain ⟨hx, hb, hml, hown, hG, hts, -⟩ := C0
  exact va_runSN ⟨hx, hb, hml, hown, hts⟩ hM ⟨cn_of hts hG hf.1 hrm hR, hts _ hf.2, trivial⟩ hp rfl hn hl.1 hst (lv_room hW) hdg hc
theorem r_V (C0 : CX p s m args meth c own cc nL D cy) (hf : CBV own index y bytes maxL ret n kd) {a : Nat} {w : Nat} (M : MW D cy ad A S H) (hg : o_is S a kd = some w) (hM : Met l y [Cond.code y bytes maxL ret] rm Pc Qc mc ms free) (hp : PreF s H Pc (.ref (ad a) :: As)) (hl : lv_has ls nL lv) (hdg : decode cc pc = .ok (.invokevirtual index, 3)) (hn : As.length = n) (hW : (rest.map fun v => v.category).sum ≤ 8)
    (hrm : rm.cells = mc ∧ rm.slots = ms) (hR : rm.frames + 1 ≤ R.frames ∧ 8 + (maxL + 11) + rm.locals ≤ R.locals) (hc : cells + mc ≤ R.cells ∧ slots + ms ≤ R.slots) {st : List Value} (hst : st = As.reverse ++ .ref (ad a) :: rest) :
    va_Run p l e R s m args below meth c H locs cells slots mc ms (F0 m pc ls st) rest (Qc (Value.ref (ad a) :: As).toArray) free := by
  obtain ⟨hx, hb, hml, hown, hG, hts, -⟩ := C0
  obtain ⟨hf1, hf2, hf3, hkd, T, N, hcl⟩ := hf
  exact va_runV ⟨hx, hb, hml, hown, hts⟩ hM ⟨cb_of hts hG hf1 hrm hR, hts _ hf2, hts _ hf3⟩ ⟨hp.1, k_is M hG (b := 0) hkd hcl (o_if hg).1, hp.2⟩ rfl hn hl.1 hst (lv_room hW) hdg hc
theorem r_I (C0 : CX p s m args meth c own cc nL D cy) (hf : CBI own index y bytes maxL n) {b : Nat} (hM : Met l y [Cond.code y bytes maxL none] rm Pc Qc mc ms free) (hp : PreF s H Pc (.ref b :: As)) (hl : lv_has ls nL lv) (hdg : decode cc pc = .ok (.invokespecial index, 3)) (hn : As.length = n) (hW : (rest.map fun v => v.category).sum ≤ 8)
    (hrm : rm.cells = mc ∧ rm.slots = ms) (hR : rm.frames + 1 ≤ R.frames ∧ 8 + (maxL + 11) + rm.locals ≤ R.locals) (hc : cells + mc ≤ R.cells ∧ slots + ms ≤ R.slots) {st : List Value} (hst : st = As.reverse ++ .ref b :: rest) :
    va_Run p l e R s m args below meth c H locs cells slots mc ms (F0 m pc ls st) rest (Qc (Value.ref b :: As).toArray) free := by
  obtain ⟨hx, hb, hml, hown, hG, hts, -⟩ := C0
  obtain ⟨hf1, hf2, hf3⟩ := hf
  exact va_runI ⟨hx, hb, hml, hown, hts⟩ hM ⟨cb_of hts hG hf1 hrm hR, hf3, hts _ hf2⟩ hp rfl hn hl.1 hst (lv_room hW) hdg hc
theorem r_IN (C0 : CX p s m args meth c own cc nL D cy) (hf : CNI own index y host bytes maxL n) {b : Nat} (hM : Met l y [Cond.code y bytes maxL none] rm Pc Qc mc ms free) (hp : PreF s H Pc (.ref b :: As)) (hl : lv_has ls nL lv) (hdg : decode cc pc = .ok (.invokespecial index, 3)) (hn : As.length = n) (hW : (rest.map fun v => v.category).sum ≤ 8)
    (hrm : rm.cells = mc ∧ rm.slots = ms) (hR : rm.frames + 1 ≤ R.frames ∧ 8 + (maxL + 11) + rm.locals ≤ R.locals) (hc : cells + mc ≤ R.cells ∧ slots + ms ≤ R.slots) {st : List Value} (hst : st = As.reverse ++ .ref b :: rest) :
    va_Run p l e R s m args below meth c H locs cells slots mc ms (F0 m pc ls st) rest (Qc (Value.ref b :: As).toArray) free := by
  obtain ⟨hx, hb, hml, hown, hG, hts, -⟩ := C0
  obtain ⟨hf1, hf2, hf3⟩ := hf
  exact va_runIN ⟨hx, hb, hml, hown, hts⟩ hM ⟨cn_of hts hG hf1 hrm hR, hf3, hts _ hf2⟩ hp rfl hn hl.1 hst (lv_room hW) hdg hc
variable {a : Array Value} {st0 : List Value} {S' : MS}
theorem go_SI {r : Int32} (hr : va_Run p l e R s m args below meth c H locs cells slots 0 0 (F0 m pc ls st0) rest (QcS (some (.int r)) a) (fun _ => False)) (kk : W p l e R s m args below meth c H locs cells slots Q (F0 m (pc + 3) ls (.int r :: rest))) : W p l e R s m args below meth c H locs cells slots Q (F0 m pc ls st0) := by
  intro T hT X
  obtain ⟨v', st₀, t, T', L, h0, X', hL, e1, e2, ⟨hv, hh⟩, st⟩ := hr T hT X
  cases hv
  have hLn : L = [] := List.eq_nil_iff_forall_not_mem.mpr (fun q hq => hL q hq)
  subst hLn
  rw [List.append_nil] at X'
  obtain ⟨t2, a1, b1⟩ := kk T' (by rw [e1, hh, h0]) X'
  exact ⟨t2, st t2 a1, b1⟩
theorem go_MI {r : Int32} (hr : va_Run p l e R s m args below meth c H locs cells slots 0 0 (F0 m pc ls st0) rest (QcM D cy ad A (m_n S) S' (some (.int r)) a) A) (M : ST D cy ad A H0 zz S H locs) (kk : ∀ (H1 : Heap) (locs1 : List Loc), ST D cy ad A H0 zz S' H1 locs1 → W p l e R s m args below meth c H1 locs1 cells slots Q (F0 m (pc + 3) ls (.int r :: rest))) : W p l e R s m args below meth c H locs cells slots Q (F0 m pc ls st0) := by
  intro T hT X
  obtain ⟨v', st₀, t, T', L, h0, X', hL, e1, e2, ⟨hv, hw, ⟨hz, hz2⟩, hk⟩, st⟩ := hr T hT X
  cases hv
  obtain ⟨hM, hS, hzz⟩ := M
  rw [h0] at hz hk
  obtain ⟨t2, a1, b1⟩ := kk T'.heap (locs ++ L) ⟨by rw [e1]; exact hw, ⟨by rw [e1, hz]; exact hS.1, fun q h1 h2 => by rw [e1, hk q (Nat.lt_of_lt_of_le h1 hS.1) h2]; exact hS.2.1 q h1 h2, fun q hq => (List.mem_append.mp hq).elim (hS.2.2 q) (hL q)⟩, by rw [e1, hz, hz2]; exact hzz⟩ T' rfl X'
  exact ⟨t2, st t2 a1, b1⟩
theorem go_AI {r : Int32} (hr : va_Run p l e R s m args below meth c H locs cells slots mc ms (F0 m pc ls st0) rest (QcA D cy ad A K0 S' (some (.int r)) a) A) (M : ST D cy ad A H0 (ZA ad K0) S H locs) (kk : ∀ (H1 : Heap) (locs1 : List Loc), ST D cy ad A H0 (ZA ad K0) S' H1 locs1 → W p l e R s m args below meth c H1 locs1 (cells + mc) (slots + ms) Q (F0 m (pc + 3) ls (.int r :: rest))) : W p l e R s m args below meth c H locs cells slots Q (F0 m pc ls st0) := by
  intro T hT X
  obtain ⟨v', st₀, t, T', L, h0, X', hL, e1, e2, ⟨hv, hw, ⟨hz, hz2⟩, hk⟩, st⟩ := hr T hT X
  cases hv
  obtain ⟨hM, hS, hzz⟩ := M
  rw [h0] at hz2 hk
  obtain ⟨t2, a1, b1⟩ := kk T'.heap (locs ++ L) ⟨by rw [e1]; exact hw, ⟨by rw [e1]; exact Nat.le_trans hS.1 hz2, fun q h1 h2 => by rw [e1, hk q (Nat.lt_of_lt_of_le h1 hS.1) h2]; exact hS.2.1 q h1 h2, fun q hq => (List.mem_append.mp hq).elim (hS.2.2 q) (hL q)⟩, by rw [e1]; exact hz⟩ T' rfl X'
  exact ⟨t2, st t2 a1, b1⟩
theorem go_SL {r : Int64} (hr : va_Run p l e R s m args below meth c H locs cells slots 0 0 (F0 m pc ls st0) rest (QcS (some (.long r)) a) (fun _ => False)) (kk : W p l e R s m args below meth c H locs cells slots Q (F0 m (pc + 3) ls (.long r :: rest))) : W p l e R s m args below meth c H locs cells slots Q (F0 m pc ls st0) := by
  intro T hT X
  obtain ⟨v', st₀, t, T', L, h0, X', hL, e1, e2, ⟨hv, hh⟩, st⟩ := hr T hT X
  cases hv
  have hLn : L = [] := List.eq_nil_iff_forall_not_mem.mpr (fun q hq => hL q hq)
  subst hLn
  rw [List.append_nil] at X'
  obtain ⟨t2, a1, b1⟩ := kk T' (by rw [e1, hh, h0]) X'
  exact ⟨t2, st t2 a1, b1⟩
theorem go_ML {r : Int64} (hr : va_Run p l e R s m args below meth c H locs cells slots 0 0 (F0 m pc ls st0) rest (QcM D cy ad A (m_n S) S' (some (.long r)) a) A) (M : ST D cy ad A H0 zz S H locs) (kk : ∀ (H1 : Heap) (locs1 : List Loc), ST D cy ad A H0 zz S' H1 locs1 → W p l e R s m args below meth c H1 locs1 cells slots Q (F0 m (pc + 3) ls (.long r :: rest))) : W p l e R s m args below meth c H locs cells slots Q (F0 m pc ls st0) := by
  intro T hT X
  obtain ⟨v', st₀, t, T', L, h0, X', hL, e1, e2, ⟨hv, hw, ⟨hz, hz2⟩, hk⟩, st⟩ := hr T hT X
  cases hv
  obtain ⟨hM, hS, hzz⟩ := M
  rw [h0] at hz hk
  obtain ⟨t2, a1, b1⟩ := kk T'.heap (locs ++ L) ⟨by rw [e1]; exact hw, ⟨by rw [e1, hz]; exact hS.1, fun q h1 h2 => by rw [e1, hk q (Nat.lt_of_lt_of_le h1 hS.1) h2]; exact hS.2.1 q h1 h2, fun q hq => (List.mem_append.mp hq).elim (hS.2.2 q) (hL q)⟩, by rw [e1, hz, hz2]; exact hzz⟩ T' rfl X'
  exact ⟨t2, st t2 a1, b1⟩
theorem go_AL {r : Int64} (hr : va_Run p l e R s m args below meth c H locs cells slots mc ms (F0 m pc ls st0) rest (QcA D cy ad A K0 S' (some (.long r)) a) A) (M : ST D cy ad A H0 (ZA ad K0) S H locs) (kk : ∀ (H1 : Heap) (locs1 : List Loc), ST D cy ad A H0 (ZA ad K0) S' H1 locs1 → W p l e R s m args below meth c H1 locs1 (cells + mc) (slots + ms) Q (F0 m (pc + 3) ls (.long r :: rest))) : W p l e R s m args below meth c H locs cells slots Q (F0 m pc ls st0) := by
  intro T hT X
  obtain ⟨v', st₀, t, T', L, h0, X', hL, e1, e2, ⟨hv, hw, ⟨hz, hz2⟩, hk⟩, st⟩ := hr T hT X
  cases hv
  obtain ⟨hM, hS, hzz⟩ := M
  rw [h0] at hz2 hk
  obtain ⟨t2, a1, b1⟩ := kk T'.heap (locs ++ L) ⟨by rw [e1]; exact hw, ⟨by rw [e1]; exact Nat.le_trans hS.1 hz2, fun q h1 h2 => by rw [e1, hk q (Nat.lt_of_lt_of_le h1 hS.1) h2]; exact hS.2.1 q h1 h2, fun q hq => (List.mem_append.mp hq).elim (hS.2.2 q) (hL q)⟩, by rw [e1]; exact hz⟩ T' rfl X'
  exact ⟨t2, st t2 a1, b1⟩
theorem go_SP {r : Nat} (hr : va_Run p l e R s m args below meth c H locs cells slots 0 0 (F0 m pc ls st0) rest (QcS (some (.ref (ad r))) a) (fun _ => False)) (kk : W p l e R s m args below meth c H locs cells slots Q (F0 m (pc + 3) ls (.ref (ad r) :: rest))) : W p l e R s m args below meth c H locs cells slots Q (F0 m pc ls st0) := by
  intro T hT X
  obtain ⟨v', st₀, t, T', L, h0, X', hL, e1, e2, ⟨hv, hh⟩, st⟩ := hr T hT X
  cases hv
  have hLn : L = [] := List.eq_nil_iff_forall_not_mem.mpr (fun q hq => hL q hq)
  subst hLn
  rw [List.append_nil] at X'
  obtain ⟨t2, a1, b1⟩ := kk T' (by rw [e1, hh, h0]) X'
  exact ⟨t2, st t2 a1, b1⟩
theorem go_MP {r : Nat} (hr : va_Run p l e R s m args below meth c H locs cells slots 0 0 (F0 m pc ls st0) rest (QcM D cy ad A (m_n S) S' (some (.ref (ad r))) a) A) (M : ST D cy ad A H0 zz S H locs) (kk : ∀ (H1 : Heap) (locs1 : List Loc), ST D cy ad A H0 zz S' H1 locs1 → W p l e R s m args below meth c H1 locs1 cells slots Q (F0 m (pc + 3) ls (.ref (ad r) :: rest))) : W p l e R s m args below meth c H locs cells slots Q (F0 m pc ls st0) := by
  intro T hT X
  obtain ⟨v', st₀, t, T', L, h0, X', hL, e1, e2, ⟨hv, hw, ⟨hz, hz2⟩, hk⟩, st⟩ := hr T hT X
  cases hv
  obtain ⟨hM, hS, hzz⟩ := M
  rw [h0] at hz hk
  obtain ⟨t2, a1, b1⟩ := kk T'.heap (locs ++ L) ⟨by rw [e1]; exact hw, ⟨by rw [e1, hz]; exact hS.1, fun q h1 h2 => by rw [e1, hk q (Nat.lt_of_lt_of_le h1 hS.1) h2]; exact hS.2.1 q h1 h2, fun q hq => (List.mem_append.mp hq).elim (hS.2.2 q) (hL q)⟩, by rw [e1, hz, hz2]; exact hzz⟩ T' rfl X'
  exact ⟨t2, st t2 a1, b1⟩
theorem go_AP {r : Nat} (hr : va_Run p l e R s m args below meth c H locs cells slots mc ms (F0 m pc ls st0) rest (QcA D cy ad A K0 S' (some (.ref (ad r))) a) A) (M : ST D cy ad A H0 (ZA ad K0) S H locs) (kk : ∀ (H1 : Heap) (locs1 : List Loc), ST D cy ad A H0 (ZA ad K0) S' H1 locs1 → W p l e R s m args below meth c H1 locs1 (cells + mc) (slots + ms) Q (F0 m (pc + 3) ls (.ref (ad r) :: rest))) : W p l e R s m args below meth c H locs cells slots Q (F0 m pc ls st0) := by
  intro T hT X
  obtain ⟨v', st₀, t, T', L, h0, X', hL, e1, e2, ⟨hv, hw, ⟨hz, hz2⟩, hk⟩, st⟩ := hr T hT X
  cases hv
  obtain ⟨hM, hS, hzz⟩ := M
  rw [h0] at hz2 hk
  obtain ⟨t2, a1, b1⟩ := kk T'.heap (locs ++ L) ⟨by rw [e1]; exact hw, ⟨by rw [e1]; exact Nat.le_trans hS.1 hz2, fun q h1 h2 => by rw [e1, hk q (Nat.lt_of_lt_of_le h1 hS.1) h2]; exact hS.2.1 q h1 h2, fun q hq => (List.mem_append.mp hq).elim (hS.2.2 q) (hL q)⟩, by rw [e1]; exact hz⟩ T' rfl X'
  exact ⟨t2, st t2 a1, b1⟩
theorem go_SV (hr : va_Run p l e R s m args below meth c H locs cells slots 0 0 (F0 m pc ls st0) rest (QcS (none) a) (fun _ => False)) (kk : W p l e R s m args below meth c H locs cells slots Q (F0 m (pc + 3) ls (rest))) : W p l e R s m args below meth c H locs cells slots Q (F0 m pc ls st0) := by
  intro T hT X
  obtain ⟨v', st₀, t, T', L, h0, X', hL, e1, e2, ⟨hv, hh⟩, st⟩ := hr T hT X
  cases hv
  have hLn : L = [] := List.eq_nil_iff_forall_not_mem.mpr (fun q hq => hL q hq)
  subst hLn
  rw [List.append_nil] at X'
  obtain ⟨t2, a1, b1⟩ := kk T' (by rw [e1, hh, h0]) X'
  exact ⟨t2, st t2 a1, b1⟩
theorem go_MV (hr : va_Run p l e R s m args below meth c H locs cells slots 0 0 (F0 m pc ls st0) rest (QcM D cy ad A (m_n S) S' (none) a) A) (M : ST D cy ad A H0 zz S H locs) (kk : ∀ (H1 : Heap) (locs1 : List Loc), ST D cy ad A H0 zz S' H1 locs1 → W p l e R s m args below meth c H1 locs1 cells slots Q (F0 m (pc + 3) ls (rest))) : W p l e R s m args below meth c H locs cells slots Q (F0 m pc ls st0) := by
  intro T hT X
  obtain ⟨v', st₀, t, T', L, h0, X', hL, e1, e2, ⟨hv, hw, ⟨hz, hz2⟩, hk⟩, st⟩ := hr T hT X
  cases hv
  obtain ⟨hM, hS, hzz⟩ := M
  rw [h0] at hz hk
  obtain ⟨t2, a1, b1⟩ := kk T'.heap (locs ++ L) ⟨by rw [e1]; exact hw, ⟨by rw [e1, hz]; exact hS.1, fun q h1 h2 => by rw [e1, hk q (Nat.lt_of_lt_of_le h1 hS.1) h2]; exact hS.2.1 q h1 h2, fun q hq => (List.mem_append.mp hq).elim (hS.2.2 q) (hL q)⟩, by rw [e1, hz, hz2]; exact hzz⟩ T' rfl X'
  exact ⟨t2, st t2 a1, b1⟩
theorem go_AV (hr : va_Run p l e R s m args below meth c H locs cells slots mc ms (F0 m pc ls st0) rest (QcA D cy ad A K0 S' (none) a) A) (M : ST D cy ad A H0 (ZA ad K0) S H locs) (kk : ∀ (H1 : Heap) (locs1 : List Loc), ST D cy ad A H0 (ZA ad K0) S' H1 locs1 → W p l e R s m args below meth c H1 locs1 (cells + mc) (slots + ms) Q (F0 m (pc + 3) ls (rest))) : W p l e R s m args below meth c H locs cells slots Q (F0 m pc ls st0) := by
  intro T hT X
  obtain ⟨v', st₀, t, T', L, h0, X', hL, e1, e2, ⟨hv, hw, ⟨hz, hz2⟩, hk⟩, st⟩ := hr T hT X
  cases hv
  obtain ⟨hM, hS, hzz⟩ := M
  rw [h0] at hz2 hk
  obtain ⟨t2, a1, b1⟩ := kk T'.heap (locs ++ L) ⟨by rw [e1]; exact hw, ⟨by rw [e1]; exact Nat.le_trans hS.1 hz2, fun q h1 h2 => by rw [e1, hk q (Nat.lt_of_lt_of_le h1 hS.1) h2]; exact hS.2.1 q h1 h2, fun q hq => (List.mem_append.mp hq).elim (hS.2.2 q) (hL q)⟩, by rw [e1]; exact hz⟩ T' rfl X'
  exact ⟨t2, st t2 a1, b1⟩
theorem rt_SI {r : Int32} (C0 : CX p s m args meth c own cc nL D cy) (hr : meth.sig.returnType = some .int) (hdg : decode cc pc = .ok (.ireturn, 1)) : W p l e R s m args below meth c s.heap [] 0 0 (MQ below (QcS (some (.int r))) args s 0 0 (fun _ => False)) (F0 m pc ls [.int r]) := by
  obtain ⟨hx, hb, hml, hown, hG, hts, hlocks⟩ := C0
  exact W.iret hx hb hr (fun t ht hW => ⟨rfl, ht⟩) (fun q hq => by cases hq) hdg hlocks
theorem rt_MI {r : Int32} {n0 : Nat} (C0 : CX p s m args meth c own cc nL D cy) (M : ST D cy ad A s.heap (ZN n0 s.heap.size) S H locs) (hr : meth.sig.returnType = some .int) (hdg : decode cc pc = .ok (.ireturn, 1)) : W p l e R s m args below meth c H locs cells slots (MQ below (QcM D cy ad A n0 S (some (.int r))) args s cells slots A) (F0 m pc ls [.int r]) := by
  obtain ⟨hx, hb, hml, hown, hG, hts, hlocks⟩ := C0
  obtain ⟨hM, hS, hz1, hz2⟩ := M
  exact W.iret hx hb hr (fun t ht hW => ⟨rfl, by rw [ht]; exact hM, ⟨by rw [ht]; exact hz2, hz1⟩, fun q h1 h2 => by rw [ht]; exact hS.2.1 q h1 h2⟩) hS.2.2 hdg hlocks
theorem rt_AI {r : Int32} (C0 : CX p s m args meth c own cc nL D cy) (M : ST D cy ad A s.heap (ZA ad K0) S H locs) (hr : meth.sig.returnType = some .int) (hdg : decode cc pc = .ok (.ireturn, 1)) : W p l e R s m args below meth c H locs cells slots (MQ below (QcA D cy ad A K0 S (some (.int r))) args s cells slots A) (F0 m pc ls [.int r]) := by
  obtain ⟨hx, hb, hml, hown, hG, hts, hlocks⟩ := C0
  obtain ⟨hM, hS, hz⟩ := M
  exact W.iret hx hb hr (fun t ht hW => ⟨rfl, by rw [ht]; exact hM, ⟨by rw [ht]; exact hz, by rw [ht]; exact hS.1⟩, fun q h1 h2 => by rw [ht]; exact hS.2.1 q h1 h2⟩) hS.2.2 hdg hlocks
theorem rt_SZ {r : Int32} (C0 : CX p s m args meth c own cc nL D cy) (hr : meth.sig.returnType = some .boolean) (hzb : o_zb r = some r) (hdg : decode cc pc = .ok (.ireturn, 1)) : W p l e R s m args below meth c s.heap [] 0 0 (MQ below (QcS (some (.int r))) args s 0 0 (fun _ => False)) (F0 m pc ls [.int r]) := by
  obtain ⟨hx, hb, hml, hown, hG, hts, hlocks⟩ := C0
  exact W.zret hx hb hr (by obtain ⟨h, -⟩ := o_if hzb; rcases h with rfl | rfl <;> rfl) (fun t ht hW => ⟨rfl, ht⟩) (fun q hq => by cases hq) hdg hlocks
theorem rt_MZ {r : Int32} {n0 : Nat} (C0 : CX p s m args meth c own cc nL D cy) (M : ST D cy ad A s.heap (ZN n0 s.heap.size) S H locs) (hr : meth.sig.returnType = some .boolean) (hzb : o_zb r = some r) (hdg : decode cc pc = .ok (.ireturn, 1)) : W p l e R s m args below meth c H locs cells slots (MQ below (QcM D cy ad A n0 S (some (.int r))) args s cells slots A) (F0 m pc ls [.int r]) := by
  obtain ⟨hx, hb, hml, hown, hG, hts, hlocks⟩ := C0
  obtain ⟨hM, hS, hz1, hz2⟩ := M
  exact W.zret hx hb hr (by obtain ⟨h, -⟩ := o_if hzb; rcases h with rfl | rfl <;> rfl) (fun t ht hW => ⟨rfl, by rw [ht]; exact hM, ⟨by rw [ht]; exact hz2, hz1⟩, fun q h1 h2 => by rw [ht]; exact hS.2.1 q h1 h2⟩) hS.2.2 hdg hlocks
theorem rt_AZ {r : Int32} (C0 : CX p s m args meth c own cc nL D cy) (M : ST D cy ad A s.heap (ZA ad K0) S H locs) (hr : meth.sig.returnType = some .boolean) (hzb : o_zb r = some r) (hdg : decode cc pc = .ok (.ireturn, 1)) : W p l e R s m args below meth c H locs cells slots (MQ below (QcA D cy ad A K0 S (some (.int r))) args s cells slots A) (F0 m pc ls [.int r]) := by
  obtain ⟨hx, hb, hml, hown, hG, hts, hlocks⟩ := C0
  obtain ⟨hM, hS, hz⟩ := M
  exact W.zret hx hb hr (by obtain ⟨h, -⟩ := o_if hzb; rcases h with rfl | rfl <;> rfl) (fun t ht hW => ⟨rfl, by rw [ht]; exact hM, ⟨by rw [ht]; exact hz, by rw [ht]; exact hS.1⟩, fun q h1 h2 => by rw [ht]; exact hS.2.1 q h1 h2⟩) hS.2.2 hdg hlocks
theorem rt_SL {r : Int64} (C0 : CX p s m args meth c own cc nL D cy) (hr : meth.sig.returnType = some .long) (hdg : decode cc pc = .ok (.lreturn, 1)) : W p l e R s m args below meth c s.heap [] 0 0 (MQ below (QcS (some (.long r))) args s 0 0 (fun _ => False)) (F0 m pc ls [.long r]) := by
  obtain ⟨hx, hb, hml, hown, hG, hts, hlocks⟩ := C0
  exact W.lret hx hb hr (fun t ht hW => ⟨rfl, ht⟩) (fun q hq => by cases hq) hdg hlocks
theorem rt_ML {r : Int64} {n0 : Nat} (C0 : CX p s m args meth c own cc nL D cy) (M : ST D cy ad A s.heap (ZN n0 s.heap.size) S H locs) (hr : meth.sig.returnType = some .long) (hdg : decode cc pc = .ok (.lreturn, 1)) : W p l e R s m args below meth c H locs cells slots (MQ below (QcM D cy ad A n0 S (some (.long r))) args s cells slots A) (F0 m pc ls [.long r]) := by
  obtain ⟨hx, hb, hml, hown, hG, hts, hlocks⟩ := C0
  obtain ⟨hM, hS, hz1, hz2⟩ := M
  exact W.lret hx hb hr (fun t ht hW => ⟨rfl, by rw [ht]; exact hM, ⟨by rw [ht]; exact hz2, hz1⟩, fun q h1 h2 => by rw [ht]; exact hS.2.1 q h1 h2⟩) hS.2.2 hdg hlocks
theorem rt_AL {r : Int64} (C0 : CX p s m args meth c own cc nL D cy) (M : ST D cy ad A s.heap (ZA ad K0) S H locs) (hr : meth.sig.returnType = some .long) (hdg : decode cc pc = .ok (.lreturn, 1)) : W p l e R s m args below meth c H locs cells slots (MQ below (QcA D cy ad A K0 S (some (.long r))) args s cells slots A) (F0 m pc ls [.long r]) := by
  obtain ⟨hx, hb, hml, hown, hG, hts, hlocks⟩ := C0
  obtain ⟨hM, hS, hz⟩ := M
  exact W.lret hx hb hr (fun t ht hW => ⟨rfl, by rw [ht]; exact hM, ⟨by rw [ht]; exact hz, by rw [ht]; exact hS.1⟩, fun q h1 h2 => by rw [ht]; exact hS.2.1 q h1 h2⟩) hS.2.2 hdg hlocks
theorem rt_SP {r : Nat} {ty : FieldType} (C0 : CX p s m args meth c own cc nL D cy) (hr : meth.sig.returnType = some ty) (hty : (∃ n, ty = .object n) ∨ ∃ t, ty = .array t) (hdg : decode cc pc = .ok (.areturn, 1)) : W p l e R s m args below meth c s.heap [] 0 0 (MQ below (QcS (some (.ref (ad r)))) args s 0 0 (fun _ => False)) (F0 m pc ls [.ref (ad r)]) := by
  obtain ⟨hx, hb, hml, hown, hG, hts, hlocks⟩ := C0
  exact W.aret hx hb hr hty (Or.inr ⟨_, rfl⟩) (fun t ht hW => ⟨rfl, ht⟩) (fun q hq => by cases hq) hdg hlocks
theorem rt_MP {r : Nat} {ty : FieldType} {n0 : Nat} (C0 : CX p s m args meth c own cc nL D cy) (M : ST D cy ad A s.heap (ZN n0 s.heap.size) S H locs) (hr : meth.sig.returnType = some ty) (hty : (∃ n, ty = .object n) ∨ ∃ t, ty = .array t) (hdg : decode cc pc = .ok (.areturn, 1)) : W p l e R s m args below meth c H locs cells slots (MQ below (QcM D cy ad A n0 S (some (.ref (ad r)))) args s cells slots A) (F0 m pc ls [.ref (ad r)]) := by
  obtain ⟨hx, hb, hml, hown, hG, hts, hlocks⟩ := C0
  obtain ⟨hM, hS, hz1, hz2⟩ := M
  exact W.aret hx hb hr hty (Or.inr ⟨_, rfl⟩) (fun t ht hW => ⟨rfl, by rw [ht]; exact hM, ⟨by rw [ht]; exact hz2, hz1⟩, fun q h1 h2 => by rw [ht]; exact hS.2.1 q h1 h2⟩) hS.2.2 hdg hlocks
theorem rt_AP {r : Nat} {ty : FieldType} (C0 : CX p s m args meth c own cc nL D cy) (M : ST D cy ad A s.heap (ZA ad K0) S H locs) (hr : meth.sig.returnType = some ty) (hty : (∃ n, ty = .object n) ∨ ∃ t, ty = .array t) (hdg : decode cc pc = .ok (.areturn, 1)) : W p l e R s m args below meth c H locs cells slots (MQ below (QcA D cy ad A K0 S (some (.ref (ad r)))) args s cells slots A) (F0 m pc ls [.ref (ad r)]) := by
  obtain ⟨hx, hb, hml, hown, hG, hts, hlocks⟩ := C0
  obtain ⟨hM, hS, hz⟩ := M
  exact W.aret hx hb hr hty (Or.inr ⟨_, rfl⟩) (fun t ht hW => ⟨rfl, by rw [ht]; exact hM, ⟨by rw [ht]; exact hz, by rw [ht]; exact hS.1⟩, fun q h1 h2 => by rw [ht]; exact hS.2.1 q h1 h2⟩) hS.2.2 hdg hlocks
theorem rt_SV (C0 : CX p s m args meth c own cc nL D cy) (hr : meth.sig.returnType = none) (hdg : decode cc pc = .ok (.return_, 1)) : W p l e R s m args below meth c s.heap [] 0 0 (MQ below (QcS (none)) args s 0 0 (fun _ => False)) (F0 m pc ls []) := by
  obtain ⟨hx, hb, hml, hown, hG, hts, hlocks⟩ := C0
  exact W.vret hx hb hr (fun t ht hW => ⟨rfl, ht⟩) (fun q hq => by cases hq) hdg hlocks
theorem rt_MV {n0 : Nat} (C0 : CX p s m args meth c own cc nL D cy) (M : ST D cy ad A s.heap (ZN n0 s.heap.size) S H locs) (hr : meth.sig.returnType = none) (hdg : decode cc pc = .ok (.return_, 1)) : W p l e R s m args below meth c H locs cells slots (MQ below (QcM D cy ad A n0 S (none)) args s cells slots A) (F0 m pc ls []) := by
  obtain ⟨hx, hb, hml, hown, hG, hts, hlocks⟩ := C0
  obtain ⟨hM, hS, hz1, hz2⟩ := M
  exact W.vret hx hb hr (fun t ht hW => ⟨rfl, by rw [ht]; exact hM, ⟨by rw [ht]; exact hz2, hz1⟩, fun q h1 h2 => by rw [ht]; exact hS.2.1 q h1 h2⟩) hS.2.2 hdg hlocks
theorem rt_AV (C0 : CX p s m args meth c own cc nL D cy) (M : ST D cy ad A s.heap (ZA ad K0) S H locs) (hr : meth.sig.returnType = none) (hdg : decode cc pc = .ok (.return_, 1)) : W p l e R s m args below meth c H locs cells slots (MQ below (QcA D cy ad A K0 S (none)) args s cells slots A) (F0 m pc ls []) := by
  obtain ⟨hx, hb, hml, hown, hG, hts, hlocks⟩ := C0
  obtain ⟨hM, hS, hz⟩ := M
  exact W.vret hx hb hr (fun t ht hW => ⟨rfl, by rw [ht]; exact hM, ⟨by rw [ht]; exact hz, by rw [ht]; exact hS.1⟩, fun q h1 h2 => by rw [ht]; exact hS.2.1 q h1 h2⟩) hS.2.2 hdg hlocks
end KC
theorem Met_ofWF {l : Launch} {y : MethodName} {ws ws' : List Cond} {rm : Room} {Pc : Array Value → State → Prop} {Qc : Array Value → State → Outcome → State → Prop} {mc ms : Nat} {free : Addr → Prop} {cc : ByteArray} {maxL : Nat} {ret : Option FieldType}
    (hy : plainFor y = true) (hw : ws = Cond.code y cc maxL ret :: ws')
    (body : ∀ p e s m args below meth c s₁, BodyLoose p l y (headSpec ws rm) cc maxL ret e s m args below meth c s₁ → c.maxLocals = maxL → Pc args s →
      W p l e (headSpec ws rm).room s m args below meth c s.heap [] 0 0 (MQ below Qc args s mc ms free) (entryFrame m args maxL)) : Met l y ws rm Pc Qc mc ms free := by
  refine MetFree.of_bodySF (code := cc) (maxLocals := maxL) (ret := ret) hy ?_ ?_
  · intro args s m h hn
    obtain ⟨meth, c, h1, h2, h3, h4, h5, h6, -, -⟩ := Cond.code_spec hn (atoms_spec (ws := ws) h _ (by rw [hw]; exact List.mem_cons_self))
    exact ⟨meth, c, h1, h2, h3, h4, h5, h6⟩
  · intro p e s m args below meth c s₁ B hml hP _
    have hh0 : s₁.heap = s.heap := by rw [B.state]; rfl
    obtain ⟨t, a1, o, b1, b2, b3⟩ := body p e s m args below meth c s₁ B hml hP s₁ hh0 (Stand.of_body B)
    exact ⟨t, o, a1, b1, b2, ⟨b3.1, b3.2⟩⟩
section KM
variable {l : Launch} {y : MethodName} {cc : ByteArray} {maxL mc ms : Nat} {ret : Option FieldType} {rm : Room} {D : va_G} {cy : Nat → ClassId} {ad : Nat → Nat} {A : Nat → Prop} {K0 : Nat} {S S' : MS} {vs : List Value} {v : Option Value}
theorem met_S (hy : plainFor y = true) (hw : Cond.code y cc maxL ret ∈ UW) (hlen : (lg_sl vs).length ≤ maxL)
    (body : ∀ (p : Program) (e : Env) (s : State) (m : MethodId) (args : Array Value) (below : List Frame) (meth : Method) (c : Code) (ls : Array Slot), CX p s m args meth c y.cls cc maxL D cy → meth.sig.returnType = ret → lv_has ls maxL (lv_args 0 vs) → W p l e rm s m args below meth c s.heap [] 0 0 (MQ below (QcS v) args s 0 0 (fun _ => False)) (F0 m 0 ls [])) :
    Met l y [Cond.code y cc maxL ret] rm (PcS D cy vs) (QcS v) 0 0 (fun _ => False) := by
  refine Met_ofWF (cc := cc) (maxL := maxL) (ret := ret) hy rfl ?_
  intro p e s m args below meth c s₁ B hml hv
  obtain ⟨rfl, hG⟩ := hv
  have hl := lv_entry vs (n := maxL) hlen
  rw [lg_entry_eq]
  exact body p e s m _ below meth c _ ⟨B.exec, B.bytes, hml, findClass_of_methodNamed B.named, hG, fun w hw => gx_args (gx_all w hw) (hG.2 w hw), B.notSynchronized⟩ B.returns hl
theorem met_R (hy : plainFor y = true) (hw : Cond.code y cc maxL ret ∈ UW) (hlen : (lg_sl vs).length ≤ maxL)
    (body : ∀ (p : Program) (e : Env) (s : State) (m : MethodId) (args : Array Value) (below : List Frame) (meth : Method) (c : Code) (ls : Array Slot), CX p s m args meth c y.cls cc maxL D cy → MW D cy ad A S s.heap → meth.sig.returnType = ret → lv_has ls maxL (lv_args 0 vs) → W p l e rm s m args below meth c s.heap [] 0 0 (MQ below (QcS v) args s 0 0 (fun _ => False)) (F0 m 0 ls [])) :
    Met l y [Cond.code y cc maxL ret] rm (PcR D cy ad A S vs) (QcS v) 0 0 (fun _ => False) := by
  refine Met_ofWF (cc := cc) (maxL := maxL) (ret := ret) hy rfl ?_
  intro p e s m args below meth c s₁ B hml hv
  obtain ⟨rfl, hG, hM⟩ := hv
  have hl := lv_entry vs (n := maxL) hlen
  rw [lg_entry_eq]
  exact body p e s m _ below meth c _ ⟨B.exec, B.bytes, hml, findClass_of_methodNamed B.named, hG, fun w hw => gx_args (gx_all w hw) (hG.2 w hw), B.notSynchronized⟩ hM B.returns hl
theorem met_M (hy : plainFor y = true) (hw : Cond.code y cc maxL ret ∈ UW) (hlen : (lg_sl vs).length ≤ maxL)
    (body : ∀ (p : Program) (e : Env) (s : State) (m : MethodId) (args : Array Value) (below : List Frame) (meth : Method) (c : Code) (ls : Array Slot), CX p s m args meth c y.cls cc maxL D cy → ST D cy ad A s.heap (ZN (m_n S) s.heap.size) S s.heap [] → meth.sig.returnType = ret → meth.name = y.name → lv_has ls maxL (lv_args 0 vs) → W p l e rm s m args below meth c s.heap [] 0 0 (MQ below (QcM D cy ad A (m_n S) S' v) args s 0 0 A) (F0 m 0 ls [])) :
    Met l y [Cond.code y cc maxL ret] rm (PcR D cy ad A S vs) (QcM D cy ad A (m_n S) S' v) 0 0 A := by
  refine Met_ofWF (cc := cc) (maxL := maxL) (ret := ret) hy rfl ?_
  intro p e s m args below meth c s₁ B hml hv
  obtain ⟨rfl, hG, hM⟩ := hv
  have hl := lv_entry vs (n := maxL) hlen
  rw [lg_entry_eq]
  exact body p e s m _ below meth c _ ⟨B.exec, B.bytes, hml, findClass_of_methodNamed B.named, hG, fun w hw => gx_args (gx_all w hw) (hG.2 w hw), B.notSynchronized⟩ ⟨hM, va_S.rf, rfl, rfl⟩ B.returns (name_of_methodNamed B.named B.method).1 hl
theorem met_A (hy : plainFor y = true) (hw : Cond.code y cc maxL ret ∈ UW) (hlen : (lg_sl vs).length ≤ maxL)
    (body : ∀ (p : Program) (e : Env) (s : State) (m : MethodId) (args : Array Value) (below : List Frame) (meth : Method) (c : Code) (ls : Array Slot), CX p s m args meth c y.cls cc maxL D cy → EX ad A s → ST D cy ad A s.heap (ZA ad K0) S s.heap [] → meth.sig.returnType = ret → meth.name = y.name → lv_has ls maxL (lv_args 0 vs) → W p l e rm s m args below meth c s.heap [] 0 0 (MQ below (QcA D cy ad A K0 S' v) args s mc ms A) (F0 m 0 ls [])) :
    Met l y [Cond.code y cc maxL ret] rm (PcA D cy ad A K0 S vs) (QcA D cy ad A K0 S' v) mc ms A := by
  refine Met_ofWF (cc := cc) (maxL := maxL) (ret := ret) hy rfl ?_
  intro p e s m args below meth c s₁ B hml hv
  obtain ⟨rfl, hG, hE, hM, hz⟩ := hv
  have hl := lv_entry vs (n := maxL) hlen
  rw [lg_entry_eq]
  exact body p e s m _ below meth c _ ⟨B.exec, B.bytes, hml, findClass_of_methodNamed B.named, hG, fun w hw => gx_args (gx_all w hw) (hG.2 w hw), B.notSynchronized⟩ hE ⟨hM, va_S.rf, hz⟩ B.returns (name_of_methodNamed B.named B.method).1 hl
end KM
/-- a machine of labels, n steps of it -/
def rn {σ ρ : Type} (step : σ → Option (σ ⊕ ρ)) : Nat → σ → Option ρ
  | 0, _ => none
  | n + 1, s => match step s with
    | none => none
    | some (.inr r) => some r
    | some (.inl s') => rn step n s'
theorem rn_mono {σ ρ : Type} {step : σ → Option (σ ⊕ ρ)} {r : ρ} : ∀ {n : Nat} {s : σ}, rn step n s = some r → ∀ k, rn step (n + k) s = some r
  | 0, s, h, _ => by cases h
  | n + 1, s, h, k => by
    rw [Nat.add_right_comm]
    unfold rn at h ⊢
    cases hs : step s with
    | none => rw [hs] at h; cases h
    | some o =>
      rw [hs] at h
      cases o with
      | inl s' => exact rn_mono (n := n) (s := s') h k
      | inr r' => exact h
theorem rn_one {σ ρ : Type} {step : σ → Option (σ ⊕ ρ)} {r r' : ρ} {n n' : Nat} {s : σ} (h : rn step n s = some r) (h' : rn step n' s = some r') : r = r' := by
  have h1 := rn_mono h n'
  have h2 := rn_mono h' n
  rw [Nat.add_comm n' n] at h2
  exact Option.some.inj (h1.symm.trans h2)
theorem lim_ex {σ ρ : Type} (step : σ → Option (σ ⊕ ρ)) (s : σ) : ∃ o : Option ρ, ∀ r, o = some r ↔ ∃ n, rn step n s = some r := by
  by_cases h : ∃ r n, rn step n s = some r
  · obtain ⟨r, n, h⟩ := h
    refine ⟨some r, fun r' => ⟨fun e => ⟨n, by rw [← e]; exact h⟩, fun ⟨n', h'⟩ => congrArg some (rn_one h h')⟩⟩
  · exact ⟨none, fun r => ⟨fun e => (nomatch e), fun ⟨n, hn⟩ => absurd ⟨r, n, hn⟩ h⟩⟩
noncomputable def lim {σ ρ : Type} (step : σ → Option (σ ⊕ ρ)) (s : σ) : Option ρ := Classical.choose (lim_ex step s)
theorem lim_iff {σ ρ : Type} {step : σ → Option (σ ⊕ ρ)} {s : σ} {r : ρ} : lim step s = some r ↔ ∃ n, rn step n s = some r := Classical.choose_spec (lim_ex step s) r
/-- how a block's outcome goes on -/
noncomputable def fin {σ ρ : Type} (step : σ → Option (σ ⊕ ρ)) (o : Option (σ ⊕ ρ)) : Option ρ := match o with
  | none => none
  | some (.inr r) => some r
  | some (.inl s) => lim step s
theorem lim_eq {σ ρ : Type} (step : σ → Option (σ ⊕ ρ)) (s : σ) : lim step s = fin step (step s) := by
  have key : ∀ r, lim step s = some r ↔ fin step (step s) = some r := by
    intro r
    rw [lim_iff]
    cases hs : step s with
    | none =>
      refine ⟨fun ⟨n, h⟩ => ?_, fun h => by cases h⟩
      cases n with
      | zero => cases h
      | succ n => unfold rn at h; rw [hs] at h; cases h
    | some o =>
      cases o with
      | inr r' =>
        refine ⟨fun ⟨n, h⟩ => ?_, fun h => ⟨1, by unfold rn; rw [hs]; exact h⟩⟩
        cases n with
        | zero => cases h
        | succ n => unfold rn at h; rw [hs] at h; exact h
      | inl s' =>
        show _ ↔ lim step s' = some r
        rw [lim_iff]
        refine ⟨fun ⟨n, h⟩ => ?_, fun ⟨n, h⟩ => ⟨n + 1, by unfold rn; rw [hs]; exact h⟩⟩
        cases n with
        | zero => cases h
        | succ n => unfold rn at h; rw [hs] at h; exact ⟨n, h⟩
  cases h1 : lim step s with
  | some r => exact ((key r).mp h1).symm
  | none =>
    cases h2 : fin step (step s) with
    | some r => rw [(key r).mpr h2] at h1; cases h1
    | none => rfl
theorem fin_l {σ ρ : Type} {step : σ → Option (σ ⊕ ρ)} {s : σ} : fin step (some (.inl s)) = lim step s := rfl
theorem fin_r {σ ρ : Type} {step : σ → Option (σ ⊕ ρ)} {r : ρ} : fin step (some (.inr r)) = some r := rfl
/-- the walk of a machine of labels, by the number of its steps -/
theorem lim_walk {σ ρ : Type} {step : σ → Option (σ ⊕ ρ)} (Wk : σ → ρ → Prop) (h : ∀ (s : σ) (r : ρ) (o : σ ⊕ ρ), step s = some o → (∀ r', o = .inr r' → r' = r) → (∀ s', o = .inl s' → Wk s' r) → Wk s r) : ∀ (s : σ) (r : ρ), lim step s = some r → Wk s r := by
  intro s r hl
  obtain ⟨n, hn⟩ := lim_iff.mp hl
  clear hl
  induction n generalizing s with
  | zero => cases hn
  | succ n ih =>
    unfold rn at hn
    cases hs : step s with
    | none => rw [hs] at hn; cases hn
    | some o =>
      rw [hs] at hn
      refine h s r o hs (fun r' e => ?_) (fun s' e => ?_)
      · subst e
        exact Option.some.inj hn
      · subst e
        exact ih s' hn
theorem o_nz_ne {x v : Int32} (h : o_nz x = some v) : ¬ x = 0 := by
  intro e
  unfold o_nz at h
  rw [if_pos e] at h
  cases h
theorem tsw {x : Int32} {n : Nat} (hn : n < 2 ^ 31) (h : ∀ k, k < n → ¬ x = nI k) : x.toInt < 0 ∨ (n : Int) - 1 < x.toInt := by
  by_cases h0 : x.toInt < 0
  · exact Or.inl h0
  · by_cases h1 : (n : Int) - 1 < x.toInt
    · exact Or.inr h1
    · exfalso
      refine h x.toInt.toNat (by omega) (Int32.toInt_inj.mp ?_)
      rw [nI_toInt (by omega)]
      omega
theorem tne {x y : Int32} {k : Int} (h : ¬ x = y) (hy : y.toInt = k) : ¬ x.toInt = k := fun e => h (Int32.toInt_inj.mp (e.trans hy.symm))
