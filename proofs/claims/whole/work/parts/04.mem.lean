/-- the kinds of the fields of each class of vwCl -/
def KF : Nat → List Nat
  | 0 => [0, 2, 0]
  | 1 => [0, 2, 2, 0, 2, 0, 0, 0, 2, 2]
  | 2 => [2, 2, 0, 0, 2, 2, 2, 0, 0]
  | 3 => [0, 2, 2, 2, 0, 0]
  | 4 => [0, 0, 0, 0, 2]
  | 5 => [2, 2, 2]
  | 6 => [2, 2, 2]
  | 7 => [0, 0, 0, 0, 0, 0]
  | 8 => [0, 0, 2]
  | 9 => [0, 0, 0, 0, 2, 2]
  | 10 => [2, 2, 0, 2, 2, 2, 2, 2, 2, 2, 2, 0, 0]
  | 11 => [0, 0, 2, 2, 2, 2, 2, 2, 0, 2, 2, 2, 2, 2, 2, 0, 0, 0, 0, 0, 2, 2, 2, 0, 2, 2, 2, 2, 2, 2, 2, 2, 2, 2, 2, 2, 2, 2, 0, 2, 2, 0, 1, 1, 0, 2, 2, 2, 2, 0, 2, 2, 2, 2, 2, 2, 2, 0]
  | _ => []
/-! the abstract memory: cells by number; a claim's own worlds -/
abbrev MS : Type := Nat × (Nat → Nat) × (Nat → Nat) × (Nat → Nat → Int32) × (Nat → Nat → Int64) × (Nat → Nat → Option Nat)
def m_n (S : MS) : Nat := S.1
def m_K (S : MS) (a : Nat) : Nat := S.2.1 a
def m_L (S : MS) (a : Nat) : Nat := S.2.2.1 a
def m_I (S : MS) (a : Nat) : Nat → Int32 := S.2.2.2.1 a
def m_J (S : MS) (a : Nat) : Nat → Int64 := S.2.2.2.2.1 a
def m_P (S : MS) (a : Nat) : Nat → Option Nat := S.2.2.2.2.2 a
def m_sI (S : MS) (a : Nat) (f : Nat → Int32) : MS := (S.1, S.2.1, S.2.2.1, va_up S.2.2.2.1 a f, S.2.2.2.2.1, S.2.2.2.2.2)
def m_sJ (S : MS) (a : Nat) (f : Nat → Int64) : MS := (S.1, S.2.1, S.2.2.1, S.2.2.2.1, va_up S.2.2.2.2.1 a f, S.2.2.2.2.2)
def m_sP (S : MS) (a : Nat) (f : Nat → Option Nat) : MS := (S.1, S.2.1, S.2.2.1, S.2.2.2.1, S.2.2.2.2.1, va_up S.2.2.2.2.2 a f)
/-- a new cell: its number is one more than there were -/
def m_new (S : MS) (k ln : Nat) : MS := (S.1 + 1, va_up S.2.1 (S.1 + 1) k, va_up S.2.2.1 (S.1 + 1) ln, va_up S.2.2.2.1 (S.1 + 1) (fun _ => 0), va_up S.2.2.2.2.1 (S.1 + 1) (fun _ => 0), va_up S.2.2.2.2.2 (S.1 + 1) (fun _ => none))
/-- field kinds: 0 int, 1 long, 2 reference -/
def c_fv (ad : Nat → Nat) (i : Nat → Int32) (j : Nat → Int64) (p : Nat → Option Nat) (k t : Nat) : Value := if t = 0 then .int (i k) else if t = 1 then .long (j k) else va_re ad (p k)
def c_fs (ad : Nat → Nat) (i : Nat → Int32) (j : Nat → Int64) (p : Nat → Option Nat) : List Nat → Nat → List Value
  | [], _ => []
  | t :: ts, k => c_fv ad i j p k t :: c_fs ad i j p ts (k + 1)
theorem c_fs_get (ad : Nat → Nat) (i : Nat → Int32) (j : Nat → Int64) (p : Nat → Option Nat) : ∀ (ts : List Nat) (k x : Nat), (c_fs ad i j p ts k)[x]? = (ts[x]?).map (fun t => c_fv ad i j p (k + x) t)
  | [], k, x => by simp [c_fs]
  | t :: ts, k, 0 => by simp [c_fs]
  | t :: ts, k, x + 1 => by
    rw [c_fs, List.getElem?_cons_succ, List.getElem?_cons_succ, c_fs_get ad i j p ts (k + 1) x, show k + 1 + x = k + (x + 1) by omega]
theorem c_fs_len (ad : Nat → Nat) (i : Nat → Int32) (j : Nat → Int64) (p : Nat → Option Nat) : ∀ (ts : List Nat) (k : Nat), (c_fs ad i j p ts k).length = ts.length
  | [], k => rfl
  | t :: ts, k => by rw [c_fs, List.length_cons, List.length_cons, c_fs_len ad i j p ts (k + 1)]
theorem c_fs_set (ad : Nat → Nat) (i i' : Nat → Int32) (j j' : Nat → Int64) (p p' : Nat → Option Nat) (ts : List Nat) (k x : Nat) (v : Value)
    (h : ∀ y t, ts[y]? = some t → c_fv ad i' j' p' (k + y) t = if y = x then v else c_fv ad i j p (k + y) t) : (c_fs ad i j p ts k).set x v = c_fs ad i' j' p' ts k := by
  apply List.ext_getElem?
  intro y
  rw [c_fs_get, List.getElem?_set, c_fs_get, c_fs_len]
  cases hy : ts[y]? with
  | none =>
    have hl : ts.length ≤ y := by simpa using hy
    by_cases e : x = y
    · rw [if_pos e, if_neg (by omega)]; rfl
    · rw [if_neg e]; rfl
  | some t =>
    have hl : y < ts.length := (List.getElem?_eq_some_iff.mp hy).1
    by_cases e : x = y
    · subst e
      rw [if_pos rfl, if_pos hl]
      simp [h x t hy]
    · rw [if_neg e]
      simp [h y t hy, Ne.symm e]
/-- a cell of a kind: 0 .. 11 objects (by vwCl), 12 int[], 13 boolean[], 14 .. arrays of references -/
def c_ce (cy : Nat → ClassId) (ad : Nat → Nat) (K ln : Nat) (i : Nat → Int32) (j : Nat → Int64) (p : Nat → Option Nat) : va_E :=
  if K < 12 then .inr (K, c_fs ad i j p (KF K) 0) else .inl (cy K, ln, if K < 14 then .inl i else .inr (.inr (.inr (.inr (fun x => (p x).map ad)))))
def m_ce (cy : Nat → ClassId) (ad : Nat → Nat) (S : MS) (a : Nat) : va_E := c_ce cy ad (m_K S a) (m_L S a) (m_I S a) (m_J S a) (m_P S a)
def m_ws (cy : Nat → ClassId) (ad : Nat → Nat) (S : MS) : va_W := (List.range (m_n S)).map (fun k => (ad (k + 1), m_ce cy ad S (k + 1)))
def MW (D : va_G) (cy : Nat → ClassId) (ad : Nat → Nat) (A : Nat → Prop) (S : MS) (H : Heap) : Prop := va_P D vwCl (m_ws cy ad S) H ∧ va_D A (m_ws cy ad S)
def m_tys (cy : Nat → ClassId) : List (ClassId × FieldType) := [(cy 12, .int), (cy 13, .boolean), (cy 14, .object "ChartRoom$Sheet"), (cy 15, .object "java/lang/Object"), (cy 16, .array .int)]
theorem m_ws_at {cy : Nat → ClassId} {ad : Nat → Nat} {S : MS} {a : Nat} (h0 : 0 < a) (hn : a ≤ m_n S) : (m_ws cy ad S)[a - 1]? = some (ad a, m_ce cy ad S a) := by
  unfold m_ws
  rw [List.getElem?_map, List.getElem?_range (by omega)]
  simp [show a - 1 + 1 = a by omega]
theorem m_ws_len {cy : Nat → ClassId} {ad : Nat → Nat} {S : MS} : (m_ws cy ad S).length = m_n S := by simp [m_ws]
theorem m_ws_set {cy : Nat → ClassId} {ad : Nat → Nat} {S S' : MS} {a : Nat} (h0 : 0 < a) (hn : a ≤ m_n S) (hS : m_n S' = m_n S) (ho : ∀ b, b ≠ a → m_ce cy ad S' b = m_ce cy ad S b) {e : va_E} (he : e = m_ce cy ad S' a) : (m_ws cy ad S).set (a - 1) (ad a, e) = m_ws cy ad S' := by
  subst he
  apply List.ext_getElem?
  intro y
  rw [List.getElem?_set, m_ws_len]
  by_cases e : a - 1 = y
  · rw [if_pos e, if_pos (by omega), ← e, m_ws_at h0 (by omega)]
  · rw [if_neg e]
    unfold m_ws
    rw [hS, List.getElem?_map, List.getElem?_map]
    by_cases hy : y < m_n S
    · rw [List.getElem?_range hy]
      simp [ho (y + 1) (by omega)]
    · rw [List.getElem?_eq_none (by simpa using hy)]
      rfl
theorem m_ws_new {cy : Nat → ClassId} {ad : Nat → Nat} {S : MS} {k ln : Nat} : m_ws cy ad (m_new S k ln) = m_ws cy ad S ++ [(ad (m_n S + 1), c_ce cy ad k ln (fun _ => 0) (fun _ => 0) (fun _ => none))] := by
  unfold m_ws
  rw [show m_n (m_new S k ln) = m_n S + 1 from rfl, List.range_succ, List.map_append]
  congr 1
  · apply List.map_congr_left
    intro b hb
    have hb := List.mem_range.mp hb
    have hne : b + 1 ≠ S.1 + 1 := fun h => by have : b < S.1 := hb; omega
    simp [m_ce, m_new, m_K, m_L, m_I, m_J, m_P, va_up, show b ≠ S.1 by omega]
  · simp [m_ce, m_new, m_K, m_L, m_I, m_J, m_P, va_up, m_n]
def gx_word : Cond → Bool
  | .methodLinkNest _ _ _ _ => true
  | .castable _ _ => true
  | .declares _ => true
  | .arrayOver (.object _) => true
  | .arrayOver (.array .int) => true
  | w => goodWord w
/-- the tables' words that stay when the machine's tables grow warm -/
def UW : List Cond := lw_tbl.filter gx_word
theorem gx_all : ∀ w ∈ UW, gx_word w = true := fun _ h => (List.mem_filter.mp h).2
theorem uw_of {w : Cond} (i : Nat) (h : lw_tbl[i]? = some w) (hg : gx_word w = true) : w ∈ UW := List.mem_filter.mpr ⟨List.mem_of_getElem? h, hg⟩
/-- what a method's start says of the machine: classes, array classes, the tables' words -/
def GK (D : va_G) (cy : Nat → ClassId) (U : State) : Prop := va_K D vwCl (m_tys cy) U ∧ ∀ w ∈ UW, w.before #[] U = true
theorem gx_AOs {u : State} (h : (Cond.arrayOver (.array .int)).before #[] u = true) : ∃ comp c k, u.vm.findClass (FieldType.array .int).toString = some comp ∧ (u.vm.classes.findIdx? fun x => match x.kind with | .array component _ => component == comp | _ => false) = some c ∧ u.vm.classes[c]? = some k ∧ k.kind = .array comp (.array .int) ∧ u.vm.findClass ("[" ++ (FieldType.array .int).toString) = some c := by
  unfold Cond.before at h
  simp only [Cond.holds, Cond.value, beq_iff_eq] at h
  cases hc : u.vm.findClass (FieldType.array .int).toString with
  | none => simp [hc] at h
  | some comp =>
    simp only [hc, Option.bind_some, Option.bind_eq_some_iff, Option.map_eq_some_iff] at h
    obtain ⟨c, hi, k, hk, hb⟩ := h
    obtain ⟨hlt, hp, -⟩ := Array.findIdx?_eq_some_iff_getElem.mp hi
    have hkk : u.vm.classes[c] = k := (Array.getElem?_eq_some_iff.mp hk).2
    rw [hkk] at hp
    cases hkind : k.kind with
    | array component ty =>
      rw [hkind] at hb hp
      simp at hb hp
      exact ⟨comp, c, k, rfl, hi, hk, by rw [hkind, hp, hb.1], hb.2⟩
    | _ => rw [hkind] at hb; simp at hb
theorem gx_AOI {u U : State} (hvm : u.vm.Alike U.vm) (h : (Cond.arrayOver (.array .int)).before #[] u = true) : (Cond.arrayOver (.array .int)).before #[] U = true := by
  obtain ⟨comp, c, k, h1, h2, h3, h4, h5⟩ := gx_AOs h
  obtain ⟨k', hk', he⟩ := hvm.2.2 _ _ h3
  have hi : (U.vm.classes.findIdx? fun (x : Class) => match x.kind with | .array component _ => component == comp | _ => false) = some c := by
    have hbb : U.vm.bare = u.vm.bare := by first | exact hvm.bare_eq | exact hvm.bare_eq.symm
    exact (va_idx_bare U.vm comp).symm.trans (Eq.trans (by rw [hbb]) ((va_idx_bare u.vm comp).trans h2))
  have hkind : k'.kind = .array comp (.array .int) := by rw [he]; exact h4
  have f1 : U.vm.findClass (FieldType.array .int).toString = some comp := by rw [hvm.findClass]; exact h1
  have f2 : U.vm.findClass ("[" ++ (FieldType.array .int).toString) = some c := by rw [hvm.findClass]; exact h5
  unfold Cond.before Cond.holds
  simp only [Cond.value]
  rw [f1, Option.bind_some]
  refine (congrArg (fun o : Option Nat => (o.bind (fun c => (U.vm.classes[c]?).map fun (k : Class) => match k.kind with | .array _ ty => decide (ty = FieldType.array .int) && decide (U.vm.findClass ("[" ++ (FieldType.array .int).toString) = some c) | _ => false) == some true)) hi).trans ?_
  simp [hk', hkind, f2]
theorem gx_moved {w : Cond} (hg : gx_word w = true) {s U : State} (hW : s.WarmedH U.vm) (h : w.before #[] s = true) : w.before #[] U = true := by
  unfold gx_word at hg
  split at hg
  · exact va_Nw.warmM hW h
  · exact va_Nw.warmC hW h
  · exact va_Nw.warmD hW h
  · exact va_AO.moved hW.alike h
  · exact gx_AOI hW.alike h
  · exact word_at hW (good_of_word hg) h
theorem gx_args {w : Cond} (hg : gx_word w = true) {s : State} {args : Array Value} (h : w.before #[] s = true) : w.before args s = true := by
  unfold gx_word at hg
  split at hg
  · exact va_Nw.use rfl h
  · exact va_Nw.use rfl h
  · exact va_Nw.use rfl h
  · exact va_AO.use h
  · exact h
  · exact word_at (State.WarmedH.refl s) (good_of_word hg) h
theorem GK.moved {D : va_G} {cy : Nat → ClassId} {s U : State} (hW : s.WarmedH U.vm) (h : GK D cy s) : GK D cy U := ⟨va_K.moved hW.alike h.1, fun w hw => gx_moved (gx_all w hw) hW (h.2 w hw)⟩
theorem GK.at {D : va_G} {cy : Nat → ClassId} {s : State} {args : Array Value} (h : GK D cy s) : ∀ w ∈ UW, w.before args s = true := fun w hw => gx_args (gx_all w hw) (h.2 w hw)
theorem GK.blind {D : va_G} {cy : Nat → ClassId} {U : State} {g : JFrame} {mk : MethodId} {a : Array Value} (h : GK D cy U) : GK D cy (U.calling g mk a) := GK.moved (State.WarmedH.refl U) h
/-- what holds all through a method's walk -/
def CX (p : Program) (s : State) (m : MethodId) (args : Array Value) (meth : Method) (c : Code) (own : String) (cc : ByteArray) (nL : Nat) (D : va_G) (cy : Nat → ClassId) : Prop :=
  p.tables.exec = Jvm.exec ∧ c.code = cc ∧ c.maxLocals = nL ∧ s.vm.findClass own = some m.cls ∧ GK D cy s ∧ (∀ w ∈ UW, w.before args s = true) ∧ meth.locks = false
/-- the world in a method's walk -/
def ST (D : va_G) (cy : Nat → ClassId) (ad : Nat → Nat) (A : Nat → Prop) (H0 : Heap) (zz : Nat → Nat → Prop) (S : MS) (H : Heap) (locs : List Loc) : Prop := MW D cy ad A S H ∧ va_S A H0 H locs ∧ zz (m_n S) H.size
/-- a field's link -/
def FL (own : String) (index ci k t : Nat) (ty : FieldType) (fin : Nat) : Prop := ∃ (C ref : String) (T : u_T) (N : Nat) (ty0 : Nat → FieldType), vwCl[ci]? = some (C, T, N) ∧ (∀ w ∈ u_ws C T N, w ∈ UW) ∧ (∀ x, x < N → parseFieldDescriptor (T x).2.2.1 = some (ty0 x)) ∧ (∀ a, a < N → ∀ b, b < N → a ≠ b → (T a).2.1 ≠ (T b).2.1) ∧
  k < N ∧ (KF ci)[k]? = some t ∧ ci < 12 ∧ Cond.fieldLink own index ref (T k).2.1 (T k).2.2.1 ∈ UW ∧ (ref = (T k).1 ∨ Cond.sameField ref (T k).1 (T k).2.1 (T k).2.2.1 ∈ UW) ∧ parseFieldDescriptor (T k).2.2.1 = some ty ∧ (fin = 0 → (T k).2.2.2 = false) ∧ (fin = 1 → (T k).2.2.2 = true ∧ (T k).1 = own) ∧ (KF ci).length = N
/-- the memory's own operations: none where the machine would throw, or the cell is of another kind -/
def o_gI (S : MS) (a ci k : Nat) : Option Int32 := if 0 < a ∧ a ≤ m_n S ∧ m_K S a = ci then some (m_I S a k) else none
def o_gJ (S : MS) (a ci k : Nat) : Option Int64 := if 0 < a ∧ a ≤ m_n S ∧ m_K S a = ci then some (m_J S a k) else none
def o_gP (S : MS) (a ci k : Nat) : Option Nat := if 0 < a ∧ a ≤ m_n S ∧ m_K S a = ci then m_P S a k else none
def o_sI (S : MS) (a ci k : Nat) (v : Int32) : Option MS := if 0 < a ∧ a ≤ m_n S ∧ m_K S a = ci then some (m_sI S a (upd (m_I S a) k v)) else none
def o_sJ (S : MS) (a ci k : Nat) (v : Int64) : Option MS := if 0 < a ∧ a ≤ m_n S ∧ m_K S a = ci then some (m_sJ S a (va_up (m_J S a) k v)) else none
def o_sP (S : MS) (a ci k : Nat) (v : Nat) : Option MS := if 0 < a ∧ a ≤ m_n S ∧ m_K S a = ci then some (m_sP S a (va_up (m_P S a) k (some v))) else none
def o_ln (S : MS) (a kd : Nat) : Option Int32 := if 0 < a ∧ a ≤ m_n S ∧ m_K S a = kd then some (Int32.ofNat (m_L S a)) else none
def o_ld (S : MS) (a kd : Nat) (i : Int32) : Option Int32 := if (0 < a ∧ a ≤ m_n S ∧ m_K S a = kd) ∧ ¬ (i < 0 ∨ m_L S a ≤ i.toNatClampNeg) then some (m_I S a i.toNatClampNeg) else none
def o_st (S : MS) (a kd : Nat) (i v : Int32) : Option MS := if (0 < a ∧ a ≤ m_n S ∧ m_K S a = kd) ∧ ¬ (i < 0 ∨ m_L S a ≤ i.toNatClampNeg) then some (m_sI S a (upd (m_I S a) i.toNatClampNeg v)) else none
def o_ldP (S : MS) (a kd : Nat) (i : Int32) : Option Nat := if (0 < a ∧ a ≤ m_n S ∧ m_K S a = kd) ∧ ¬ (i < 0 ∨ m_L S a ≤ i.toNatClampNeg) then m_P S a i.toNatClampNeg else none
def o_stP (S : MS) (a kd : Nat) (i : Int32) (v kv : Nat) : Option MS := if ((0 < a ∧ a ≤ m_n S ∧ m_K S a = kd) ∧ (0 < v ∧ v ≤ m_n S ∧ m_K S v = kv)) ∧ ¬ (i < 0 ∨ m_L S a ≤ i.toNatClampNeg) then some (m_sP S a (va_up (m_P S a) i.toNatClampNeg (some v))) else none
/-- a cast that must hold -/
def o_is (S : MS) (a kd : Nat) : Option Nat := if 0 < a ∧ a ≤ m_n S ∧ m_K S a = kd then some a else none
/-- a divisor that isn't 0 -/
def o_nz (x : Int32) : Option Int32 := if x = 0 then none else some x
/-- a boolean -/
def o_zb (x : Int32) : Option Int32 := if x = 0 ∨ x = 1 then some x else none
/-- a length within a bound -/
def o_le (b : Nat) (x : Int32) : Option Nat := if ¬ x < 0 ∧ x.toNatClampNeg ≤ b then some x.toNatClampNeg else none
def b2 {α β γ : Type} (o : Option (α × β)) (f : α → β → Option γ) : Option γ := o.bind (fun q => f q.1 q.2)
theorem ob {α γ : Type} {o : Option α} {f : α → Option γ} {r : γ} (h : o.bind f = some r) : ∃ a, o = some a ∧ f a = some r := Option.bind_eq_some_iff.mp h
theorem ob2 {α β γ : Type} {o : Option (α × β)} {f : α → β → Option γ} {r : γ} (h : b2 o f = some r) : ∃ a b, o = some (a, b) ∧ f a b = some r := by
  obtain ⟨⟨a, b⟩, h1, h2⟩ := Option.bind_eq_some_iff.mp h
  exact ⟨a, b, h1, h2⟩
theorem o_if {α : Type} {c : Prop} {inst : Decidable c} {x : α} {v : α} (h : (if c then some x else none) = some v) : c ∧ x = v := by
  by_cases hc : c
  · rw [if_pos hc] at h
    exact ⟨hc, Option.some.inj h⟩
  · rw [if_neg hc] at h
    cases h
theorem o_if2 {α : Type} {c : Prop} {inst : Decidable c} {x : Option α} {v : α} (h : (if c then x else none) = some v) : c ∧ x = some v := by
  by_cases hc : c
  · rw [if_pos hc] at h
    exact ⟨hc, h⟩
  · rw [if_neg hc] at h
    cases h
/-- a branch -/
theorem oi_t {α : Type} {c : Prop} {inst : Decidable c} {a b : α} {r : α} (hc : c) (h : (if c then a else b) = r) : a = r := by rw [if_pos hc] at h; exact h
theorem oi_f {α : Type} {c : Prop} {inst : Decidable c} {a b : α} {r : α} (hc : ¬ c) (h : (if c then a else b) = r) : b = r := by rw [if_neg hc] at h; exact h
theorem m_ce_obj {cy : Nat → ClassId} {ad : Nat → Nat} {S : MS} {a ci : Nat} (hK : m_K S a = ci) (hc : ci < 12) : m_ce cy ad S a = .inr (ci, c_fs ad (m_I S a) (m_J S a) (m_P S a) (KF ci) 0) := by
  unfold m_ce c_ce
  rw [hK, if_pos hc]
theorem m_ce_int {cy : Nat → ClassId} {ad : Nat → Nat} {S : MS} {a kd : Nat} (hK : m_K S a = kd) (h1 : 12 ≤ kd) (h2 : kd < 14) : m_ce cy ad S a = .inl (cy kd, m_L S a, .inl (m_I S a)) := by
  unfold m_ce c_ce
  rw [hK, if_neg (by omega), if_pos h2]
theorem m_ce_ref {cy : Nat → ClassId} {ad : Nat → Nat} {S : MS} {a kd : Nat} (hK : m_K S a = kd) (h1 : 14 ≤ kd) : m_ce cy ad S a = .inl (cy kd, m_L S a, .inr (.inr (.inr (.inr (fun x => (m_P S a x).map ad))))) := by
  unfold m_ce c_ce
  rw [hK, if_neg (by omega), if_neg (by omega)]
theorem m_sI_o {cy : Nat → ClassId} {ad : Nat → Nat} {S : MS} {a b : Nat} {f : Nat → Int32} (h : b ≠ a) : m_ce cy ad (m_sI S a f) b = m_ce cy ad S b := by simp [m_ce, m_sI, m_K, m_L, m_I, m_J, m_P, va_up, h]
theorem m_sJ_o {cy : Nat → ClassId} {ad : Nat → Nat} {S : MS} {a b : Nat} {f : Nat → Int64} (h : b ≠ a) : m_ce cy ad (m_sJ S a f) b = m_ce cy ad S b := by simp [m_ce, m_sJ, m_K, m_L, m_I, m_J, m_P, va_up, h]
theorem m_sP_o {cy : Nat → ClassId} {ad : Nat → Nat} {S : MS} {a b : Nat} {f : Nat → Option Nat} (h : b ≠ a) : m_ce cy ad (m_sP S a f) b = m_ce cy ad S b := by simp [m_ce, m_sP, m_K, m_L, m_I, m_J, m_P, va_up, h]
theorem m_sI_s {S : MS} {a : Nat} {f : Nat → Int32} : m_I (m_sI S a f) a = f := by simp [m_sI, m_I, va_up]
theorem m_sJ_s {S : MS} {a : Nat} {f : Nat → Int64} : m_J (m_sJ S a f) a = f := by simp [m_sJ, m_J, va_up]
theorem m_sP_s {S : MS} {a : Nat} {f : Nat → Option Nat} : m_P (m_sP S a f) a = f := by simp [m_sP, m_P, va_up]
section KR
variable {p : Program} {l : Launch} {e : Env} {R : Room} {s : State} {m : MethodId} {args : Array Value} {below : List Frame} {meth : Method} {c : Code} {H : Heap} {locs : List Loc} {cells slots : Nat} {Q : State → Prop}
variable {cc : ByteArray} {pc nL : Nat} {ls : Array Slot} {rest : List Value} {D : va_G} {cy : Nat → ClassId} {ad : Nat → Nat} {A : Nat → Prop} {H0 : Heap} {S : MS} {own : String} {zz : Nat → Nat → Prop}
theorem fl_same {ref owner name desc : String} (hts : ∀ w ∈ UW, w.before args s = true) (h : ref = owner ∨ Cond.sameField ref owner name desc ∈ UW) : ∀ x, s.fieldFound? owner name desc = some x → s.fieldFound? ref name desc = some x := by
  intro x hx
  rcases h with h | h
  · rw [h]; exact hx
  · exact u_same (hts _ h) x hx
theorem k_getI (C0 : CX p s m args meth c own cc nL D cy) (M : MW D cy ad A S H) {a ci k index : Nat} {ty : FieldType} {fin : Nat} {v : Int32} (hg : o_gI S a ci k = some v) (hf : FL own index ci k 0 ty fin) (hdg : decode cc pc = .ok (.getfield index, 3))
    (kk : W p l e R s m args below meth c H locs cells slots Q (F0 m (pc + 3) ls (.int v :: rest))) : W p l e R s m args below meth c H locs cells slots Q (F0 m pc ls (.ref (ad a) :: rest)) := by
  obtain ⟨hx, hb, -, hown, hG, hts, -⟩ := C0
  obtain ⟨C, ref, T, N, ty0, hc, hin, hty, hnm, hk, hkf, hci, hl, hsm, -⟩ := hf
  obtain ⟨⟨h0, hn, hK⟩, e1⟩ := o_if hg
  have he := m_ws_at (cy := cy) (ad := ad) h0 hn
  rw [m_ce_obj hK hci] at he
  refine va_get (v := .int v) hx hb hts hin hown hG.1 M.1 (a - 1) he hc k hk (hts _ hl) (fl_same hts hsm) ?_ hdg kk
  rw [c_fs_get, hkf, ← e1]
  simp [c_fv]
theorem k_getJ (C0 : CX p s m args meth c own cc nL D cy) (M : MW D cy ad A S H) {a ci k index : Nat} {ty : FieldType} {fin : Nat} {v : Int64} (hg : o_gJ S a ci k = some v) (hf : FL own index ci k 1 ty fin) (hdg : decode cc pc = .ok (.getfield index, 3))
    (kk : W p l e R s m args below meth c H locs cells slots Q (F0 m (pc + 3) ls (.long v :: rest))) : W p l e R s m args below meth c H locs cells slots Q (F0 m pc ls (.ref (ad a) :: rest)) := by
  obtain ⟨hx, hb, -, hown, hG, hts, -⟩ := C0
  obtain ⟨C, ref, T, N, ty0, hc, hin, hty, hnm, hk, hkf, hci, hl, hsm, -⟩ := hf
  obtain ⟨⟨h0, hn, hK⟩, e1⟩ := o_if hg
  have he := m_ws_at (cy := cy) (ad := ad) h0 hn
  rw [m_ce_obj hK hci] at he
  refine va_get (v := .long v) hx hb hts hin hown hG.1 M.1 (a - 1) he hc k hk (hts _ hl) (fl_same hts hsm) ?_ hdg kk
  rw [c_fs_get, hkf, ← e1]
  simp [c_fv]
theorem k_getP (C0 : CX p s m args meth c own cc nL D cy) (M : MW D cy ad A S H) {a ci k index : Nat} {ty : FieldType} {fin : Nat} {v : Nat} (hg : o_gP S a ci k = some v) (hf : FL own index ci k 2 ty fin) (hdg : decode cc pc = .ok (.getfield index, 3))
    (kk : W p l e R s m args below meth c H locs cells slots Q (F0 m (pc + 3) ls (.ref (ad v) :: rest))) : W p l e R s m args below meth c H locs cells slots Q (F0 m pc ls (.ref (ad a) :: rest)) := by
  obtain ⟨hx, hb, -, hown, hG, hts, -⟩ := C0
  obtain ⟨C, ref, T, N, ty0, hc, hin, hty, hnm, hk, hkf, hci, hl, hsm, -⟩ := hf
  obtain ⟨⟨h0, hn, hK⟩, e1⟩ := o_if2 hg
  have he := m_ws_at (cy := cy) (ad := ad) h0 hn
  rw [m_ce_obj hK hci] at he
  refine va_get (v := .ref (ad v)) hx hb hts hin hown hG.1 M.1 (a - 1) he hc k hk (hts _ hl) (fl_same hts hsm) ?_ hdg kk
  rw [c_fs_get, hkf]
  simp [c_fv, e1, va_re, va_rf]
theorem ST.upd {S' : MS} {a b : Nat} {e0 : va_E} {H1 : Heap} (h : ST D cy ad A H0 zz S H locs) (h0 : 0 < a) (hn : a ≤ m_n S) (hS : m_n S' = m_n S) (ho : ∀ b, b ≠ a → m_ce cy ad S' b = m_ce cy ad S b) (he : va_at D vwCl (ad a, m_ce cy ad S' a) H1) (hz : H1.size = H.size) (oq : ∀ q : Nat, q ≠ ad a → H1[q]? = H[q]?) : ST D cy ad A H0 zz S' H1 (locs ++ [⟨ad a, b⟩]) := by
  obtain ⟨⟨hP, hD⟩, hV, hs⟩ := h
  have hat := m_ws_at (cy := cy) (ad := ad) h0 hn
  have hw := m_ws_set (cy := cy) (ad := ad) h0 hn hS ho rfl
  refine ⟨⟨?_, ?_⟩, ?_, ?_⟩
  · rw [← hw]; exact hP.set hD hat he oq
  · rw [← hw]; exact hD.set hat
  · exact hV.put hz oq (hD.2 _ _ hat)
  · rw [hS, hz]; exact hs
/-- a store into a field that isn't final -/
theorem k_put (C0 : CX p s m args meth c own cc nL D cy) (M : ST D cy ad A H0 zz S H locs) {S' : MS} {a ci k t index : Nat} {ty : FieldType} {v : Value} (hm : 0 < a ∧ a ≤ m_n S ∧ m_K S a = ci) (hS : m_n S' = m_n S) (hK' : m_K S' a = ci) (ho : ∀ b, b ≠ a → m_ce cy ad S' b = m_ce cy ad S b)
    (hv : ∀ y t, (KF ci)[y]? = some t → c_fv ad (m_I S' a) (m_J S' a) (m_P S' a) y t = if y = k then v else c_fv ad (m_I S a) (m_J S a) (m_P S a) y t) (hf : FL own index ci k t ty 0) (hn : narrow ty v = v) (hfit : fits ty v = true) (hdg : decode cc pc = .ok (.putfield index, 3))
    (kk : ∀ (H1 : Heap) (locs1 : List Loc), ST D cy ad A H0 zz S' H1 locs1 → W p l e R s m args below meth c H1 locs1 cells slots Q (F0 m (pc + 3) ls rest)) : W p l e R s m args below meth c H locs cells slots Q (F0 m pc ls (v :: .ref (ad a) :: rest)) := by
  obtain ⟨hx, hb, -, hown, hG, hts, -⟩ := C0
  obtain ⟨C, ref, T, N, ty0, hc, hin, hty, hnm, hk, hkf, hci, hl, hsm, hd, hfin, -, hlen⟩ := hf
  have hfin := hfin rfl
  obtain ⟨h0, hn0, hK⟩ := hm
  have he := m_ws_at (cy := cy) (ad := ad) h0 hn0
  rw [m_ce_obj hK hci] at he
  have hap := va_apart (own := own) hts hin ty0 hty hnm hG.1 hc
  obtain ⟨r, h1, cell, q1, q2, q3, q4⟩ := M.1.1 _ _ he
  have hr : r = (C, T, N) := Option.some.inj (h1.symm.trans hc)
  subst hr
  obtain ⟨hSl, hfc, kC, hkC, hkind⟩ := hG.1.1 ci _ hc
  obtain ⟨cf, kf, fi, f, hi, hsl⟩ := hSl k hk
  have hlay := hts _ (hin _ (u_in_lay hk))
  unfold u_lay at hlay
  rw [if_neg (by rw [hfin]; decide)] at hlay
  have hst := (u_facts hfc hkC (u_lays hts hin hk) hi).1
  have h6 := u_store hfc hkC hkind hlay hi hd hn hfit
  refine W.putK hx hb (f := f) ⟨hown, hts _ hl, ⟨_, _, _, fl_same hts hsm _ hi⟩, hst⟩ (by rw [q2]; exact h6) q1 q3 (by rw [hsl]; exact k2_hasslot (q4 k hk)) rfl rfl hdg fun H' e1 e2 e3 => ?_
  rw [hsl] at e1 ⊢
  refine kk H' _ (M.upd (e0 := .inl (0, 0, .inl (fun _ => 0))) h0 hn0 hS ho ?_ e2 e3)
  rw [m_ce_obj hK' hci]
  refine ⟨_, hc, t_OB.to (V := updV (vp_V (c_fs ad (m_I S a) (m_J S a) (m_P S a) (KF ci) 0)) k v) ⟨_, e1, q2, q3, t_set q4 hap hk v⟩ (fun j hj => ?_)⟩
  rw [← c_fs_set ad (m_I S a) (m_I S' a) (m_J S a) (m_J S' a) (m_P S a) (m_P S' a) (KF ci) 0 k v (fun y t h => by rw [Nat.zero_add]; exact hv y t h)]
  exact vp_updV_set (by rw [c_fs_len, hlen]; exact hk) v j
theorem k_putF (C0 : CX p s m args meth c own cc nL D cy) (M : ST D cy ad A H0 zz S H locs) {S' : MS} {a ci k t index : Nat} {ty : FieldType} {v : Value} (hm : 0 < a ∧ a ≤ m_n S ∧ m_K S a = ci) (hS : m_n S' = m_n S) (hK' : m_K S' a = ci) (ho : ∀ b, b ≠ a → m_ce cy ad S' b = m_ce cy ad S b)
    (hv : ∀ y t, (KF ci)[y]? = some t → c_fv ad (m_I S' a) (m_J S' a) (m_P S' a) y t = if y = k then v else c_fv ad (m_I S a) (m_J S a) (m_P S a) y t) (hf : FL own index ci k t ty 1) (hin2 : meth.name = "<init>") (hn : narrow ty v = v) (hfit : fits ty v = true) (hdg : decode cc pc = .ok (.putfield index, 3))
    (kk : ∀ (H1 : Heap) (locs1 : List Loc), ST D cy ad A H0 zz S' H1 locs1 → W p l e R s m args below meth c H1 locs1 cells slots Q (F0 m (pc + 3) ls rest)) : W p l e R s m args below meth c H locs cells slots Q (F0 m pc ls (v :: .ref (ad a) :: rest)) := by
  obtain ⟨hx, hb, -, hown, hG, hts, -⟩ := C0
  obtain ⟨C, ref, T, N, ty0, hc, hin, hty, hnm, hk, hkf, hci, hl, hsm, hd, -, hfd, hlen⟩ := hf
  obtain ⟨hfin, hdecl⟩ := hfd rfl
  obtain ⟨h0, hn0, hK⟩ := hm
  have he := m_ws_at (cy := cy) (ad := ad) h0 hn0
  rw [m_ce_obj hK hci] at he
  have hap := va_apart (own := own) hts hin ty0 hty hnm hG.1 hc
  obtain ⟨r, h1, cell, q1, q2, q3, q4⟩ := M.1.1 _ _ he
  have hr : r = (C, T, N) := Option.some.inj (h1.symm.trans hc)
  subst hr
  obtain ⟨hSl, hfc, kC, hkC, hkind⟩ := hG.1.1 ci _ hc
  obtain ⟨cf, kf, fi, f, hi, hsl⟩ := hSl k hk
  have hlay := hts _ (hin _ (u_in_lay hk))
  unfold u_lay at hlay
  rw [if_pos hfin] at hlay
  have hst := (u_facts hfc hkC (u_lays hts hin hk) hi).1
  have hcf : m.cls = cf := by
    obtain ⟨_, _, c', _, _, _, -, -, hf', -, -, -, hown2, -⟩ := Cond.laysFinal_spec hlay
    have e1 : c' = cf := by have := hi.symm.trans hf'; simp at this; exact this.1.symm
    rw [hdecl] at hown2
    rw [← e1]; exact Option.some.inj (hown.symm.trans hown2)
  have h6 := u_fits hfc hkC hkind (Or.inr hlay) hi hd hn hfit
  refine W.putFinK hx hb hown (hts _ hl) (fl_same hts hsm _ hi) hst hcf hin2 (by rw [q2]; exact h6) q1 q3 (by rw [hsl]; exact k2_hasslot (q4 k hk)) rfl rfl hdg fun H' e1 e2 e3 => ?_
  rw [hsl] at e1 ⊢
  refine kk H' _ (M.upd (e0 := .inl (0, 0, .inl (fun _ => 0))) h0 hn0 hS ho ?_ e2 e3)
  rw [m_ce_obj hK' hci]
  refine ⟨_, hc, t_OB.to (V := updV (vp_V (c_fs ad (m_I S a) (m_J S a) (m_P S a) (KF ci) 0)) k v) ⟨_, e1, q2, q3, t_set q4 hap hk v⟩ (fun j hj => ?_)⟩
  rw [← c_fs_set ad (m_I S a) (m_I S' a) (m_J S a) (m_J S' a) (m_P S a) (m_P S' a) (KF ci) 0 k v (fun y t h => by rw [Nat.zero_add]; exact hv y t h)]
  exact vp_updV_set (by rw [c_fs_len, hlen]; exact hk) v j
end KR
theorem mem_fm {big ws : List Cond} (ps : List Nat) (hp : ws = ps.filterMap (fun i => big[i]?)) : ∀ w ∈ ws, w ∈ big := by
  intro w hw
  rw [hp] at hw
  obtain ⟨i, -, hi⟩ := List.mem_filterMap.mp hw
  exact List.mem_of_getElem? hi
theorem iu_0 : ∀ w ∈ u_ws RJx4a65c TJx4a65c 3, w ∈ UW := fun w hw => List.mem_filter.mpr ⟨mem_fm [142, 138, 140] (by decide +kernel) w hw, List.all_eq_true.mp (by decide +kernel : (u_ws RJx4a65c TJx4a65c 3).all gx_word = true) w hw⟩
theorem iu_1 : ∀ w ∈ u_ws RX0 TX0 10, w ∈ UW := fun w hw => List.mem_filter.mpr ⟨mem_fm [209, 211, 213, 215, 217, 219, 221, 223, 225, 227] (by decide +kernel) w hw, List.all_eq_true.mp (by decide +kernel : (u_ws RX0 TX0 10).all gx_word = true) w hw⟩
theorem iu_2 : ∀ w ∈ u_ws RX1 TX1 9, w ∈ UW := fun w hw => List.mem_filter.mpr ⟨mem_fm [166, 168, 170, 172, 174, 176, 178, 180, 182] (by decide +kernel) w hw, List.all_eq_true.mp (by decide +kernel : (u_ws RX1 TX1 9).all gx_word = true) w hw⟩
theorem iu_3 : ∀ w ∈ u_ws RX2 TX2 6, w ∈ UW := fun w hw => List.mem_filter.mpr ⟨mem_fm [933, 935, 937, 939, 941, 943] (by decide +kernel) w hw, List.all_eq_true.mp (by decide +kernel : (u_ws RX2 TX2 6).all gx_word = true) w hw⟩
theorem iu_4 : ∀ w ∈ u_ws RX3 TX3 5, w ∈ UW := fun w hw => List.mem_filter.mpr ⟨mem_fm [816, 818, 820, 822, 824] (by decide +kernel) w hw, List.all_eq_true.mp (by decide +kernel : (u_ws RX3 TX3 5).all gx_word = true) w hw⟩
theorem iu_5 : ∀ w ∈ u_ws RX4 TX4 3, w ∈ UW := fun w hw => List.mem_filter.mpr ⟨mem_fm [261, 263, 265] (by decide +kernel) w hw, List.all_eq_true.mp (by decide +kernel : (u_ws RX4 TX4 3).all gx_word = true) w hw⟩
theorem iu_6 : ∀ w ∈ u_ws RX5 TX5 3, w ∈ UW := fun w hw => List.mem_filter.mpr ⟨mem_fm [242, 244, 246] (by decide +kernel) w hw, List.all_eq_true.mp (by decide +kernel : (u_ws RX5 TX5 3).all gx_word = true) w hw⟩
theorem iu_7 : ∀ w ∈ u_ws RX6 TX6 6, w ∈ UW := fun w hw => List.mem_filter.mpr ⟨mem_fm [362, 364, 366, 368, 370, 372] (by decide +kernel) w hw, List.all_eq_true.mp (by decide +kernel : (u_ws RX6 TX6 6).all gx_word = true) w hw⟩
theorem iu_8 : ∀ w ∈ u_ws RX7 TX7 3, w ∈ UW := fun w hw => List.mem_filter.mpr ⟨mem_fm [281, 283, 285] (by decide +kernel) w hw, List.all_eq_true.mp (by decide +kernel : (u_ws RX7 TX7 3).all gx_word = true) w hw⟩
theorem iu_9 : ∀ w ∈ u_ws RX8 TX8 6, w ∈ UW := fun w hw => List.mem_filter.mpr ⟨mem_fm [643, 645, 647, 649, 651, 653] (by decide +kernel) w hw, List.all_eq_true.mp (by decide +kernel : (u_ws RX8 TX8 6).all gx_word = true) w hw⟩
theorem iu_10 : ∀ w ∈ u_ws RX9 TX9 13, w ∈ UW := fun w hw => List.mem_filter.mpr ⟨mem_fm [301, 303, 305, 307, 309, 311, 313, 315, 317, 319, 321, 323, 325] (by decide +kernel) w hw, List.all_eq_true.mp (by decide +kernel : (u_ws RX9 TX9 13).all gx_word = true) w hw⟩
theorem iu_11 : ∀ w ∈ u_ws RX10 TX10 58, w ∈ UW := fun w hw => List.mem_filter.mpr ⟨mem_fm [1129, 1131, 1133, 1135, 1137, 1139, 1141, 1143, 1145, 1147, 1149, 1151, 1153, 1155, 1157, 1159, 1161, 1163, 1165, 1167, 1169, 1171, 1173, 1175, 1177, 1179, 1181, 1183, 1185, 1187, 1189, 1191, 1193, 1195, 1197, 1199, 1201, 1203, 1205, 1207, 1209, 1211, 1213, 1215, 1217, 1219, 1221, 1223, 1225, 1227, 1229, 1231, 1233, 1235, 1237, 1239, 1241, 1243] (by decide +kernel) w hw, List.all_eq_true.mp (by decide +kernel : (u_ws RX10 TX10 58).all gx_word = true) w hw⟩
