/-! THE CLAIM OUT OF ONE WALK OF THE LAW'S BODY. Your part is whole_start (and what it stands on); all else here is the same for every law, but numbers. -/
def R_law : String := "ChartRoomLaw"
def lw_P (b : Addr) (xs : List Int32) (args : Array Value) (s : State) : Prop := args = #[.ref b] ∧ s.IntsAt b xs ∧ xs.length ≤ 4608 ∧ (Jvm.Cond.and given_1 narrow_1).before args s = true
def lw_Q (_ : Array Value) (s : State) (o : Outcome) (t : State) : Prop := o = .returned (some (.int 1)) ∧ Framed s o t [] 600000 7302250
def lw_Z (below : List Frame) (a : Array Value) (s : State) : State → Prop := fun t => ∃ o, t.status = .running ∧ Ended t below o ∧ lw_Q a s o t
/-- the law's own end, with 1 on the stack, nothing written that was there before, its room as the claim has it -/
theorem lw_ret {p : Program} {l : Launch} {e : Env} {s : State} {m : MethodId} {below : List Frame} {meth : Method} {c : Code} {b : Nat} (hx : p.tables.exec = Jvm.exec) (hb : c.code = code) (hr : meth.sig.returnType = ret) (hlocks : meth.locks = false) {pc : Nat} {H : Heap} {ls : Array Slot} (hdg : decode code pc = .ok (.ireturn, 1)) : W p l e room_1 s m #[Value.ref b] below meth c H [] 600000 7302250 (lw_Z below #[Value.ref b] s) (F0 m pc ls [.int 1]) := by
  intro T hT X
  obtain ⟨fs, hret, hrun, hended, hW, hframe⟩ := X.leave (v := some (.int 1)) (hlocks := hlocks) (fun h => by rw [hr] at h; cases h)
  have hmeth' : T.vm.method? m = some meth := X.method'
  refine ⟨T.setFrames fs, ?_, .returned (some (.int 1)), hrun, hended, rfl, ⟨_, rfl⟩, hW, hframe⟩
  jvm_step X.here [X.here.top, hx, hb, hdg, hmeth', hr, ret, narrow_b1]
  (try refine ⟨rfl, ?_⟩); (try refine ⟨rfl, ?_⟩)
  first | (intro acts; rw [hret _ acts rfl rfl rfl]) | rw [hret _ _ rfl rfl rfl]
  exact Steps.refl _
/-- what holds at the law's entry: the machine, the code, the tables' words (any of lw_tbl by 'hts w (by decide +kernel)'), the script of L ints xs at the cell b, what the Statement gives of the start (any of its parts by flat_of_before) -/
def lw_At (p : Program) (s : State) (m : MethodId) (meth : Method) (c : Code) (b L : Nat) (xs : Nat → Int32) : Prop :=
  p.tables.exec = Jvm.exec ∧ c.code = code ∧ meth.sig.returnType = ret ∧ c.maxLocals = 4 ∧ s.vm.findClass R_law = some m.cls ∧ (∀ w ∈ lw_tbl, w.before #[Value.ref b] s = true) ∧ va_X b L xs s s.heap ∧ b < s.heap.size ∧ meth.locks = false ∧ (Jvm.Cond.and given_1 narrow_1).before #[Value.ref b] s = true
/-- both worlds of the law -/
def LW (D : va_G) (cy : Nat → ClassId) (adC : Nat → Nat) (AC : Nat → Prop) (adR : Nat → Nat) (AR : Nat → Prop) (H0 : Heap) (K0 : Nat) (SC SR : MS) (H : Heap) (locs : List Loc) : Prop :=
  MW D cy adC AC SC H ∧ MW D cy adR AR SR H ∧ va_S (fun q => H0.size ≤ q) H0 H locs ∧ H.size = adC (m_n SC + 1) ∧ K0 ≤ m_n SC
def LA (H0 : Heap) (AC AR : Nat → Prop) : Prop := (∀ q, AC q → AR q → False) ∧ (∀ q, AC q → H0.size ≤ q) ∧ ∀ q, AR q → H0.size ≤ q
theorem lg_self (x : Int64) : lg_cmp x x = 0 := by
  unfold lg_cmp
  simp
section KL
variable {p : Program} {l : Launch} {e : Env} {R : Room} {s : State} {m : MethodId} {args : Array Value} {below : List Frame} {meth : Method} {c : Code} {H : Heap} {locs : List Loc} {cells slots : Nat} {Q : State → Prop}
variable {cc : ByteArray} {pc nL : Nat} {ls : Array Slot} {rest : List Value} {D : va_G} {cy : Nat → ClassId} {adC adR : Nat → Nat} {AC AR : Nat → Prop} {H0 : Heap} {SC SR : MS} {own : String} {K0 : Nat} {a : Array Value} {st0 : List Value} {S' : MS} {mc ms : Nat} {As : List Value}
theorem MW.away {ad : Nat → Nat} {A B : Nat → Prop} {S : MS} {H1 : Heap} (h : MW D cy ad A S H) (hAB : ∀ q, B q → A q → False) (hk : ∀ q : Nat, q < H.size → ¬ B q → H1[q]? = H[q]?) : MW D cy ad A S H1 :=
  ⟨h.1.kept fun k q hq => hk q.1 ((h.1 k q hq).lt) (fun hB => hAB _ hB (h.2.2 k q hq)), h.2⟩
theorem pre2_A (C0 : CX p s m args meth c own cc nL D cy) (hE : EX adC (fun q => s.heap.size ≤ q) s) (hL : LA s.heap AC AR) (M : LW D cy adC AC adR AR s.heap K0 SC SR H locs) : PreF s H (PcA D cy adC AC K0 SC As) As :=
  ⟨PcA.blind, fun U hU hW => ⟨rfl, C0.2.2.2.2.1.moved hW, by
    obtain ⟨h1, h2, h3⟩ := hE.moved M.2.2.1 hU hW.alike
    exact ⟨h1.narrow hL.2.1, h2.narrow hL.2.1, h3⟩, by rw [hU]; exact M.1, by rw [hU]; exact M.2.2.2⟩⟩
theorem g2_CMI {r : Int32} (hr : va_Run p l e R s m args below meth c H locs cells slots 0 0 (F0 m pc ls st0) rest (QcM D cy adC AC (m_n SC) S' (some (.int r)) a) AC) (hL : LA H0 AC AR) (M : LW D cy adC AC adR AR H0 K0 SC SR H locs) (kk : ∀ (H1 : Heap) (locs1 : List Loc), LW D cy adC AC adR AR H0 K0 S' SR H1 locs1 → W p l e R s m args below meth c H1 locs1 cells slots Q (F0 m (pc + 3) ls (.int r :: rest))) : W p l e R s m args below meth c H locs cells slots Q (F0 m pc ls st0) := by
  intro T hT X
  obtain ⟨v', st₀, t, T', L, h0, X', hLL, e1, e2, ⟨hv, hw, ⟨hz, hz2⟩, hk⟩, st⟩ := hr T hT X
  cases hv
  obtain ⟨hMC, hMR, hS, hs1, hs2⟩ := M
  rw [h0] at hz hk
  rw [← e1] at hk
  obtain ⟨t2, a1, b1⟩ := kk T'.heap (locs ++ L) ⟨by rw [e1]; exact hw, hMR.away hL.1 hk, ⟨by rw [e1, hz]; exact hS.1, fun q h1 h2 => by rw [hk q (Nat.lt_of_lt_of_le h1 hS.1) (fun z => h2 (hL.2.1 q z))]; exact hS.2.1 q h1 h2, fun q hq => (List.mem_append.mp hq).elim (hS.2.2 q) (fun h => hL.2.1 _ (hLL q h))⟩, by rw [e1, hz, hz2]; exact hs1, by rw [hz2]; exact hs2⟩ T' rfl X'
  exact ⟨t2, st t2 a1, b1⟩
theorem g2_RMI {r : Int32} (hr : va_Run p l e R s m args below meth c H locs cells slots 0 0 (F0 m pc ls st0) rest (QcM D cy adR AR (m_n SR) S' (some (.int r)) a) AR) (hL : LA H0 AC AR) (M : LW D cy adC AC adR AR H0 K0 SC SR H locs) (kk : ∀ (H1 : Heap) (locs1 : List Loc), LW D cy adC AC adR AR H0 K0 SC S' H1 locs1 → W p l e R s m args below meth c H1 locs1 cells slots Q (F0 m (pc + 3) ls (.int r :: rest))) : W p l e R s m args below meth c H locs cells slots Q (F0 m pc ls st0) := by
  intro T hT X
  obtain ⟨v', st₀, t, T', L, h0, X', hLL, e1, e2, ⟨hv, hw, ⟨hz, hz2⟩, hk⟩, st⟩ := hr T hT X
  cases hv
  obtain ⟨hMC, hMR, hS, hs1, hs2⟩ := M
  rw [h0] at hz hk
  rw [← e1] at hk
  obtain ⟨t2, a1, b1⟩ := kk T'.heap (locs ++ L) ⟨hMC.away (fun q h1 h2 => hL.1 q h2 h1) hk, by rw [e1]; exact hw, ⟨by rw [e1, hz]; exact hS.1, fun q h1 h2 => by rw [hk q (Nat.lt_of_lt_of_le h1 hS.1) (fun z => h2 (hL.2.2 q z))]; exact hS.2.1 q h1 h2, fun q hq => (List.mem_append.mp hq).elim (hS.2.2 q) (fun h => hL.2.2 _ (hLL q h))⟩, by rw [e1, hz]; exact hs1, hs2⟩ T' rfl X'
  exact ⟨t2, st t2 a1, b1⟩
theorem g2_CAI {r : Int32} (hr : va_Run p l e R s m args below meth c H locs cells slots mc ms (F0 m pc ls st0) rest (QcA D cy adC AC K0 S' (some (.int r)) a) AC) (hL : LA H0 AC AR) (M : LW D cy adC AC adR AR H0 K0 SC SR H locs) (kk : ∀ (H1 : Heap) (locs1 : List Loc), LW D cy adC AC adR AR H0 K0 S' SR H1 locs1 → W p l e R s m args below meth c H1 locs1 (cells + mc) (slots + ms) Q (F0 m (pc + 3) ls (.int r :: rest))) : W p l e R s m args below meth c H locs cells slots Q (F0 m pc ls st0) := by
  intro T hT X
  obtain ⟨v', st₀, t, T', L, h0, X', hLL, e1, e2, ⟨hv, hw, ⟨hz, hz2⟩, hk⟩, st⟩ := hr T hT X
  cases hv
  obtain ⟨hMC, hMR, hS, hs1, hs2⟩ := M
  rw [h0] at hz2 hk
  rw [← e1] at hk
  obtain ⟨t2, a1, b1⟩ := kk T'.heap (locs ++ L) ⟨by rw [e1]; exact hw, hMR.away hL.1 hk, ⟨by rw [e1]; exact Nat.le_trans hS.1 hz2, fun q h1 h2 => by rw [hk q (Nat.lt_of_lt_of_le h1 hS.1) (fun z => h2 (hL.2.1 q z))]; exact hS.2.1 q h1 h2, fun q hq => (List.mem_append.mp hq).elim (hS.2.2 q) (fun h => hL.2.1 _ (hLL q h))⟩, by rw [e1]; exact hz.1, hz.2⟩ T' rfl X'
  exact ⟨t2, st t2 a1, b1⟩
theorem g2_CML {r : Int64} (hr : va_Run p l e R s m args below meth c H locs cells slots 0 0 (F0 m pc ls st0) rest (QcM D cy adC AC (m_n SC) S' (some (.long r)) a) AC) (hL : LA H0 AC AR) (M : LW D cy adC AC adR AR H0 K0 SC SR H locs) (kk : ∀ (H1 : Heap) (locs1 : List Loc), LW D cy adC AC adR AR H0 K0 S' SR H1 locs1 → W p l e R s m args below meth c H1 locs1 cells slots Q (F0 m (pc + 3) ls (.long r :: rest))) : W p l e R s m args below meth c H locs cells slots Q (F0 m pc ls st0) := by
  intro T hT X
  obtain ⟨v', st₀, t, T', L, h0, X', hLL, e1, e2, ⟨hv, hw, ⟨hz, hz2⟩, hk⟩, st⟩ := hr T hT X
  cases hv
  obtain ⟨hMC, hMR, hS, hs1, hs2⟩ := M
  rw [h0] at hz hk
  rw [← e1] at hk
  obtain ⟨t2, a1, b1⟩ := kk T'.heap (locs ++ L) ⟨by rw [e1]; exact hw, hMR.away hL.1 hk, ⟨by rw [e1, hz]; exact hS.1, fun q h1 h2 => by rw [hk q (Nat.lt_of_lt_of_le h1 hS.1) (fun z => h2 (hL.2.1 q z))]; exact hS.2.1 q h1 h2, fun q hq => (List.mem_append.mp hq).elim (hS.2.2 q) (fun h => hL.2.1 _ (hLL q h))⟩, by rw [e1, hz, hz2]; exact hs1, by rw [hz2]; exact hs2⟩ T' rfl X'
  exact ⟨t2, st t2 a1, b1⟩
theorem g2_RML {r : Int64} (hr : va_Run p l e R s m args below meth c H locs cells slots 0 0 (F0 m pc ls st0) rest (QcM D cy adR AR (m_n SR) S' (some (.long r)) a) AR) (hL : LA H0 AC AR) (M : LW D cy adC AC adR AR H0 K0 SC SR H locs) (kk : ∀ (H1 : Heap) (locs1 : List Loc), LW D cy adC AC adR AR H0 K0 SC S' H1 locs1 → W p l e R s m args below meth c H1 locs1 cells slots Q (F0 m (pc + 3) ls (.long r :: rest))) : W p l e R s m args below meth c H locs cells slots Q (F0 m pc ls st0) := by
  intro T hT X
  obtain ⟨v', st₀, t, T', L, h0, X', hLL, e1, e2, ⟨hv, hw, ⟨hz, hz2⟩, hk⟩, st⟩ := hr T hT X
  cases hv
  obtain ⟨hMC, hMR, hS, hs1, hs2⟩ := M
  rw [h0] at hz hk
  rw [← e1] at hk
  obtain ⟨t2, a1, b1⟩ := kk T'.heap (locs ++ L) ⟨hMC.away (fun q h1 h2 => hL.1 q h2 h1) hk, by rw [e1]; exact hw, ⟨by rw [e1, hz]; exact hS.1, fun q h1 h2 => by rw [hk q (Nat.lt_of_lt_of_le h1 hS.1) (fun z => h2 (hL.2.2 q z))]; exact hS.2.1 q h1 h2, fun q hq => (List.mem_append.mp hq).elim (hS.2.2 q) (fun h => hL.2.2 _ (hLL q h))⟩, by rw [e1, hz]; exact hs1, hs2⟩ T' rfl X'
  exact ⟨t2, st t2 a1, b1⟩
theorem g2_CAL {r : Int64} (hr : va_Run p l e R s m args below meth c H locs cells slots mc ms (F0 m pc ls st0) rest (QcA D cy adC AC K0 S' (some (.long r)) a) AC) (hL : LA H0 AC AR) (M : LW D cy adC AC adR AR H0 K0 SC SR H locs) (kk : ∀ (H1 : Heap) (locs1 : List Loc), LW D cy adC AC adR AR H0 K0 S' SR H1 locs1 → W p l e R s m args below meth c H1 locs1 (cells + mc) (slots + ms) Q (F0 m (pc + 3) ls (.long r :: rest))) : W p l e R s m args below meth c H locs cells slots Q (F0 m pc ls st0) := by
  intro T hT X
  obtain ⟨v', st₀, t, T', L, h0, X', hLL, e1, e2, ⟨hv, hw, ⟨hz, hz2⟩, hk⟩, st⟩ := hr T hT X
  cases hv
  obtain ⟨hMC, hMR, hS, hs1, hs2⟩ := M
  rw [h0] at hz2 hk
  rw [← e1] at hk
  obtain ⟨t2, a1, b1⟩ := kk T'.heap (locs ++ L) ⟨by rw [e1]; exact hw, hMR.away hL.1 hk, ⟨by rw [e1]; exact Nat.le_trans hS.1 hz2, fun q h1 h2 => by rw [hk q (Nat.lt_of_lt_of_le h1 hS.1) (fun z => h2 (hL.2.1 q z))]; exact hS.2.1 q h1 h2, fun q hq => (List.mem_append.mp hq).elim (hS.2.2 q) (fun h => hL.2.1 _ (hLL q h))⟩, by rw [e1]; exact hz.1, hz.2⟩ T' rfl X'
  exact ⟨t2, st t2 a1, b1⟩
end KL
theorem cb_L_13 : CBV RL 13 yX9_post cX9_post 7 (some .int) 6 10 := ⟨⟨cw_X9_post, ini_ChartRoom, by decide, (uw_of 328 (by decide +kernel) rfl)⟩, (uw_of 329 (by decide +kernel) rfl), (uw_of 330 (by decide +kernel) rfl), by decide, TX9, 13, rfl⟩
theorem cb_L_17 : CBV RL 17 yX10_post cX10_post 7 (some .int) 6 11 := ⟨⟨cw_X10_post, ini_ChartRoomModel, by decide, (uw_of 1246 (by decide +kernel) rfl)⟩, (uw_of 1247 (by decide +kernel) rfl), (uw_of 1248 (by decide +kernel) rfl), by decide, TX10, 58, rfl⟩
theorem cb_L_18 : CBV RL 18 yX9_about cX9_about 4 (some .int) 2 10 := ⟨⟨cw_X9_about, ini_ChartRoom, by decide, (uw_of 496 (by decide +kernel) rfl)⟩, (uw_of 497 (by decide +kernel) rfl), (uw_of 498 (by decide +kernel) rfl), by decide, TX9, 13, rfl⟩
theorem cb_L_22 : CBV RL 22 yX10_about cX10_about 5 (some .int) 2 11 := ⟨⟨cw_X10_about, ini_ChartRoomModel, by decide, (uw_of 1389 (by decide +kernel) rfl)⟩, (uw_of 1390 (by decide +kernel) rfl), (uw_of 1391 (by decide +kernel) rfl), by decide, TX10, 58, rfl⟩
theorem cb_L_23 : CBV RL 23 yX9_place cX9_place 3 (some .int) 2 10 := ⟨⟨cw_X9_place, ini_ChartRoom, by decide, (uw_of 574 (by decide +kernel) rfl)⟩, (uw_of 575 (by decide +kernel) rfl), (uw_of 576 (by decide +kernel) rfl), by decide, TX9, 13, rfl⟩
theorem cb_L_26 : CBV RL 26 yX10_place cX10_place 3 (some .int) 2 11 := ⟨⟨cw_X10_place, ini_ChartRoomModel, by decide, (uw_of 1261 (by decide +kernel) rfl)⟩, (uw_of 1262 (by decide +kernel) rfl), (uw_of 1263 (by decide +kernel) rfl), by decide, TX10, 58, rfl⟩
theorem cb_L_27 : CBV RL 27 yX9_wire cX9_wire 10 (some .int) 6 10 := ⟨⟨cw_X9_wire, ini_ChartRoom, by decide, (uw_of 579 (by decide +kernel) rfl)⟩, (uw_of 580 (by decide +kernel) rfl), (uw_of 581 (by decide +kernel) rfl), by decide, TX9, 13, rfl⟩
theorem cb_L_30 : CBV RL 30 yX10_wire cX10_wire 8 (some .int) 6 11 := ⟨⟨cw_X10_wire, ini_ChartRoomModel, by decide, (uw_of 1280 (by decide +kernel) rfl)⟩, (uw_of 1281 (by decide +kernel) rfl), (uw_of 1282 (by decide +kernel) rfl), by decide, TX10, 58, rfl⟩
theorem cb_L_31 : CBV RL 31 yX9_told cX9_told 4 (some .int) 2 10 := ⟨⟨cw_X9_told, ini_ChartRoom, by decide, (uw_of 656 (by decide +kernel) rfl)⟩, (uw_of 657 (by decide +kernel) rfl), (uw_of 658 (by decide +kernel) rfl), by decide, TX9, 13, rfl⟩
theorem cb_L_34 : CBV RL 34 yX10_told cX10_told 3 (some .int) 2 11 := ⟨⟨cw_X10_told, ini_ChartRoomModel, by decide, (uw_of 1314 (by decide +kernel) rfl)⟩, (uw_of 1315 (by decide +kernel) rfl), (uw_of 1316 (by decide +kernel) rfl), by decide, TX10, 58, rfl⟩
theorem cb_L_35 : CBV RL 35 yX9_digit cX9_digit 5 (some .int) 3 10 := ⟨⟨cw_X9_digit, ini_ChartRoom, by decide, (uw_of 664 (by decide +kernel) rfl)⟩, (uw_of 665 (by decide +kernel) rfl), (uw_of 666 (by decide +kernel) rfl), by decide, TX9, 13, rfl⟩
theorem cb_L_39 : CBV RL 39 yX10_digit cX10_digit 5 (some .int) 3 11 := ⟨⟨cw_X10_digit, ini_ChartRoomModel, by decide, (uw_of 1376 (by decide +kernel) rfl)⟩, (uw_of 1377 (by decide +kernel) rfl), (uw_of 1378 (by decide +kernel) rfl), by decide, TX10, 58, rfl⟩
theorem cb_L_40 : CBV RL 40 yX9_readings cX9_readings 3 (some .int) 2 10 := ⟨⟨cw_X9_readings, ini_ChartRoom, by decide, (uw_of 668 (by decide +kernel) rfl)⟩, (uw_of 669 (by decide +kernel) rfl), (uw_of 670 (by decide +kernel) rfl), by decide, TX9, 13, rfl⟩
theorem cb_L_43 : CBV RL 43 yX10_readings cX10_readings 3 (some .int) 2 11 := ⟨⟨cw_X10_readings, ini_ChartRoomModel, by decide, (uw_of 1381 (by decide +kernel) rfl)⟩, (uw_of 1382 (by decide +kernel) rfl), (uw_of 1383 (by decide +kernel) rfl), by decide, TX10, 58, rfl⟩
theorem cb_L_44 : CBV RL 44 yX9_reading cX9_reading 5 (some .int) 3 10 := ⟨⟨cw_X9_reading, ini_ChartRoom, by decide, (uw_of 672 (by decide +kernel) rfl)⟩, (uw_of 673 (by decide +kernel) rfl), (uw_of 674 (by decide +kernel) rfl), by decide, TX9, 13, rfl⟩
theorem cb_L_47 : CBV RL 47 yX10_reading cX10_reading 4 (some .int) 3 11 := ⟨⟨cw_X10_reading, ini_ChartRoomModel, by decide, (uw_of 1385 (by decide +kernel) rfl)⟩, (uw_of 1386 (by decide +kernel) rfl), (uw_of 1387 (by decide +kernel) rfl), by decide, TX10, 58, rfl⟩
theorem cb_L_48 : CBV RL 48 yX9_view cX9_view 3 (some .int) 2 10 := ⟨⟨cw_X9_view, ini_ChartRoom, by decide, (uw_of 677 (by decide +kernel) rfl)⟩, (uw_of 678 (by decide +kernel) rfl), (uw_of 679 (by decide +kernel) rfl), by decide, TX9, 13, rfl⟩
theorem cb_L_51 : CBV RL 51 yX10_view cX10_view 3 (some .int) 2 11 := ⟨⟨cw_X10_view, ini_ChartRoomModel, by decide, (uw_of 1393 (by decide +kernel) rfl)⟩, (uw_of 1394 (by decide +kernel) rfl), (uw_of 1395 (by decide +kernel) rfl), by decide, TX10, 58, rfl⟩
theorem cb_L_52 : CBV RL 52 yX9_guess cX9_guess 3 (some .int) 1 10 := ⟨⟨cw_X9_guess, ini_ChartRoom, by decide, (uw_of 682 (by decide +kernel) rfl)⟩, (uw_of 683 (by decide +kernel) rfl), (uw_of 684 (by decide +kernel) rfl), by decide, TX9, 13, rfl⟩
theorem cb_L_56 : CBV RL 56 yX10_guess cX10_guess 3 (some .int) 1 11 := ⟨⟨cw_X10_guess, ini_ChartRoomModel, by decide, (uw_of 1397 (by decide +kernel) rfl)⟩, (uw_of 1398 (by decide +kernel) rfl), (uw_of 1399 (by decide +kernel) rfl), by decide, TX10, 58, rfl⟩
theorem cb_L_57 : CBV RL 57 yX9_mended cX9_mended 3 (some .int) 1 10 := ⟨⟨cw_X9_mended, ini_ChartRoom, by decide, (uw_of 687 (by decide +kernel) rfl)⟩, (uw_of 688 (by decide +kernel) rfl), (uw_of 689 (by decide +kernel) rfl), by decide, TX9, 13, rfl⟩
theorem cb_L_60 : CBV RL 60 yX10_mended cX10_mended 3 (some .int) 1 11 := ⟨⟨cw_X10_mended, ini_ChartRoomModel, by decide, (uw_of 1405 (by decide +kernel) rfl)⟩, (uw_of 1406 (by decide +kernel) rfl), (uw_of 1407 (by decide +kernel) rfl), by decide, TX10, 58, rfl⟩
theorem cb_L_61 : CBV RL 61 yX9_level cX9_level 3 (some .int) 1 10 := ⟨⟨cw_X9_level, ini_ChartRoom, by decide, (uw_of 695 (by decide +kernel) rfl)⟩, (uw_of 696 (by decide +kernel) rfl), (uw_of 697 (by decide +kernel) rfl), by decide, TX9, 13, rfl⟩
theorem cb_L_64 : CBV RL 64 yX10_level cX10_level 3 (some .int) 1 11 := ⟨⟨cw_X10_level, ini_ChartRoomModel, by decide, (uw_of 1409 (by decide +kernel) rfl)⟩, (uw_of 1410 (by decide +kernel) rfl), (uw_of 1411 (by decide +kernel) rfl), by decide, TX10, 58, rfl⟩
theorem cb_L_65 : CBV RL 65 yX9_steep cX9_steep 3 (some .int) 1 10 := ⟨⟨cw_X9_steep, ini_ChartRoom, by decide, (uw_of 700 (by decide +kernel) rfl)⟩, (uw_of 701 (by decide +kernel) rfl), (uw_of 702 (by decide +kernel) rfl), by decide, TX9, 13, rfl⟩
theorem cb_L_68 : CBV RL 68 yX10_steep cX10_steep 3 (some .int) 1 11 := ⟨⟨cw_X10_steep, ini_ChartRoomModel, by decide, (uw_of 1413 (by decide +kernel) rfl)⟩, (uw_of 1414 (by decide +kernel) rfl), (uw_of 1415 (by decide +kernel) rfl), by decide, TX10, 58, rfl⟩
theorem cb_L_69 : CBV RL 69 yX9_quarrel cX9_quarrel 3 (some .int) 2 10 := ⟨⟨cw_X9_quarrel, ini_ChartRoom, by decide, (uw_of 704 (by decide +kernel) rfl)⟩, (uw_of 705 (by decide +kernel) rfl), (uw_of 706 (by decide +kernel) rfl), by decide, TX9, 13, rfl⟩
theorem cb_L_72 : CBV RL 72 yX10_quarrel cX10_quarrel 3 (some .int) 2 11 := ⟨⟨cw_X10_quarrel, ini_ChartRoomModel, by decide, (uw_of 1418 (by decide +kernel) rfl)⟩, (uw_of 1419 (by decide +kernel) rfl), (uw_of 1420 (by decide +kernel) rfl), by decide, TX10, 58, rfl⟩
theorem cb_L_73 : CBV RL 73 yX9_doubted cX9_doubted 1 (some .int) 0 10 := ⟨⟨cw_X9_doubted, ini_ChartRoom, by decide, (uw_of 708 (by decide +kernel) rfl)⟩, (uw_of 709 (by decide +kernel) rfl), (uw_of 710 (by decide +kernel) rfl), by decide, TX9, 13, rfl⟩
theorem cb_L_77 : CBV RL 77 yX10_doubted cX10_doubted 1 (some .int) 0 11 := ⟨⟨cw_X10_doubted, ini_ChartRoomModel, by decide, (uw_of 1422 (by decide +kernel) rfl)⟩, (uw_of 1423 (by decide +kernel) rfl), (uw_of 1424 (by decide +kernel) rfl), by decide, TX10, 58, rfl⟩
theorem cb_L_78 : CBV RL 78 yX9_value cX9_value 3 (some .int) 2 10 := ⟨⟨cw_X9_value, ini_ChartRoom, by decide, (uw_of 712 (by decide +kernel) rfl)⟩, (uw_of 713 (by decide +kernel) rfl), (uw_of 714 (by decide +kernel) rfl), by decide, TX9, 13, rfl⟩
theorem cb_L_81 : CBV RL 81 yX10_value cX10_value 3 (some .int) 2 11 := ⟨⟨cw_X10_value, ini_ChartRoomModel, by decide, (uw_of 1426 (by decide +kernel) rfl)⟩, (uw_of 1427 (by decide +kernel) rfl), (uw_of 1428 (by decide +kernel) rfl), by decide, TX10, 58, rfl⟩
theorem cb_L_82 : CBV RL 82 yX9_line cX9_line 4 (some .int) 2 10 := ⟨⟨cw_X9_line, ini_ChartRoom, by decide, (uw_of 716 (by decide +kernel) rfl)⟩, (uw_of 717 (by decide +kernel) rfl), (uw_of 718 (by decide +kernel) rfl), by decide, TX9, 13, rfl⟩
theorem cb_L_85 : CBV RL 85 yX10_line cX10_line 5 (some .int) 2 11 := ⟨⟨cw_X10_line, ini_ChartRoomModel, by decide, (uw_of 1430 (by decide +kernel) rfl)⟩, (uw_of 1431 (by decide +kernel) rfl), (uw_of 1432 (by decide +kernel) rfl), by decide, TX10, 58, rfl⟩
theorem cb_L_86 : CBV RL 86 yX9_draw cX9_draw 12 (some .int) 8 10 := ⟨⟨cw_X9_draw, ini_ChartRoom, by decide, (uw_of 748 (by decide +kernel) rfl)⟩, (uw_of 749 (by decide +kernel) rfl), (uw_of 750 (by decide +kernel) rfl), by decide, TX9, 13, rfl⟩
theorem cb_L_90 : CBV RL 90 yX10_draw cX10_draw 9 (some .int) 8 11 := ⟨⟨cw_X10_draw, ini_ChartRoomModel, by decide, (uw_of 1459 (by decide +kernel) rfl)⟩, (uw_of 1460 (by decide +kernel) rfl), (uw_of 1461 (by decide +kernel) rfl), by decide, TX10, 58, rfl⟩
theorem cb_L_91 : CBV RL 91 yX9_front cX9_front 5 (some .int) 3 10 := ⟨⟨cw_X9_front, ini_ChartRoom, by decide, (uw_of 827 (by decide +kernel) rfl)⟩, (uw_of 828 (by decide +kernel) rfl), (uw_of 829 (by decide +kernel) rfl), by decide, TX9, 13, rfl⟩
theorem cb_L_94 : CBV RL 94 yX10_front cX10_front 5 (some .int) 3 11 := ⟨⟨cw_X10_front, ini_ChartRoomModel, by decide, (uw_of 1496 (by decide +kernel) rfl)⟩, (uw_of 1497 (by decide +kernel) rfl), (uw_of 1498 (by decide +kernel) rfl), by decide, TX10, 58, rfl⟩
theorem cb_L_95 : CBV RL 95 yX9_yOf cX9_yOf 5 (some .int) 3 10 := ⟨⟨cw_X9_yOf, ini_ChartRoom, by decide, (uw_of 867 (by decide +kernel) rfl)⟩, (uw_of 868 (by decide +kernel) rfl), (uw_of 869 (by decide +kernel) rfl), by decide, TX9, 13, rfl⟩
theorem cb_L_98 : CBV RL 98 yX10_yOf cX10_yOf 4 (some .int) 3 11 := ⟨⟨cw_X10_yOf, ini_ChartRoomModel, by decide, (uw_of 1520 (by decide +kernel) rfl)⟩, (uw_of 1521 (by decide +kernel) rfl), (uw_of 1522 (by decide +kernel) rfl), by decide, TX10, 58, rfl⟩
theorem cb_L_99 : CBV RL 99 yX9_joining cX9_joining 1 (some .int) 0 10 := ⟨⟨cw_X9_joining, ini_ChartRoom, by decide, (uw_of 871 (by decide +kernel) rfl)⟩, (uw_of 872 (by decide +kernel) rfl), (uw_of 873 (by decide +kernel) rfl), by decide, TX9, 13, rfl⟩
theorem cb_L_102 : CBV RL 102 yX10_joining cX10_joining 1 (some .int) 0 11 := ⟨⟨cw_X10_joining, ini_ChartRoomModel, by decide, (uw_of 1524 (by decide +kernel) rfl)⟩, (uw_of 1525 (by decide +kernel) rfl), (uw_of 1526 (by decide +kernel) rfl), by decide, TX10, 58, rfl⟩
theorem cb_L_103 : CBV RL 103 yX9_night cX9_night 2 (some .int) 0 10 := ⟨⟨cw_X9_night, ini_ChartRoom, by decide, (uw_of 875 (by decide +kernel) rfl)⟩, (uw_of 876 (by decide +kernel) rfl), (uw_of 877 (by decide +kernel) rfl), by decide, TX9, 13, rfl⟩
theorem cb_L_106 : CBV RL 106 yX10_night cX10_night 3 (some .int) 0 11 := ⟨⟨cw_X10_night, ini_ChartRoomModel, by decide, (uw_of 1528 (by decide +kernel) rfl)⟩, (uw_of 1529 (by decide +kernel) rfl), (uw_of 1530 (by decide +kernel) rfl), by decide, TX10, 58, rfl⟩
theorem cb_L_107 : CBV RL 107 yX9_prognosis cX9_prognosis 5 (some .int) 4 10 := ⟨⟨cw_X9_prognosis, ini_ChartRoom, by decide, (uw_of 883 (by decide +kernel) rfl)⟩, (uw_of 884 (by decide +kernel) rfl), (uw_of 885 (by decide +kernel) rfl), by decide, TX9, 13, rfl⟩
theorem cb_L_111 : CBV RL 111 yX10_prognosis cX10_prognosis 5 (some .int) 4 11 := ⟨⟨cw_X10_prognosis, ini_ChartRoomModel, by decide, (uw_of 1532 (by decide +kernel) rfl)⟩, (uw_of 1533 (by decide +kernel) rfl), (uw_of 1534 (by decide +kernel) rfl), by decide, TX10, 58, rfl⟩
theorem cb_L_112 : CBV RL 112 yX9_keep cX9_keep 3 (some .int) 1 10 := ⟨⟨cw_X9_keep, ini_ChartRoom, by decide, (uw_of 892 (by decide +kernel) rfl)⟩, (uw_of 893 (by decide +kernel) rfl), (uw_of 894 (by decide +kernel) rfl), by decide, TX9, 13, rfl⟩
theorem cb_L_115 : CBV RL 115 yX10_keep cX10_keep 4 (some .int) 1 11 := ⟨⟨cw_X10_keep, ini_ChartRoomModel, by decide, (uw_of 1544 (by decide +kernel) rfl)⟩, (uw_of 1545 (by decide +kernel) rfl), (uw_of 1546 (by decide +kernel) rfl), by decide, TX10, 58, rfl⟩
theorem cb_L_116 : CBV RL 116 yX9_beside cX9_beside 6 (some .long) 4 10 := ⟨⟨cw_X9_beside, ini_ChartRoom, by decide, (uw_of 897 (by decide +kernel) rfl)⟩, (uw_of 898 (by decide +kernel) rfl), (uw_of 899 (by decide +kernel) rfl), by decide, TX9, 13, rfl⟩
theorem cb_L_120 : CBV RL 120 yX10_beside cX10_beside 5 (some .long) 4 11 := ⟨⟨cw_X10_beside, ini_ChartRoomModel, by decide, (uw_of 1548 (by decide +kernel) rfl)⟩, (uw_of 1549 (by decide +kernel) rfl), (uw_of 1550 (by decide +kernel) rfl), by decide, TX10, 58, rfl⟩
theorem cb_L_121 : CBV RL 121 yX9_drift cX9_drift 4 (some .int) 2 10 := ⟨⟨cw_X9_drift, ini_ChartRoom, by decide, (uw_of 907 (by decide +kernel) rfl)⟩, (uw_of 908 (by decide +kernel) rfl), (uw_of 909 (by decide +kernel) rfl), by decide, TX9, 13, rfl⟩
theorem cb_L_124 : CBV RL 124 yX10_drift cX10_drift 10 (some .int) 2 11 := ⟨⟨cw_X10_drift, ini_ChartRoomModel, by decide, (uw_of 1560 (by decide +kernel) rfl)⟩, (uw_of 1561 (by decide +kernel) rfl), (uw_of 1562 (by decide +kernel) rfl), by decide, TX10, 58, rfl⟩
theorem cb_L_125 : CBV RL 125 yX9_forecast cX9_forecast 8 (some .int) 4 10 := ⟨⟨cw_X9_forecast, ini_ChartRoom, by decide, (uw_of 916 (by decide +kernel) rfl)⟩, (uw_of 917 (by decide +kernel) rfl), (uw_of 918 (by decide +kernel) rfl), by decide, TX9, 13, rfl⟩
theorem cb_L_128 : CBV RL 128 yX10_forecast cX10_forecast 7 (some .int) 4 11 := ⟨⟨cw_X10_forecast, ini_ChartRoomModel, by decide, (uw_of 1564 (by decide +kernel) rfl)⟩, (uw_of 1565 (by decide +kernel) rfl), (uw_of 1566 (by decide +kernel) rfl), by decide, TX10, 58, rfl⟩
theorem cb_L_129 : CBV RL 129 yX9_verified cX9_verified 4 (some .int) 2 10 := ⟨⟨cw_X9_verified, ini_ChartRoom, by decide, (uw_of 971 (by decide +kernel) rfl)⟩, (uw_of 972 (by decide +kernel) rfl), (uw_of 973 (by decide +kernel) rfl), by decide, TX9, 13, rfl⟩
theorem cb_L_132 : CBV RL 132 yX10_verified cX10_verified 5 (some .int) 2 11 := ⟨⟨cw_X10_verified, ini_ChartRoomModel, by decide, (uw_of 1577 (by decide +kernel) rfl)⟩, (uw_of 1578 (by decide +kernel) rfl), (uw_of 1579 (by decide +kernel) rfl), by decide, TX10, 58, rfl⟩
theorem cb_L_133 : CBV RL 133 yX9_sheet cX9_sheet 4 (some .int) 3 10 := ⟨⟨cw_X9_sheet, ini_ChartRoom, by decide, (uw_of 986 (by decide +kernel) rfl)⟩, (uw_of 987 (by decide +kernel) rfl), (uw_of 988 (by decide +kernel) rfl), by decide, TX9, 13, rfl⟩
theorem cb_L_136 : CBV RL 136 yX10_sheet cX10_sheet 5 (some .int) 3 11 := ⟨⟨cw_X10_sheet, ini_ChartRoomModel, by decide, (uw_of 1589 (by decide +kernel) rfl)⟩, (uw_of 1590 (by decide +kernel) rfl), (uw_of 1591 (by decide +kernel) rfl), by decide, TX10, 58, rfl⟩
theorem cb_L_137 : CBV RL 137 yX9_lose cX9_lose 2 (some .int) 1 10 := ⟨⟨cw_X9_lose, ini_ChartRoom, by decide, (uw_of 995 (by decide +kernel) rfl)⟩, (uw_of 996 (by decide +kernel) rfl), (uw_of 997 (by decide +kernel) rfl), by decide, TX9, 13, rfl⟩
theorem cb_L_140 : CBV RL 140 yX10_lose cX10_lose 3 (some .int) 1 11 := ⟨⟨cw_X10_lose, ini_ChartRoomModel, by decide, (uw_of 1593 (by decide +kernel) rfl)⟩, (uw_of 1594 (by decide +kernel) rfl), (uw_of 1595 (by decide +kernel) rfl), by decide, TX10, 58, rfl⟩
theorem cb_L_141 : CBV RL 141 yX9_put cX9_put 5 (some .int) 3 10 := ⟨⟨cw_X9_put, ini_ChartRoom, by decide, (uw_of 1004 (by decide +kernel) rfl)⟩, (uw_of 1005 (by decide +kernel) rfl), (uw_of 1006 (by decide +kernel) rfl), by decide, TX9, 13, rfl⟩
theorem cb_L_144 : CBV RL 144 yX10_put cX10_put 4 (some .int) 3 11 := ⟨⟨cw_X10_put, ini_ChartRoomModel, by decide, (uw_of 1597 (by decide +kernel) rfl)⟩, (uw_of 1598 (by decide +kernel) rfl), (uw_of 1599 (by decide +kernel) rfl), by decide, TX10, 58, rfl⟩
theorem cb_L_145 : CBV RL 145 yX9_cell cX9_cell 4 (some .long) 3 10 := ⟨⟨cw_X9_cell, ini_ChartRoom, by decide, (uw_of 1012 (by decide +kernel) rfl)⟩, (uw_of 1013 (by decide +kernel) rfl), (uw_of 1014 (by decide +kernel) rfl), by decide, TX9, 13, rfl⟩
theorem cb_L_149 : CBV RL 149 yX10_cell cX10_cell 4 (some .long) 3 11 := ⟨⟨cw_X10_cell, ini_ChartRoomModel, by decide, (uw_of 1605 (by decide +kernel) rfl)⟩, (uw_of 1606 (by decide +kernel) rfl), (uw_of 1607 (by decide +kernel) rfl), by decide, TX10, 58, rfl⟩
theorem cb_L_150 : CBV RL 150 yX9_copy cX9_copy 8 (some .int) 5 10 := ⟨⟨cw_X9_copy, ini_ChartRoom, by decide, (uw_of 1016 (by decide +kernel) rfl)⟩, (uw_of 1017 (by decide +kernel) rfl), (uw_of 1018 (by decide +kernel) rfl), by decide, TX9, 13, rfl⟩
theorem cb_L_154 : CBV RL 154 yX10_copy cX10_copy 7 (some .int) 5 11 := ⟨⟨cw_X10_copy, ini_ChartRoomModel, by decide, (uw_of 1613 (by decide +kernel) rfl)⟩, (uw_of 1614 (by decide +kernel) rfl), (uw_of 1615 (by decide +kernel) rfl), by decide, TX10, 58, rfl⟩
theorem cb_L_155 : CBV RL 155 yX9_tell cX9_tell 3 (some .int) 1 10 := ⟨⟨cw_X9_tell, ini_ChartRoom, by decide, (uw_of 1021 (by decide +kernel) rfl)⟩, (uw_of 1022 (by decide +kernel) rfl), (uw_of 1023 (by decide +kernel) rfl), by decide, TX9, 13, rfl⟩
theorem cb_L_158 : CBV RL 158 yX10_tell cX10_tell 3 (some .int) 1 11 := ⟨⟨cw_X10_tell, ini_ChartRoomModel, by decide, (uw_of 1617 (by decide +kernel) rfl)⟩, (uw_of 1618 (by decide +kernel) rfl), (uw_of 1619 (by decide +kernel) rfl), by decide, TX10, 58, rfl⟩
theorem cb_L_159 : CBV RL 159 yX9_hail cX9_hail 2 (some .int) 1 10 := ⟨⟨cw_X9_hail, ini_ChartRoom, by decide, (uw_of 1041 (by decide +kernel) rfl)⟩, (uw_of 1042 (by decide +kernel) rfl), (uw_of 1043 (by decide +kernel) rfl), by decide, TX9, 13, rfl⟩
theorem cb_L_162 : CBV RL 162 yX10_hail cX10_hail 2 (some .int) 1 11 := ⟨⟨cw_X10_hail, ini_ChartRoomModel, by decide, (uw_of 1625 (by decide +kernel) rfl)⟩, (uw_of 1626 (by decide +kernel) rfl), (uw_of 1627 (by decide +kernel) rfl), by decide, TX10, 58, rfl⟩
theorem cb_L_163 : CBV RL 163 yX9_as cX9_as 3 (some .int) 2 10 := ⟨⟨cw_X9_as, ini_ChartRoom, by decide, (uw_of 1045 (by decide +kernel) rfl)⟩, (uw_of 1046 (by decide +kernel) rfl), (uw_of 1047 (by decide +kernel) rfl), by decide, TX9, 13, rfl⟩
theorem cb_L_166 : CBV RL 166 yX10_as cX10_as 3 (some .int) 2 11 := ⟨⟨cw_X10_as, ini_ChartRoomModel, by decide, (uw_of 1629 (by decide +kernel) rfl)⟩, (uw_of 1630 (by decide +kernel) rfl), (uw_of 1631 (by decide +kernel) rfl), by decide, TX10, 58, rfl⟩
theorem cb_L_167 : CBV RL 167 yX9_trace cX9_trace 1 (some .int) 0 10 := ⟨⟨cw_X9_trace, ini_ChartRoom, by decide, (uw_of 1049 (by decide +kernel) rfl)⟩, (uw_of 1050 (by decide +kernel) rfl), (uw_of 1051 (by decide +kernel) rfl), by decide, TX9, 13, rfl⟩
theorem cb_L_170 : CBV RL 170 yX10_trace cX10_trace 1 (some .int) 0 11 := ⟨⟨cw_X10_trace, ini_ChartRoomModel, by decide, (uw_of 1633 (by decide +kernel) rfl)⟩, (uw_of 1634 (by decide +kernel) rfl), (uw_of 1635 (by decide +kernel) rfl), by decide, TX10, 58, rfl⟩
theorem cb_L_171 : CBV RL 171 yX9_fault cX9_fault 1 (some .int) 0 10 := ⟨⟨cw_X9_fault, ini_ChartRoom, by decide, (uw_of 1053 (by decide +kernel) rfl)⟩, (uw_of 1054 (by decide +kernel) rfl), (uw_of 1055 (by decide +kernel) rfl), by decide, TX9, 13, rfl⟩
theorem cb_L_174 : CBV RL 174 yX10_fault cX10_fault 1 (some .int) 0 11 := ⟨⟨cw_X10_fault, ini_ChartRoomModel, by decide, (uw_of 1637 (by decide +kernel) rfl)⟩, (uw_of 1638 (by decide +kernel) rfl), (uw_of 1639 (by decide +kernel) rfl), by decide, TX10, 58, rfl⟩
theorem cb_L_175 : CBV RL 175 yX9_many cX9_many 2 (some .int) 1 10 := ⟨⟨cw_X9_many, ini_ChartRoom, by decide, (uw_of 1057 (by decide +kernel) rfl)⟩, (uw_of 1058 (by decide +kernel) rfl), (uw_of 1059 (by decide +kernel) rfl), by decide, TX9, 13, rfl⟩
theorem cb_L_178 : CBV RL 178 yX10_many cX10_many 4 (some .int) 1 11 := ⟨⟨cw_X10_many, ini_ChartRoomModel, by decide, (uw_of 1641 (by decide +kernel) rfl)⟩, (uw_of 1642 (by decide +kernel) rfl), (uw_of 1643 (by decide +kernel) rfl), by decide, TX10, 58, rfl⟩
/-- case 0: post -/
def E_0 (Inv : MS → MS → Prop) : Prop := ∀ (SC SR : MS) (g : Nat → Int32), Inv SC SR → ∃ (r : Int32) (SC' : MS) (SR' : MS), fX9_post SC 1 (g 1) (g 2) (g 3) (g 4) (g 5) (g 6) = some (r, SC') ∧ fX10_post SR 1 (g 1) (g 2) (g 3) (g 4) (g 5) (g 6) = some (r, SR') ∧ Inv SC' SR'
set_option maxHeartbeats 4000000 in
set_option maxRecDepth 100000 in
theorem wLaw_0 {p : Program} {l : Launch} {e : Env} {s : State} {m : MethodId} {below : List Frame} {meth : Method} {c : Code} {D : va_G} {cy : Nat → ClassId} {adC adR : Nat → Nat} {AC AR : Nat → Prop} {K0 b L : Nat} {xs : Nat → Int32} {Inv : MS → MS → Prop} (C0 : CX p s m #[Value.ref b] meth c R_law cL_law 4 D cy) (hX : va_X b L xs s s.heap) (hbl : b < s.heap.size) (hbA : ¬ s.heap.size ≤ b) (hE : EX adC (fun q => s.heap.size ≤ q) s) (hL : LA s.heap AC AR) (hA : ∀ k, 0 < k → AC (adC k)) (hs : ∀ k, K0 ≤ k → adC (k + 1) + 1 = adC (k + 2)) (hI : ∀ SC SR, Inv SC SR → o_is SC 1 10 = some 1 ∧ o_is SR 1 11 = some 1) {SC SR : MS} (hInv : Inv SC SR) {H : Heap} {locs : List Loc} {cells slots : Nat} (M : LW D cy adC AC adR AR s.heap K0 SC SR H locs) (hcc : cells + 5 ≤ 600000 ∧ slots + 64 ≤ 7302250) {x3 : Int32} {g : Nat → Int32} (hin : ∀ j, j < 9 → vp_in (x3 + nI j) L) (hval : ∀ j, j < 9 → xs (x3 + nI j).toNatClampNeg = g j) {ls : Array Slot} (hl : lv_has ls 4 [(0, .ref b), (1, .ref (adC 1)), (2, .ref (adR 1)), (3, .int x3)]) (hE0 : E_0 Inv)
    (K : ∀ (SC' SR' : MS) (H : Heap) (locs : List Loc), Inv SC' SR' → LW D cy adC AC adR AR s.heap K0 SC' SR' H locs → W p l e room_1 s m #[Value.ref b] below meth c H locs (cells + 5) (slots + 64) (lw_Z below #[Value.ref b] s) (F0 m 1613 ls [])) : W p l e room_1 s m #[Value.ref b] below meth c H locs cells slots (lw_Z below #[Value.ref b] s) (F0 m 204 ls []) := by
  obtain ⟨hx, hb, -, hown, -, hts, -⟩ := id C0
  obtain ⟨r, SC', SR', h1, h2, h3⟩ := hE0 SC SR g hInv
  refine lv_aload_n hx hb dL_law_204 rfl (lv_at hl 1 rfl) ?_
  refine lv_aload_n hx hb dL_law_205 rfl (lv_at hl 0 rfl) ?_
  refine lv_iload_n hx hb dL_law_206 rfl (lv_at hl 3 rfl) ?_
  refine lv_iconst (v := (1 : Int32)) hx hb dL_law_207 (by decide) ?_
  refine lv_iadd hx hb dL_law_208 ?_
  refine va_sld hx hb hX hbl hbA M.2.2.1 (hin 1 (by decide)) dL_law_209 ?_
  refine vtopi (hval 1 (by decide)) ?_
  refine lv_aload_n hx hb dL_law_210 rfl (lv_at hl 0 rfl) ?_
  refine lv_iload_n hx hb dL_law_211 rfl (lv_at hl 3 rfl) ?_
  refine lv_iconst (v := (2 : Int32)) hx hb dL_law_212 (by decide) ?_
  refine lv_iadd hx hb dL_law_213 ?_
  refine va_sld hx hb hX hbl hbA M.2.2.1 (hin 2 (by decide)) dL_law_214 ?_
  refine vtopi (hval 2 (by decide)) ?_
  refine lv_aload_n hx hb dL_law_215 rfl (lv_at hl 0 rfl) ?_
  refine lv_iload_n hx hb dL_law_216 rfl (lv_at hl 3 rfl) ?_
  refine lv_iconst (v := (3 : Int32)) hx hb dL_law_217 (by decide) ?_
  refine lv_iadd hx hb dL_law_218 ?_
  refine va_sld hx hb hX hbl hbA M.2.2.1 (hin 3 (by decide)) dL_law_219 ?_
  refine vtopi (hval 3 (by decide)) ?_
  refine lv_aload_n hx hb dL_law_220 rfl (lv_at hl 0 rfl) ?_
  refine lv_iload_n hx hb dL_law_221 rfl (lv_at hl 3 rfl) ?_
  refine lv_iconst (v := (4 : Int32)) hx hb dL_law_222 (by decide) ?_
  refine lv_iadd hx hb dL_law_223 ?_
  refine va_sld hx hb hX hbl hbA M.2.2.1 (hin 4 (by decide)) dL_law_224 ?_
  refine vtopi (hval 4 (by decide)) ?_
  refine lv_aload_n hx hb dL_law_225 rfl (lv_at hl 0 rfl) ?_
  refine lv_iload_n hx hb dL_law_226 rfl (lv_at hl 3 rfl) ?_
  refine lv_iconst (v := (5 : Int32)) hx hb dL_law_227 (by decide) ?_
  refine lv_iadd hx hb dL_law_228 ?_
  refine va_sld hx hb hX hbl hbA M.2.2.1 (hin 5 (by decide)) dL_law_229 ?_
  refine vtopi (hval 5 (by decide)) ?_
  refine lv_aload_n hx hb dL_law_230 rfl (lv_at hl 0 rfl) ?_
  refine lv_iload_n hx hb dL_law_231 rfl (lv_at hl 3 rfl) ?_
  refine lv_bipush (v := (6 : Int32)) hx hb dL_law_232 (by decide) ?_
  refine lv_iadd hx hb dL_law_234 ?_
  refine va_sld hx hb hX hbl hbA M.2.2.1 (hin 6 (by decide)) dL_law_235 ?_
  refine vtopi (hval 6 (by decide)) ?_
  refine g2_CAI (r_V (rest := []) (As := [.int (g 1), .int (g 2), .int (g 3), .int (g 4), .int (g 5), .int (g 6)]) C0 cb_L_13 M.1 (hI _ _ hInv).1 (tX9_post l D cy adC AC K0 hA hs h1) (pre2_A C0 hE hL M) hl dL_law_236 rfl (Nat.le_of_ble_eq_true rfl) ⟨rfl, rfl⟩ ⟨Nat.le_of_ble_eq_true rfl, Nat.le_of_ble_eq_true rfl⟩ ⟨by show _ ≤ 600000; omega, by show _ ≤ 7302250; omega⟩ rfl) hL M (fun H locs M => ?_)
  refine lv_aload_n hx hb dL_law_239 rfl (lv_at hl 2 rfl) ?_
  refine lv_aload_n hx hb dL_law_240 rfl (lv_at hl 0 rfl) ?_
  refine lv_iload_n hx hb dL_law_241 rfl (lv_at hl 3 rfl) ?_
  refine lv_iconst (v := (1 : Int32)) hx hb dL_law_242 (by decide) ?_
  refine lv_iadd hx hb dL_law_243 ?_
  refine va_sld hx hb hX hbl hbA M.2.2.1 (hin 1 (by decide)) dL_law_244 ?_
  refine vtopi (hval 1 (by decide)) ?_
  refine lv_aload_n hx hb dL_law_245 rfl (lv_at hl 0 rfl) ?_
  refine lv_iload_n hx hb dL_law_246 rfl (lv_at hl 3 rfl) ?_
  refine lv_iconst (v := (2 : Int32)) hx hb dL_law_247 (by decide) ?_
  refine lv_iadd hx hb dL_law_248 ?_
  refine va_sld hx hb hX hbl hbA M.2.2.1 (hin 2 (by decide)) dL_law_249 ?_
  refine vtopi (hval 2 (by decide)) ?_
  refine lv_aload_n hx hb dL_law_250 rfl (lv_at hl 0 rfl) ?_
  refine lv_iload_n hx hb dL_law_251 rfl (lv_at hl 3 rfl) ?_
  refine lv_iconst (v := (3 : Int32)) hx hb dL_law_252 (by decide) ?_
  refine lv_iadd hx hb dL_law_253 ?_
  refine va_sld hx hb hX hbl hbA M.2.2.1 (hin 3 (by decide)) dL_law_254 ?_
  refine vtopi (hval 3 (by decide)) ?_
  refine lv_aload_n hx hb dL_law_255 rfl (lv_at hl 0 rfl) ?_
  refine lv_iload_n hx hb dL_law_256 rfl (lv_at hl 3 rfl) ?_
  refine lv_iconst (v := (4 : Int32)) hx hb dL_law_257 (by decide) ?_
  refine lv_iadd hx hb dL_law_258 ?_
  refine va_sld hx hb hX hbl hbA M.2.2.1 (hin 4 (by decide)) dL_law_259 ?_
  refine vtopi (hval 4 (by decide)) ?_
  refine lv_aload_n hx hb dL_law_260 rfl (lv_at hl 0 rfl) ?_
  refine lv_iload_n hx hb dL_law_261 rfl (lv_at hl 3 rfl) ?_
  refine lv_iconst (v := (5 : Int32)) hx hb dL_law_262 (by decide) ?_
  refine lv_iadd hx hb dL_law_263 ?_
  refine va_sld hx hb hX hbl hbA M.2.2.1 (hin 5 (by decide)) dL_law_264 ?_
  refine vtopi (hval 5 (by decide)) ?_
  refine lv_aload_n hx hb dL_law_265 rfl (lv_at hl 0 rfl) ?_
  refine lv_iload_n hx hb dL_law_266 rfl (lv_at hl 3 rfl) ?_
  refine lv_bipush (v := (6 : Int32)) hx hb dL_law_267 (by decide) ?_
  refine lv_iadd hx hb dL_law_269 ?_
  refine va_sld hx hb hX hbl hbA M.2.2.1 (hin 6 (by decide)) dL_law_270 ?_
  refine vtopi (hval 6 (by decide)) ?_
  refine g2_RMI (r_V (rest := [.int r]) (As := [.int (g 1), .int (g 2), .int (g 3), .int (g 4), .int (g 5), .int (g 6)]) C0 cb_L_17 M.2.1 (hI _ _ hInv).2 (tX10_post l D cy adR AR h2) (pre_R C0 M.2.1) hl dL_law_271 rfl (Nat.le_of_ble_eq_true rfl) ⟨rfl, rfl⟩ ⟨Nat.le_of_ble_eq_true rfl, Nat.le_of_ble_eq_true rfl⟩ ⟨by show _ ≤ 600000; omega, by show _ ≤ 7302250; omega⟩ rfl) hL M (fun H locs M => ?_)
  refine lv_icmp_eq (tgt := 1613) hx hb dL_law_274 (by decide) (fun hc => ?_) (fun hc => absurd rfl hc)
  refine W.widen (k := cells + 5) (n := slots + 64) (by omega) (by omega) ?_
  exact K _ _ _ _ h3 M
/-- case 1: about -/
def E_1 (Inv : MS → MS → Prop) : Prop := ∀ (SC SR : MS) (g : Nat → Int32), Inv SC SR → ∃ (r : Int32) (SC' : MS) (SR' : MS), fX9_about SC 1 (g 1) (g 2) = some (r, SC') ∧ fX10_about SR 1 (g 1) (g 2) = some (r, SR') ∧ Inv SC' SR'
set_option maxHeartbeats 4000000 in
set_option maxRecDepth 100000 in
theorem wLaw_1 {p : Program} {l : Launch} {e : Env} {s : State} {m : MethodId} {below : List Frame} {meth : Method} {c : Code} {D : va_G} {cy : Nat → ClassId} {adC adR : Nat → Nat} {AC AR : Nat → Prop} {K0 b L : Nat} {xs : Nat → Int32} {Inv : MS → MS → Prop} (C0 : CX p s m #[Value.ref b] meth c R_law cL_law 4 D cy) (hX : va_X b L xs s s.heap) (hbl : b < s.heap.size) (hbA : ¬ s.heap.size ≤ b) (hE : EX adC (fun q => s.heap.size ≤ q) s) (hL : LA s.heap AC AR) (hA : ∀ k, 0 < k → AC (adC k)) (hs : ∀ k, K0 ≤ k → adC (k + 1) + 1 = adC (k + 2)) (hI : ∀ SC SR, Inv SC SR → o_is SC 1 10 = some 1 ∧ o_is SR 1 11 = some 1) {SC SR : MS} (hInv : Inv SC SR) {H : Heap} {locs : List Loc} {cells slots : Nat} (M : LW D cy adC AC adR AR s.heap K0 SC SR H locs) (hcc : cells + 5 ≤ 600000 ∧ slots + 64 ≤ 7302250) {x3 : Int32} {g : Nat → Int32} (hin : ∀ j, j < 9 → vp_in (x3 + nI j) L) (hval : ∀ j, j < 9 → xs (x3 + nI j).toNatClampNeg = g j) {ls : Array Slot} (hl : lv_has ls 4 [(0, .ref b), (1, .ref (adC 1)), (2, .ref (adR 1)), (3, .int x3)]) (hE0 : E_1 Inv)
    (K : ∀ (SC' SR' : MS) (H : Heap) (locs : List Loc), Inv SC' SR' → LW D cy adC AC adR AR s.heap K0 SC' SR' H locs → W p l e room_1 s m #[Value.ref b] below meth c H locs (cells + 5) (slots + 64) (lw_Z below #[Value.ref b] s) (F0 m 1613 ls [])) : W p l e room_1 s m #[Value.ref b] below meth c H locs cells slots (lw_Z below #[Value.ref b] s) (F0 m 279 ls []) := by
  obtain ⟨hx, hb, -, hown, -, hts, -⟩ := id C0
  obtain ⟨r, SC', SR', h1, h2, h3⟩ := hE0 SC SR g hInv
  refine lv_aload_n hx hb dL_law_279 rfl (lv_at hl 1 rfl) ?_
  refine lv_aload_n hx hb dL_law_280 rfl (lv_at hl 0 rfl) ?_
  refine lv_iload_n hx hb dL_law_281 rfl (lv_at hl 3 rfl) ?_
  refine lv_iconst (v := (1 : Int32)) hx hb dL_law_282 (by decide) ?_
  refine lv_iadd hx hb dL_law_283 ?_
  refine va_sld hx hb hX hbl hbA M.2.2.1 (hin 1 (by decide)) dL_law_284 ?_
  refine vtopi (hval 1 (by decide)) ?_
  refine lv_aload_n hx hb dL_law_285 rfl (lv_at hl 0 rfl) ?_
  refine lv_iload_n hx hb dL_law_286 rfl (lv_at hl 3 rfl) ?_
  refine lv_iconst (v := (2 : Int32)) hx hb dL_law_287 (by decide) ?_
  refine lv_iadd hx hb dL_law_288 ?_
  refine va_sld hx hb hX hbl hbA M.2.2.1 (hin 2 (by decide)) dL_law_289 ?_
  refine vtopi (hval 2 (by decide)) ?_
  refine g2_CMI (r_V (rest := []) (As := [.int (g 1), .int (g 2)]) C0 cb_L_18 M.1 (hI _ _ hInv).1 (tX9_about l D cy adC AC h1) (pre_R C0 M.1) hl dL_law_290 rfl (Nat.le_of_ble_eq_true rfl) ⟨rfl, rfl⟩ ⟨Nat.le_of_ble_eq_true rfl, Nat.le_of_ble_eq_true rfl⟩ ⟨by show _ ≤ 600000; omega, by show _ ≤ 7302250; omega⟩ rfl) hL M (fun H locs M => ?_)
  refine lv_aload_n hx hb dL_law_293 rfl (lv_at hl 2 rfl) ?_
  refine lv_aload_n hx hb dL_law_294 rfl (lv_at hl 0 rfl) ?_
  refine lv_iload_n hx hb dL_law_295 rfl (lv_at hl 3 rfl) ?_
  refine lv_iconst (v := (1 : Int32)) hx hb dL_law_296 (by decide) ?_
  refine lv_iadd hx hb dL_law_297 ?_
  refine va_sld hx hb hX hbl hbA M.2.2.1 (hin 1 (by decide)) dL_law_298 ?_
  refine vtopi (hval 1 (by decide)) ?_
  refine lv_aload_n hx hb dL_law_299 rfl (lv_at hl 0 rfl) ?_
  refine lv_iload_n hx hb dL_law_300 rfl (lv_at hl 3 rfl) ?_
  refine lv_iconst (v := (2 : Int32)) hx hb dL_law_301 (by decide) ?_
  refine lv_iadd hx hb dL_law_302 ?_
  refine va_sld hx hb hX hbl hbA M.2.2.1 (hin 2 (by decide)) dL_law_303 ?_
  refine vtopi (hval 2 (by decide)) ?_
  refine g2_RMI (r_V (rest := [.int r]) (As := [.int (g 1), .int (g 2)]) C0 cb_L_22 M.2.1 (hI _ _ hInv).2 (tX10_about l D cy adR AR h2) (pre_R C0 M.2.1) hl dL_law_304 rfl (Nat.le_of_ble_eq_true rfl) ⟨rfl, rfl⟩ ⟨Nat.le_of_ble_eq_true rfl, Nat.le_of_ble_eq_true rfl⟩ ⟨by show _ ≤ 600000; omega, by show _ ≤ 7302250; omega⟩ rfl) hL M (fun H locs M => ?_)
  refine lv_icmp_eq (tgt := 1613) hx hb dL_law_307 (by decide) (fun hc => ?_) (fun hc => absurd rfl hc)
  refine W.widen (k := cells + 5) (n := slots + 64) (by omega) (by omega) ?_
  exact K _ _ _ _ h3 M
/-- case 2: place -/
def E_2 (Inv : MS → MS → Prop) : Prop := ∀ (SC SR : MS) (g : Nat → Int32), Inv SC SR → ∃ (r : Int32), fX9_place SC 1 (g 1) (g 2) = some r ∧ fX10_place SR 1 (g 1) (g 2) = some r ∧ Inv SC SR
set_option maxHeartbeats 4000000 in
set_option maxRecDepth 100000 in
theorem wLaw_2 {p : Program} {l : Launch} {e : Env} {s : State} {m : MethodId} {below : List Frame} {meth : Method} {c : Code} {D : va_G} {cy : Nat → ClassId} {adC adR : Nat → Nat} {AC AR : Nat → Prop} {K0 b L : Nat} {xs : Nat → Int32} {Inv : MS → MS → Prop} (C0 : CX p s m #[Value.ref b] meth c R_law cL_law 4 D cy) (hX : va_X b L xs s s.heap) (hbl : b < s.heap.size) (hbA : ¬ s.heap.size ≤ b) (hE : EX adC (fun q => s.heap.size ≤ q) s) (hL : LA s.heap AC AR) (hA : ∀ k, 0 < k → AC (adC k)) (hs : ∀ k, K0 ≤ k → adC (k + 1) + 1 = adC (k + 2)) (hI : ∀ SC SR, Inv SC SR → o_is SC 1 10 = some 1 ∧ o_is SR 1 11 = some 1) {SC SR : MS} (hInv : Inv SC SR) {H : Heap} {locs : List Loc} {cells slots : Nat} (M : LW D cy adC AC adR AR s.heap K0 SC SR H locs) (hcc : cells + 5 ≤ 600000 ∧ slots + 64 ≤ 7302250) {x3 : Int32} {g : Nat → Int32} (hin : ∀ j, j < 9 → vp_in (x3 + nI j) L) (hval : ∀ j, j < 9 → xs (x3 + nI j).toNatClampNeg = g j) {ls : Array Slot} (hl : lv_has ls 4 [(0, .ref b), (1, .ref (adC 1)), (2, .ref (adR 1)), (3, .int x3)]) (hE0 : E_2 Inv)
    (K : ∀ (SC' SR' : MS) (H : Heap) (locs : List Loc), Inv SC' SR' → LW D cy adC AC adR AR s.heap K0 SC' SR' H locs → W p l e room_1 s m #[Value.ref b] below meth c H locs (cells + 5) (slots + 64) (lw_Z below #[Value.ref b] s) (F0 m 1613 ls [])) : W p l e room_1 s m #[Value.ref b] below meth c H locs cells slots (lw_Z below #[Value.ref b] s) (F0 m 312 ls []) := by
  obtain ⟨hx, hb, -, hown, -, hts, -⟩ := id C0
  obtain ⟨r, h1, h2, h3⟩ := hE0 SC SR g hInv
  refine lv_aload_n hx hb dL_law_312 rfl (lv_at hl 1 rfl) ?_
  refine lv_aload_n hx hb dL_law_313 rfl (lv_at hl 0 rfl) ?_
  refine lv_iload_n hx hb dL_law_314 rfl (lv_at hl 3 rfl) ?_
  refine lv_iconst (v := (1 : Int32)) hx hb dL_law_315 (by decide) ?_
  refine lv_iadd hx hb dL_law_316 ?_
  refine va_sld hx hb hX hbl hbA M.2.2.1 (hin 1 (by decide)) dL_law_317 ?_
  refine vtopi (hval 1 (by decide)) ?_
  refine lv_aload_n hx hb dL_law_318 rfl (lv_at hl 0 rfl) ?_
  refine lv_iload_n hx hb dL_law_319 rfl (lv_at hl 3 rfl) ?_
  refine lv_iconst (v := (2 : Int32)) hx hb dL_law_320 (by decide) ?_
  refine lv_iadd hx hb dL_law_321 ?_
  refine va_sld hx hb hX hbl hbA M.2.2.1 (hin 2 (by decide)) dL_law_322 ?_
  refine vtopi (hval 2 (by decide)) ?_
  refine go_SI (r_V (rest := []) (As := [.int (g 1), .int (g 2)]) C0 cb_L_23 M.1 (hI _ _ hInv).1 (tX9_place l D cy adC AC h1) (pre_R C0 M.1) hl dL_law_323 rfl (Nat.le_of_ble_eq_true rfl) ⟨rfl, rfl⟩ ⟨Nat.le_of_ble_eq_true rfl, Nat.le_of_ble_eq_true rfl⟩ ⟨by show _ ≤ 600000; omega, by show _ ≤ 7302250; omega⟩ rfl) ?_
  refine lv_aload_n hx hb dL_law_326 rfl (lv_at hl 2 rfl) ?_
  refine lv_aload_n hx hb dL_law_327 rfl (lv_at hl 0 rfl) ?_
  refine lv_iload_n hx hb dL_law_328 rfl (lv_at hl 3 rfl) ?_
  refine lv_iconst (v := (1 : Int32)) hx hb dL_law_329 (by decide) ?_
  refine lv_iadd hx hb dL_law_330 ?_
  refine va_sld hx hb hX hbl hbA M.2.2.1 (hin 1 (by decide)) dL_law_331 ?_
  refine vtopi (hval 1 (by decide)) ?_
  refine lv_aload_n hx hb dL_law_332 rfl (lv_at hl 0 rfl) ?_
  refine lv_iload_n hx hb dL_law_333 rfl (lv_at hl 3 rfl) ?_
  refine lv_iconst (v := (2 : Int32)) hx hb dL_law_334 (by decide) ?_
  refine lv_iadd hx hb dL_law_335 ?_
  refine va_sld hx hb hX hbl hbA M.2.2.1 (hin 2 (by decide)) dL_law_336 ?_
  refine vtopi (hval 2 (by decide)) ?_
  refine go_SI (r_V (rest := [.int r]) (As := [.int (g 1), .int (g 2)]) C0 cb_L_26 M.2.1 (hI _ _ hInv).2 (tX10_place l D cy adR AR h2) (pre_R C0 M.2.1) hl dL_law_337 rfl (Nat.le_of_ble_eq_true rfl) ⟨rfl, rfl⟩ ⟨Nat.le_of_ble_eq_true rfl, Nat.le_of_ble_eq_true rfl⟩ ⟨by show _ ≤ 600000; omega, by show _ ≤ 7302250; omega⟩ rfl) ?_
  refine lv_icmp_eq (tgt := 1613) hx hb dL_law_340 (by decide) (fun hc => ?_) (fun hc => absurd rfl hc)
  refine W.widen (k := cells + 5) (n := slots + 64) (by omega) (by omega) ?_
  exact K _ _ _ _ h3 M
/-- case 3: wire -/
def E_3 (Inv : MS → MS → Prop) : Prop := ∀ (SC SR : MS) (g : Nat → Int32), Inv SC SR → ∃ (r : Int32) (SC' : MS) (SR' : MS), fX9_wire SC 1 (g 1) (g 2) (g 3) (g 4) (g 5) (g 6) = some (r, SC') ∧ fX10_wire SR 1 (g 1) (g 2) (g 3) (g 4) (g 5) (g 6) = some (r, SR') ∧ Inv SC' SR'
set_option maxHeartbeats 4000000 in
set_option maxRecDepth 100000 in
theorem wLaw_3 {p : Program} {l : Launch} {e : Env} {s : State} {m : MethodId} {below : List Frame} {meth : Method} {c : Code} {D : va_G} {cy : Nat → ClassId} {adC adR : Nat → Nat} {AC AR : Nat → Prop} {K0 b L : Nat} {xs : Nat → Int32} {Inv : MS → MS → Prop} (C0 : CX p s m #[Value.ref b] meth c R_law cL_law 4 D cy) (hX : va_X b L xs s s.heap) (hbl : b < s.heap.size) (hbA : ¬ s.heap.size ≤ b) (hE : EX adC (fun q => s.heap.size ≤ q) s) (hL : LA s.heap AC AR) (hA : ∀ k, 0 < k → AC (adC k)) (hs : ∀ k, K0 ≤ k → adC (k + 1) + 1 = adC (k + 2)) (hI : ∀ SC SR, Inv SC SR → o_is SC 1 10 = some 1 ∧ o_is SR 1 11 = some 1) {SC SR : MS} (hInv : Inv SC SR) {H : Heap} {locs : List Loc} {cells slots : Nat} (M : LW D cy adC AC adR AR s.heap K0 SC SR H locs) (hcc : cells + 5 ≤ 600000 ∧ slots + 64 ≤ 7302250) {x3 : Int32} {g : Nat → Int32} (hin : ∀ j, j < 9 → vp_in (x3 + nI j) L) (hval : ∀ j, j < 9 → xs (x3 + nI j).toNatClampNeg = g j) {ls : Array Slot} (hl : lv_has ls 4 [(0, .ref b), (1, .ref (adC 1)), (2, .ref (adR 1)), (3, .int x3)]) (hE0 : E_3 Inv)
    (K : ∀ (SC' SR' : MS) (H : Heap) (locs : List Loc), Inv SC' SR' → LW D cy adC AC adR AR s.heap K0 SC' SR' H locs → W p l e room_1 s m #[Value.ref b] below meth c H locs (cells + 5) (slots + 64) (lw_Z below #[Value.ref b] s) (F0 m 1613 ls [])) : W p l e room_1 s m #[Value.ref b] below meth c H locs cells slots (lw_Z below #[Value.ref b] s) (F0 m 345 ls []) := by
  obtain ⟨hx, hb, -, hown, -, hts, -⟩ := id C0
  obtain ⟨r, SC', SR', h1, h2, h3⟩ := hE0 SC SR g hInv
  refine lv_aload_n hx hb dL_law_345 rfl (lv_at hl 1 rfl) ?_
  refine lv_aload_n hx hb dL_law_346 rfl (lv_at hl 0 rfl) ?_
  refine lv_iload_n hx hb dL_law_347 rfl (lv_at hl 3 rfl) ?_
  refine lv_iconst (v := (1 : Int32)) hx hb dL_law_348 (by decide) ?_
  refine lv_iadd hx hb dL_law_349 ?_
  refine va_sld hx hb hX hbl hbA M.2.2.1 (hin 1 (by decide)) dL_law_350 ?_
  refine vtopi (hval 1 (by decide)) ?_
  refine lv_aload_n hx hb dL_law_351 rfl (lv_at hl 0 rfl) ?_
  refine lv_iload_n hx hb dL_law_352 rfl (lv_at hl 3 rfl) ?_
  refine lv_iconst (v := (2 : Int32)) hx hb dL_law_353 (by decide) ?_
  refine lv_iadd hx hb dL_law_354 ?_
  refine va_sld hx hb hX hbl hbA M.2.2.1 (hin 2 (by decide)) dL_law_355 ?_
  refine vtopi (hval 2 (by decide)) ?_
  refine lv_aload_n hx hb dL_law_356 rfl (lv_at hl 0 rfl) ?_
  refine lv_iload_n hx hb dL_law_357 rfl (lv_at hl 3 rfl) ?_
  refine lv_iconst (v := (3 : Int32)) hx hb dL_law_358 (by decide) ?_
  refine lv_iadd hx hb dL_law_359 ?_
  refine va_sld hx hb hX hbl hbA M.2.2.1 (hin 3 (by decide)) dL_law_360 ?_
  refine vtopi (hval 3 (by decide)) ?_
  refine lv_aload_n hx hb dL_law_361 rfl (lv_at hl 0 rfl) ?_
  refine lv_iload_n hx hb dL_law_362 rfl (lv_at hl 3 rfl) ?_
  refine lv_iconst (v := (4 : Int32)) hx hb dL_law_363 (by decide) ?_
  refine lv_iadd hx hb dL_law_364 ?_
  refine va_sld hx hb hX hbl hbA M.2.2.1 (hin 4 (by decide)) dL_law_365 ?_
  refine vtopi (hval 4 (by decide)) ?_
  refine lv_aload_n hx hb dL_law_366 rfl (lv_at hl 0 rfl) ?_
  refine lv_iload_n hx hb dL_law_367 rfl (lv_at hl 3 rfl) ?_
  refine lv_iconst (v := (5 : Int32)) hx hb dL_law_368 (by decide) ?_
  refine lv_iadd hx hb dL_law_369 ?_
  refine va_sld hx hb hX hbl hbA M.2.2.1 (hin 5 (by decide)) dL_law_370 ?_
  refine vtopi (hval 5 (by decide)) ?_
  refine lv_aload_n hx hb dL_law_371 rfl (lv_at hl 0 rfl) ?_
  refine lv_iload_n hx hb dL_law_372 rfl (lv_at hl 3 rfl) ?_
  refine lv_bipush (v := (6 : Int32)) hx hb dL_law_373 (by decide) ?_
  refine lv_iadd hx hb dL_law_375 ?_
  refine va_sld hx hb hX hbl hbA M.2.2.1 (hin 6 (by decide)) dL_law_376 ?_
  refine vtopi (hval 6 (by decide)) ?_
  refine g2_CAI (r_V (rest := []) (As := [.int (g 1), .int (g 2), .int (g 3), .int (g 4), .int (g 5), .int (g 6)]) C0 cb_L_27 M.1 (hI _ _ hInv).1 (tX9_wire l D cy adC AC K0 hA hs h1) (pre2_A C0 hE hL M) hl dL_law_377 rfl (Nat.le_of_ble_eq_true rfl) ⟨rfl, rfl⟩ ⟨Nat.le_of_ble_eq_true rfl, Nat.le_of_ble_eq_true rfl⟩ ⟨by show _ ≤ 600000; omega, by show _ ≤ 7302250; omega⟩ rfl) hL M (fun H locs M => ?_)
  refine lv_aload_n hx hb dL_law_380 rfl (lv_at hl 2 rfl) ?_
  refine lv_aload_n hx hb dL_law_381 rfl (lv_at hl 0 rfl) ?_
  refine lv_iload_n hx hb dL_law_382 rfl (lv_at hl 3 rfl) ?_
  refine lv_iconst (v := (1 : Int32)) hx hb dL_law_383 (by decide) ?_
  refine lv_iadd hx hb dL_law_384 ?_
  refine va_sld hx hb hX hbl hbA M.2.2.1 (hin 1 (by decide)) dL_law_385 ?_
  refine vtopi (hval 1 (by decide)) ?_
  refine lv_aload_n hx hb dL_law_386 rfl (lv_at hl 0 rfl) ?_
  refine lv_iload_n hx hb dL_law_387 rfl (lv_at hl 3 rfl) ?_
  refine lv_iconst (v := (2 : Int32)) hx hb dL_law_388 (by decide) ?_
  refine lv_iadd hx hb dL_law_389 ?_
  refine va_sld hx hb hX hbl hbA M.2.2.1 (hin 2 (by decide)) dL_law_390 ?_
  refine vtopi (hval 2 (by decide)) ?_
  refine lv_aload_n hx hb dL_law_391 rfl (lv_at hl 0 rfl) ?_
  refine lv_iload_n hx hb dL_law_392 rfl (lv_at hl 3 rfl) ?_
  refine lv_iconst (v := (3 : Int32)) hx hb dL_law_393 (by decide) ?_
  refine lv_iadd hx hb dL_law_394 ?_
  refine va_sld hx hb hX hbl hbA M.2.2.1 (hin 3 (by decide)) dL_law_395 ?_
  refine vtopi (hval 3 (by decide)) ?_
  refine lv_aload_n hx hb dL_law_396 rfl (lv_at hl 0 rfl) ?_
  refine lv_iload_n hx hb dL_law_397 rfl (lv_at hl 3 rfl) ?_
  refine lv_iconst (v := (4 : Int32)) hx hb dL_law_398 (by decide) ?_
  refine lv_iadd hx hb dL_law_399 ?_
  refine va_sld hx hb hX hbl hbA M.2.2.1 (hin 4 (by decide)) dL_law_400 ?_
  refine vtopi (hval 4 (by decide)) ?_
  refine lv_aload_n hx hb dL_law_401 rfl (lv_at hl 0 rfl) ?_
  refine lv_iload_n hx hb dL_law_402 rfl (lv_at hl 3 rfl) ?_
  refine lv_iconst (v := (5 : Int32)) hx hb dL_law_403 (by decide) ?_
  refine lv_iadd hx hb dL_law_404 ?_
  refine va_sld hx hb hX hbl hbA M.2.2.1 (hin 5 (by decide)) dL_law_405 ?_
  refine vtopi (hval 5 (by decide)) ?_
  refine lv_aload_n hx hb dL_law_406 rfl (lv_at hl 0 rfl) ?_
  refine lv_iload_n hx hb dL_law_407 rfl (lv_at hl 3 rfl) ?_
  refine lv_bipush (v := (6 : Int32)) hx hb dL_law_408 (by decide) ?_
  refine lv_iadd hx hb dL_law_410 ?_
  refine va_sld hx hb hX hbl hbA M.2.2.1 (hin 6 (by decide)) dL_law_411 ?_
  refine vtopi (hval 6 (by decide)) ?_
  refine g2_RMI (r_V (rest := [.int r]) (As := [.int (g 1), .int (g 2), .int (g 3), .int (g 4), .int (g 5), .int (g 6)]) C0 cb_L_30 M.2.1 (hI _ _ hInv).2 (tX10_wire l D cy adR AR h2) (pre_R C0 M.2.1) hl dL_law_412 rfl (Nat.le_of_ble_eq_true rfl) ⟨rfl, rfl⟩ ⟨Nat.le_of_ble_eq_true rfl, Nat.le_of_ble_eq_true rfl⟩ ⟨by show _ ≤ 600000; omega, by show _ ≤ 7302250; omega⟩ rfl) hL M (fun H locs M => ?_)
  refine lv_icmp_eq (tgt := 1613) hx hb dL_law_415 (by decide) (fun hc => ?_) (fun hc => absurd rfl hc)
  refine W.widen (k := cells + 5) (n := slots + 64) (by omega) (by omega) ?_
  exact K _ _ _ _ h3 M
/-- case 4: told -/
def E_4 (Inv : MS → MS → Prop) : Prop := ∀ (SC SR : MS) (g : Nat → Int32), Inv SC SR → ∃ (r : Int32) (SR' : MS), fX9_told SC 1 (g 1) (g 2) = some r ∧ fX10_told SR 1 (g 1) (g 2) = some (r, SR') ∧ Inv SC SR'
set_option maxHeartbeats 4000000 in
set_option maxRecDepth 100000 in
theorem wLaw_4 {p : Program} {l : Launch} {e : Env} {s : State} {m : MethodId} {below : List Frame} {meth : Method} {c : Code} {D : va_G} {cy : Nat → ClassId} {adC adR : Nat → Nat} {AC AR : Nat → Prop} {K0 b L : Nat} {xs : Nat → Int32} {Inv : MS → MS → Prop} (C0 : CX p s m #[Value.ref b] meth c R_law cL_law 4 D cy) (hX : va_X b L xs s s.heap) (hbl : b < s.heap.size) (hbA : ¬ s.heap.size ≤ b) (hE : EX adC (fun q => s.heap.size ≤ q) s) (hL : LA s.heap AC AR) (hA : ∀ k, 0 < k → AC (adC k)) (hs : ∀ k, K0 ≤ k → adC (k + 1) + 1 = adC (k + 2)) (hI : ∀ SC SR, Inv SC SR → o_is SC 1 10 = some 1 ∧ o_is SR 1 11 = some 1) {SC SR : MS} (hInv : Inv SC SR) {H : Heap} {locs : List Loc} {cells slots : Nat} (M : LW D cy adC AC adR AR s.heap K0 SC SR H locs) (hcc : cells + 5 ≤ 600000 ∧ slots + 64 ≤ 7302250) {x3 : Int32} {g : Nat → Int32} (hin : ∀ j, j < 9 → vp_in (x3 + nI j) L) (hval : ∀ j, j < 9 → xs (x3 + nI j).toNatClampNeg = g j) {ls : Array Slot} (hl : lv_has ls 4 [(0, .ref b), (1, .ref (adC 1)), (2, .ref (adR 1)), (3, .int x3)]) (hE0 : E_4 Inv)
    (K : ∀ (SC' SR' : MS) (H : Heap) (locs : List Loc), Inv SC' SR' → LW D cy adC AC adR AR s.heap K0 SC' SR' H locs → W p l e room_1 s m #[Value.ref b] below meth c H locs (cells + 5) (slots + 64) (lw_Z below #[Value.ref b] s) (F0 m 1613 ls [])) : W p l e room_1 s m #[Value.ref b] below meth c H locs cells slots (lw_Z below #[Value.ref b] s) (F0 m 420 ls []) := by
  obtain ⟨hx, hb, -, hown, -, hts, -⟩ := id C0
  obtain ⟨r, SR', h1, h2, h3⟩ := hE0 SC SR g hInv
  refine lv_aload_n hx hb dL_law_420 rfl (lv_at hl 1 rfl) ?_
  refine lv_aload_n hx hb dL_law_421 rfl (lv_at hl 0 rfl) ?_
  refine lv_iload_n hx hb dL_law_422 rfl (lv_at hl 3 rfl) ?_
  refine lv_iconst (v := (1 : Int32)) hx hb dL_law_423 (by decide) ?_
  refine lv_iadd hx hb dL_law_424 ?_
  refine va_sld hx hb hX hbl hbA M.2.2.1 (hin 1 (by decide)) dL_law_425 ?_
  refine vtopi (hval 1 (by decide)) ?_
  refine lv_aload_n hx hb dL_law_426 rfl (lv_at hl 0 rfl) ?_
  refine lv_iload_n hx hb dL_law_427 rfl (lv_at hl 3 rfl) ?_
  refine lv_iconst (v := (2 : Int32)) hx hb dL_law_428 (by decide) ?_
  refine lv_iadd hx hb dL_law_429 ?_
  refine va_sld hx hb hX hbl hbA M.2.2.1 (hin 2 (by decide)) dL_law_430 ?_
  refine vtopi (hval 2 (by decide)) ?_
  refine go_SI (r_V (rest := []) (As := [.int (g 1), .int (g 2)]) C0 cb_L_31 M.1 (hI _ _ hInv).1 (tX9_told l D cy adC AC h1) (pre_R C0 M.1) hl dL_law_431 rfl (Nat.le_of_ble_eq_true rfl) ⟨rfl, rfl⟩ ⟨Nat.le_of_ble_eq_true rfl, Nat.le_of_ble_eq_true rfl⟩ ⟨by show _ ≤ 600000; omega, by show _ ≤ 7302250; omega⟩ rfl) ?_
  refine lv_aload_n hx hb dL_law_434 rfl (lv_at hl 2 rfl) ?_
  refine lv_aload_n hx hb dL_law_435 rfl (lv_at hl 0 rfl) ?_
  refine lv_iload_n hx hb dL_law_436 rfl (lv_at hl 3 rfl) ?_
  refine lv_iconst (v := (1 : Int32)) hx hb dL_law_437 (by decide) ?_
  refine lv_iadd hx hb dL_law_438 ?_
  refine va_sld hx hb hX hbl hbA M.2.2.1 (hin 1 (by decide)) dL_law_439 ?_
  refine vtopi (hval 1 (by decide)) ?_
  refine lv_aload_n hx hb dL_law_440 rfl (lv_at hl 0 rfl) ?_
  refine lv_iload_n hx hb dL_law_441 rfl (lv_at hl 3 rfl) ?_
  refine lv_iconst (v := (2 : Int32)) hx hb dL_law_442 (by decide) ?_
  refine lv_iadd hx hb dL_law_443 ?_
  refine va_sld hx hb hX hbl hbA M.2.2.1 (hin 2 (by decide)) dL_law_444 ?_
  refine vtopi (hval 2 (by decide)) ?_
  refine g2_RMI (r_V (rest := [.int r]) (As := [.int (g 1), .int (g 2)]) C0 cb_L_34 M.2.1 (hI _ _ hInv).2 (tX10_told l D cy adR AR h2) (pre_R C0 M.2.1) hl dL_law_445 rfl (Nat.le_of_ble_eq_true rfl) ⟨rfl, rfl⟩ ⟨Nat.le_of_ble_eq_true rfl, Nat.le_of_ble_eq_true rfl⟩ ⟨by show _ ≤ 600000; omega, by show _ ≤ 7302250; omega⟩ rfl) hL M (fun H locs M => ?_)
  refine lv_icmp_eq (tgt := 1613) hx hb dL_law_448 (by decide) (fun hc => ?_) (fun hc => absurd rfl hc)
  refine W.widen (k := cells + 5) (n := slots + 64) (by omega) (by omega) ?_
  exact K _ _ _ _ h3 M
/-- case 5: digit -/
def E_5 (Inv : MS → MS → Prop) : Prop := ∀ (SC SR : MS) (g : Nat → Int32), Inv SC SR → ∃ (r : Int32), fX9_digit SC 1 (g 1) (g 2) (g 3) = some r ∧ fX10_digit SR 1 (g 1) (g 2) (g 3) = some r ∧ Inv SC SR
set_option maxHeartbeats 4000000 in
set_option maxRecDepth 100000 in
theorem wLaw_5 {p : Program} {l : Launch} {e : Env} {s : State} {m : MethodId} {below : List Frame} {meth : Method} {c : Code} {D : va_G} {cy : Nat → ClassId} {adC adR : Nat → Nat} {AC AR : Nat → Prop} {K0 b L : Nat} {xs : Nat → Int32} {Inv : MS → MS → Prop} (C0 : CX p s m #[Value.ref b] meth c R_law cL_law 4 D cy) (hX : va_X b L xs s s.heap) (hbl : b < s.heap.size) (hbA : ¬ s.heap.size ≤ b) (hE : EX adC (fun q => s.heap.size ≤ q) s) (hL : LA s.heap AC AR) (hA : ∀ k, 0 < k → AC (adC k)) (hs : ∀ k, K0 ≤ k → adC (k + 1) + 1 = adC (k + 2)) (hI : ∀ SC SR, Inv SC SR → o_is SC 1 10 = some 1 ∧ o_is SR 1 11 = some 1) {SC SR : MS} (hInv : Inv SC SR) {H : Heap} {locs : List Loc} {cells slots : Nat} (M : LW D cy adC AC adR AR s.heap K0 SC SR H locs) (hcc : cells + 5 ≤ 600000 ∧ slots + 64 ≤ 7302250) {x3 : Int32} {g : Nat → Int32} (hin : ∀ j, j < 9 → vp_in (x3 + nI j) L) (hval : ∀ j, j < 9 → xs (x3 + nI j).toNatClampNeg = g j) {ls : Array Slot} (hl : lv_has ls 4 [(0, .ref b), (1, .ref (adC 1)), (2, .ref (adR 1)), (3, .int x3)]) (hE0 : E_5 Inv)
    (K : ∀ (SC' SR' : MS) (H : Heap) (locs : List Loc), Inv SC' SR' → LW D cy adC AC adR AR s.heap K0 SC' SR' H locs → W p l e room_1 s m #[Value.ref b] below meth c H locs (cells + 5) (slots + 64) (lw_Z below #[Value.ref b] s) (F0 m 1613 ls [])) : W p l e room_1 s m #[Value.ref b] below meth c H locs cells slots (lw_Z below #[Value.ref b] s) (F0 m 453 ls []) := by
  obtain ⟨hx, hb, -, hown, -, hts, -⟩ := id C0
  obtain ⟨r, h1, h2, h3⟩ := hE0 SC SR g hInv
  refine lv_aload_n hx hb dL_law_453 rfl (lv_at hl 1 rfl) ?_
  refine lv_aload_n hx hb dL_law_454 rfl (lv_at hl 0 rfl) ?_
  refine lv_iload_n hx hb dL_law_455 rfl (lv_at hl 3 rfl) ?_
  refine lv_iconst (v := (1 : Int32)) hx hb dL_law_456 (by decide) ?_
  refine lv_iadd hx hb dL_law_457 ?_
  refine va_sld hx hb hX hbl hbA M.2.2.1 (hin 1 (by decide)) dL_law_458 ?_
  refine vtopi (hval 1 (by decide)) ?_
  refine lv_aload_n hx hb dL_law_459 rfl (lv_at hl 0 rfl) ?_
  refine lv_iload_n hx hb dL_law_460 rfl (lv_at hl 3 rfl) ?_
  refine lv_iconst (v := (2 : Int32)) hx hb dL_law_461 (by decide) ?_
  refine lv_iadd hx hb dL_law_462 ?_
  refine va_sld hx hb hX hbl hbA M.2.2.1 (hin 2 (by decide)) dL_law_463 ?_
  refine vtopi (hval 2 (by decide)) ?_
  refine lv_aload_n hx hb dL_law_464 rfl (lv_at hl 0 rfl) ?_
  refine lv_iload_n hx hb dL_law_465 rfl (lv_at hl 3 rfl) ?_
  refine lv_iconst (v := (3 : Int32)) hx hb dL_law_466 (by decide) ?_
  refine lv_iadd hx hb dL_law_467 ?_
  refine va_sld hx hb hX hbl hbA M.2.2.1 (hin 3 (by decide)) dL_law_468 ?_
  refine vtopi (hval 3 (by decide)) ?_
  refine go_SI (r_V (rest := []) (As := [.int (g 1), .int (g 2), .int (g 3)]) C0 cb_L_35 M.1 (hI _ _ hInv).1 (tX9_digit l D cy adC AC h1) (pre_R C0 M.1) hl dL_law_469 rfl (Nat.le_of_ble_eq_true rfl) ⟨rfl, rfl⟩ ⟨Nat.le_of_ble_eq_true rfl, Nat.le_of_ble_eq_true rfl⟩ ⟨by show _ ≤ 600000; omega, by show _ ≤ 7302250; omega⟩ rfl) ?_
  refine lv_aload_n hx hb dL_law_472 rfl (lv_at hl 2 rfl) ?_
  refine lv_aload_n hx hb dL_law_473 rfl (lv_at hl 0 rfl) ?_
  refine lv_iload_n hx hb dL_law_474 rfl (lv_at hl 3 rfl) ?_
  refine lv_iconst (v := (1 : Int32)) hx hb dL_law_475 (by decide) ?_
  refine lv_iadd hx hb dL_law_476 ?_
  refine va_sld hx hb hX hbl hbA M.2.2.1 (hin 1 (by decide)) dL_law_477 ?_
  refine vtopi (hval 1 (by decide)) ?_
  refine lv_aload_n hx hb dL_law_478 rfl (lv_at hl 0 rfl) ?_
  refine lv_iload_n hx hb dL_law_479 rfl (lv_at hl 3 rfl) ?_
  refine lv_iconst (v := (2 : Int32)) hx hb dL_law_480 (by decide) ?_
  refine lv_iadd hx hb dL_law_481 ?_
  refine va_sld hx hb hX hbl hbA M.2.2.1 (hin 2 (by decide)) dL_law_482 ?_
  refine vtopi (hval 2 (by decide)) ?_
  refine lv_aload_n hx hb dL_law_483 rfl (lv_at hl 0 rfl) ?_
  refine lv_iload_n hx hb dL_law_484 rfl (lv_at hl 3 rfl) ?_
  refine lv_iconst (v := (3 : Int32)) hx hb dL_law_485 (by decide) ?_
  refine lv_iadd hx hb dL_law_486 ?_
  refine va_sld hx hb hX hbl hbA M.2.2.1 (hin 3 (by decide)) dL_law_487 ?_
  refine vtopi (hval 3 (by decide)) ?_
  refine go_SI (r_V (rest := [.int r]) (As := [.int (g 1), .int (g 2), .int (g 3)]) C0 cb_L_39 M.2.1 (hI _ _ hInv).2 (tX10_digit l D cy adR AR h2) (pre_R C0 M.2.1) hl dL_law_488 rfl (Nat.le_of_ble_eq_true rfl) ⟨rfl, rfl⟩ ⟨Nat.le_of_ble_eq_true rfl, Nat.le_of_ble_eq_true rfl⟩ ⟨by show _ ≤ 600000; omega, by show _ ≤ 7302250; omega⟩ rfl) ?_
  refine lv_icmp_eq (tgt := 1613) hx hb dL_law_491 (by decide) (fun hc => ?_) (fun hc => absurd rfl hc)
  refine W.widen (k := cells + 5) (n := slots + 64) (by omega) (by omega) ?_
  exact K _ _ _ _ h3 M
/-- case 6: readings -/
def E_6 (Inv : MS → MS → Prop) : Prop := ∀ (SC SR : MS) (g : Nat → Int32), Inv SC SR → ∃ (r : Int32), fX9_readings SC 1 (g 1) (g 2) = some r ∧ fX10_readings SR 1 (g 1) (g 2) = some r ∧ Inv SC SR
set_option maxHeartbeats 4000000 in
set_option maxRecDepth 100000 in
theorem wLaw_6 {p : Program} {l : Launch} {e : Env} {s : State} {m : MethodId} {below : List Frame} {meth : Method} {c : Code} {D : va_G} {cy : Nat → ClassId} {adC adR : Nat → Nat} {AC AR : Nat → Prop} {K0 b L : Nat} {xs : Nat → Int32} {Inv : MS → MS → Prop} (C0 : CX p s m #[Value.ref b] meth c R_law cL_law 4 D cy) (hX : va_X b L xs s s.heap) (hbl : b < s.heap.size) (hbA : ¬ s.heap.size ≤ b) (hE : EX adC (fun q => s.heap.size ≤ q) s) (hL : LA s.heap AC AR) (hA : ∀ k, 0 < k → AC (adC k)) (hs : ∀ k, K0 ≤ k → adC (k + 1) + 1 = adC (k + 2)) (hI : ∀ SC SR, Inv SC SR → o_is SC 1 10 = some 1 ∧ o_is SR 1 11 = some 1) {SC SR : MS} (hInv : Inv SC SR) {H : Heap} {locs : List Loc} {cells slots : Nat} (M : LW D cy adC AC adR AR s.heap K0 SC SR H locs) (hcc : cells + 5 ≤ 600000 ∧ slots + 64 ≤ 7302250) {x3 : Int32} {g : Nat → Int32} (hin : ∀ j, j < 9 → vp_in (x3 + nI j) L) (hval : ∀ j, j < 9 → xs (x3 + nI j).toNatClampNeg = g j) {ls : Array Slot} (hl : lv_has ls 4 [(0, .ref b), (1, .ref (adC 1)), (2, .ref (adR 1)), (3, .int x3)]) (hE0 : E_6 Inv)
    (K : ∀ (SC' SR' : MS) (H : Heap) (locs : List Loc), Inv SC' SR' → LW D cy adC AC adR AR s.heap K0 SC' SR' H locs → W p l e room_1 s m #[Value.ref b] below meth c H locs (cells + 5) (slots + 64) (lw_Z below #[Value.ref b] s) (F0 m 1613 ls [])) : W p l e room_1 s m #[Value.ref b] below meth c H locs cells slots (lw_Z below #[Value.ref b] s) (F0 m 496 ls []) := by
  obtain ⟨hx, hb, -, hown, -, hts, -⟩ := id C0
  obtain ⟨r, h1, h2, h3⟩ := hE0 SC SR g hInv
  refine lv_aload_n hx hb dL_law_496 rfl (lv_at hl 1 rfl) ?_
  refine lv_aload_n hx hb dL_law_497 rfl (lv_at hl 0 rfl) ?_
  refine lv_iload_n hx hb dL_law_498 rfl (lv_at hl 3 rfl) ?_
  refine lv_iconst (v := (1 : Int32)) hx hb dL_law_499 (by decide) ?_
  refine lv_iadd hx hb dL_law_500 ?_
  refine va_sld hx hb hX hbl hbA M.2.2.1 (hin 1 (by decide)) dL_law_501 ?_
  refine vtopi (hval 1 (by decide)) ?_
  refine lv_aload_n hx hb dL_law_502 rfl (lv_at hl 0 rfl) ?_
  refine lv_iload_n hx hb dL_law_503 rfl (lv_at hl 3 rfl) ?_
  refine lv_iconst (v := (2 : Int32)) hx hb dL_law_504 (by decide) ?_
  refine lv_iadd hx hb dL_law_505 ?_
  refine va_sld hx hb hX hbl hbA M.2.2.1 (hin 2 (by decide)) dL_law_506 ?_
  refine vtopi (hval 2 (by decide)) ?_
  refine go_SI (r_V (rest := []) (As := [.int (g 1), .int (g 2)]) C0 cb_L_40 M.1 (hI _ _ hInv).1 (tX9_readings l D cy adC AC h1) (pre_R C0 M.1) hl dL_law_507 rfl (Nat.le_of_ble_eq_true rfl) ⟨rfl, rfl⟩ ⟨Nat.le_of_ble_eq_true rfl, Nat.le_of_ble_eq_true rfl⟩ ⟨by show _ ≤ 600000; omega, by show _ ≤ 7302250; omega⟩ rfl) ?_
  refine lv_aload_n hx hb dL_law_510 rfl (lv_at hl 2 rfl) ?_
  refine lv_aload_n hx hb dL_law_511 rfl (lv_at hl 0 rfl) ?_
  refine lv_iload_n hx hb dL_law_512 rfl (lv_at hl 3 rfl) ?_
  refine lv_iconst (v := (1 : Int32)) hx hb dL_law_513 (by decide) ?_
  refine lv_iadd hx hb dL_law_514 ?_
  refine va_sld hx hb hX hbl hbA M.2.2.1 (hin 1 (by decide)) dL_law_515 ?_
  refine vtopi (hval 1 (by decide)) ?_
  refine lv_aload_n hx hb dL_law_516 rfl (lv_at hl 0 rfl) ?_
  refine lv_iload_n hx hb dL_law_517 rfl (lv_at hl 3 rfl) ?_
  refine lv_iconst (v := (2 : Int32)) hx hb dL_law_518 (by decide) ?_
  refine lv_iadd hx hb dL_law_519 ?_
  refine va_sld hx hb hX hbl hbA M.2.2.1 (hin 2 (by decide)) dL_law_520 ?_
  refine vtopi (hval 2 (by decide)) ?_
  refine go_SI (r_V (rest := [.int r]) (As := [.int (g 1), .int (g 2)]) C0 cb_L_43 M.2.1 (hI _ _ hInv).2 (tX10_readings l D cy adR AR h2) (pre_R C0 M.2.1) hl dL_law_521 rfl (Nat.le_of_ble_eq_true rfl) ⟨rfl, rfl⟩ ⟨Nat.le_of_ble_eq_true rfl, Nat.le_of_ble_eq_true rfl⟩ ⟨by show _ ≤ 600000; omega, by show _ ≤ 7302250; omega⟩ rfl) ?_
  refine lv_icmp_eq (tgt := 1613) hx hb dL_law_524 (by decide) (fun hc => ?_) (fun hc => absurd rfl hc)
  refine W.widen (k := cells + 5) (n := slots + 64) (by omega) (by omega) ?_
  exact K _ _ _ _ h3 M
/-- case 7: reading -/
def E_7 (Inv : MS → MS → Prop) : Prop := ∀ (SC SR : MS) (g : Nat → Int32), Inv SC SR → ∃ (r : Int32), fX9_reading SC 1 (g 1) (g 2) (g 3) = some r ∧ fX10_reading SR 1 (g 1) (g 2) (g 3) = some r ∧ Inv SC SR
set_option maxHeartbeats 4000000 in
set_option maxRecDepth 100000 in
theorem wLaw_7 {p : Program} {l : Launch} {e : Env} {s : State} {m : MethodId} {below : List Frame} {meth : Method} {c : Code} {D : va_G} {cy : Nat → ClassId} {adC adR : Nat → Nat} {AC AR : Nat → Prop} {K0 b L : Nat} {xs : Nat → Int32} {Inv : MS → MS → Prop} (C0 : CX p s m #[Value.ref b] meth c R_law cL_law 4 D cy) (hX : va_X b L xs s s.heap) (hbl : b < s.heap.size) (hbA : ¬ s.heap.size ≤ b) (hE : EX adC (fun q => s.heap.size ≤ q) s) (hL : LA s.heap AC AR) (hA : ∀ k, 0 < k → AC (adC k)) (hs : ∀ k, K0 ≤ k → adC (k + 1) + 1 = adC (k + 2)) (hI : ∀ SC SR, Inv SC SR → o_is SC 1 10 = some 1 ∧ o_is SR 1 11 = some 1) {SC SR : MS} (hInv : Inv SC SR) {H : Heap} {locs : List Loc} {cells slots : Nat} (M : LW D cy adC AC adR AR s.heap K0 SC SR H locs) (hcc : cells + 5 ≤ 600000 ∧ slots + 64 ≤ 7302250) {x3 : Int32} {g : Nat → Int32} (hin : ∀ j, j < 9 → vp_in (x3 + nI j) L) (hval : ∀ j, j < 9 → xs (x3 + nI j).toNatClampNeg = g j) {ls : Array Slot} (hl : lv_has ls 4 [(0, .ref b), (1, .ref (adC 1)), (2, .ref (adR 1)), (3, .int x3)]) (hE0 : E_7 Inv)
    (K : ∀ (SC' SR' : MS) (H : Heap) (locs : List Loc), Inv SC' SR' → LW D cy adC AC adR AR s.heap K0 SC' SR' H locs → W p l e room_1 s m #[Value.ref b] below meth c H locs (cells + 5) (slots + 64) (lw_Z below #[Value.ref b] s) (F0 m 1613 ls [])) : W p l e room_1 s m #[Value.ref b] below meth c H locs cells slots (lw_Z below #[Value.ref b] s) (F0 m 529 ls []) := by
  obtain ⟨hx, hb, -, hown, -, hts, -⟩ := id C0
  obtain ⟨r, h1, h2, h3⟩ := hE0 SC SR g hInv
  refine lv_aload_n hx hb dL_law_529 rfl (lv_at hl 1 rfl) ?_
  refine lv_aload_n hx hb dL_law_530 rfl (lv_at hl 0 rfl) ?_
  refine lv_iload_n hx hb dL_law_531 rfl (lv_at hl 3 rfl) ?_
  refine lv_iconst (v := (1 : Int32)) hx hb dL_law_532 (by decide) ?_
  refine lv_iadd hx hb dL_law_533 ?_
  refine va_sld hx hb hX hbl hbA M.2.2.1 (hin 1 (by decide)) dL_law_534 ?_
  refine vtopi (hval 1 (by decide)) ?_
  refine lv_aload_n hx hb dL_law_535 rfl (lv_at hl 0 rfl) ?_
  refine lv_iload_n hx hb dL_law_536 rfl (lv_at hl 3 rfl) ?_
  refine lv_iconst (v := (2 : Int32)) hx hb dL_law_537 (by decide) ?_
  refine lv_iadd hx hb dL_law_538 ?_
  refine va_sld hx hb hX hbl hbA M.2.2.1 (hin 2 (by decide)) dL_law_539 ?_
  refine vtopi (hval 2 (by decide)) ?_
  refine lv_aload_n hx hb dL_law_540 rfl (lv_at hl 0 rfl) ?_
  refine lv_iload_n hx hb dL_law_541 rfl (lv_at hl 3 rfl) ?_
  refine lv_iconst (v := (3 : Int32)) hx hb dL_law_542 (by decide) ?_
  refine lv_iadd hx hb dL_law_543 ?_
  refine va_sld hx hb hX hbl hbA M.2.2.1 (hin 3 (by decide)) dL_law_544 ?_
  refine vtopi (hval 3 (by decide)) ?_
  refine go_SI (r_V (rest := []) (As := [.int (g 1), .int (g 2), .int (g 3)]) C0 cb_L_44 M.1 (hI _ _ hInv).1 (tX9_reading l D cy adC AC h1) (pre_R C0 M.1) hl dL_law_545 rfl (Nat.le_of_ble_eq_true rfl) ⟨rfl, rfl⟩ ⟨Nat.le_of_ble_eq_true rfl, Nat.le_of_ble_eq_true rfl⟩ ⟨by show _ ≤ 600000; omega, by show _ ≤ 7302250; omega⟩ rfl) ?_
  refine lv_aload_n hx hb dL_law_548 rfl (lv_at hl 2 rfl) ?_
  refine lv_aload_n hx hb dL_law_549 rfl (lv_at hl 0 rfl) ?_
  refine lv_iload_n hx hb dL_law_550 rfl (lv_at hl 3 rfl) ?_
  refine lv_iconst (v := (1 : Int32)) hx hb dL_law_551 (by decide) ?_
  refine lv_iadd hx hb dL_law_552 ?_
  refine va_sld hx hb hX hbl hbA M.2.2.1 (hin 1 (by decide)) dL_law_553 ?_
  refine vtopi (hval 1 (by decide)) ?_
  refine lv_aload_n hx hb dL_law_554 rfl (lv_at hl 0 rfl) ?_
  refine lv_iload_n hx hb dL_law_555 rfl (lv_at hl 3 rfl) ?_
  refine lv_iconst (v := (2 : Int32)) hx hb dL_law_556 (by decide) ?_
  refine lv_iadd hx hb dL_law_557 ?_
  refine va_sld hx hb hX hbl hbA M.2.2.1 (hin 2 (by decide)) dL_law_558 ?_
  refine vtopi (hval 2 (by decide)) ?_
  refine lv_aload_n hx hb dL_law_559 rfl (lv_at hl 0 rfl) ?_
  refine lv_iload_n hx hb dL_law_560 rfl (lv_at hl 3 rfl) ?_
  refine lv_iconst (v := (3 : Int32)) hx hb dL_law_561 (by decide) ?_
  refine lv_iadd hx hb dL_law_562 ?_
  refine va_sld hx hb hX hbl hbA M.2.2.1 (hin 3 (by decide)) dL_law_563 ?_
  refine vtopi (hval 3 (by decide)) ?_
  refine go_SI (r_V (rest := [.int r]) (As := [.int (g 1), .int (g 2), .int (g 3)]) C0 cb_L_47 M.2.1 (hI _ _ hInv).2 (tX10_reading l D cy adR AR h2) (pre_R C0 M.2.1) hl dL_law_564 rfl (Nat.le_of_ble_eq_true rfl) ⟨rfl, rfl⟩ ⟨Nat.le_of_ble_eq_true rfl, Nat.le_of_ble_eq_true rfl⟩ ⟨by show _ ≤ 600000; omega, by show _ ≤ 7302250; omega⟩ rfl) ?_
  refine lv_icmp_eq (tgt := 1613) hx hb dL_law_567 (by decide) (fun hc => ?_) (fun hc => absurd rfl hc)
  refine W.widen (k := cells + 5) (n := slots + 64) (by omega) (by omega) ?_
  exact K _ _ _ _ h3 M
/-- case 8: view -/
def E_8 (Inv : MS → MS → Prop) : Prop := ∀ (SC SR : MS) (g : Nat → Int32), Inv SC SR → ∃ (r : Int32) (SC' : MS) (SR' : MS), fX9_view SC 1 (g 1) (g 2) = some (r, SC') ∧ fX10_view SR 1 (g 1) (g 2) = some (r, SR') ∧ Inv SC' SR'
set_option maxHeartbeats 4000000 in
set_option maxRecDepth 100000 in
theorem wLaw_8 {p : Program} {l : Launch} {e : Env} {s : State} {m : MethodId} {below : List Frame} {meth : Method} {c : Code} {D : va_G} {cy : Nat → ClassId} {adC adR : Nat → Nat} {AC AR : Nat → Prop} {K0 b L : Nat} {xs : Nat → Int32} {Inv : MS → MS → Prop} (C0 : CX p s m #[Value.ref b] meth c R_law cL_law 4 D cy) (hX : va_X b L xs s s.heap) (hbl : b < s.heap.size) (hbA : ¬ s.heap.size ≤ b) (hE : EX adC (fun q => s.heap.size ≤ q) s) (hL : LA s.heap AC AR) (hA : ∀ k, 0 < k → AC (adC k)) (hs : ∀ k, K0 ≤ k → adC (k + 1) + 1 = adC (k + 2)) (hI : ∀ SC SR, Inv SC SR → o_is SC 1 10 = some 1 ∧ o_is SR 1 11 = some 1) {SC SR : MS} (hInv : Inv SC SR) {H : Heap} {locs : List Loc} {cells slots : Nat} (M : LW D cy adC AC adR AR s.heap K0 SC SR H locs) (hcc : cells + 5 ≤ 600000 ∧ slots + 64 ≤ 7302250) {x3 : Int32} {g : Nat → Int32} (hin : ∀ j, j < 9 → vp_in (x3 + nI j) L) (hval : ∀ j, j < 9 → xs (x3 + nI j).toNatClampNeg = g j) {ls : Array Slot} (hl : lv_has ls 4 [(0, .ref b), (1, .ref (adC 1)), (2, .ref (adR 1)), (3, .int x3)]) (hE0 : E_8 Inv)
    (K : ∀ (SC' SR' : MS) (H : Heap) (locs : List Loc), Inv SC' SR' → LW D cy adC AC adR AR s.heap K0 SC' SR' H locs → W p l e room_1 s m #[Value.ref b] below meth c H locs (cells + 5) (slots + 64) (lw_Z below #[Value.ref b] s) (F0 m 1613 ls [])) : W p l e room_1 s m #[Value.ref b] below meth c H locs cells slots (lw_Z below #[Value.ref b] s) (F0 m 572 ls []) := by
  obtain ⟨hx, hb, -, hown, -, hts, -⟩ := id C0
  obtain ⟨r, SC', SR', h1, h2, h3⟩ := hE0 SC SR g hInv
  refine lv_aload_n hx hb dL_law_572 rfl (lv_at hl 1 rfl) ?_
  refine lv_aload_n hx hb dL_law_573 rfl (lv_at hl 0 rfl) ?_
  refine lv_iload_n hx hb dL_law_574 rfl (lv_at hl 3 rfl) ?_
  refine lv_iconst (v := (1 : Int32)) hx hb dL_law_575 (by decide) ?_
  refine lv_iadd hx hb dL_law_576 ?_
  refine va_sld hx hb hX hbl hbA M.2.2.1 (hin 1 (by decide)) dL_law_577 ?_
  refine vtopi (hval 1 (by decide)) ?_
  refine lv_aload_n hx hb dL_law_578 rfl (lv_at hl 0 rfl) ?_
  refine lv_iload_n hx hb dL_law_579 rfl (lv_at hl 3 rfl) ?_
  refine lv_iconst (v := (2 : Int32)) hx hb dL_law_580 (by decide) ?_
  refine lv_iadd hx hb dL_law_581 ?_
  refine va_sld hx hb hX hbl hbA M.2.2.1 (hin 2 (by decide)) dL_law_582 ?_
  refine vtopi (hval 2 (by decide)) ?_
  refine g2_CMI (r_V (rest := []) (As := [.int (g 1), .int (g 2)]) C0 cb_L_48 M.1 (hI _ _ hInv).1 (tX9_view l D cy adC AC h1) (pre_R C0 M.1) hl dL_law_583 rfl (Nat.le_of_ble_eq_true rfl) ⟨rfl, rfl⟩ ⟨Nat.le_of_ble_eq_true rfl, Nat.le_of_ble_eq_true rfl⟩ ⟨by show _ ≤ 600000; omega, by show _ ≤ 7302250; omega⟩ rfl) hL M (fun H locs M => ?_)
  refine lv_aload_n hx hb dL_law_586 rfl (lv_at hl 2 rfl) ?_
  refine lv_aload_n hx hb dL_law_587 rfl (lv_at hl 0 rfl) ?_
  refine lv_iload_n hx hb dL_law_588 rfl (lv_at hl 3 rfl) ?_
  refine lv_iconst (v := (1 : Int32)) hx hb dL_law_589 (by decide) ?_
  refine lv_iadd hx hb dL_law_590 ?_
  refine va_sld hx hb hX hbl hbA M.2.2.1 (hin 1 (by decide)) dL_law_591 ?_
  refine vtopi (hval 1 (by decide)) ?_
  refine lv_aload_n hx hb dL_law_592 rfl (lv_at hl 0 rfl) ?_
  refine lv_iload_n hx hb dL_law_593 rfl (lv_at hl 3 rfl) ?_
  refine lv_iconst (v := (2 : Int32)) hx hb dL_law_594 (by decide) ?_
  refine lv_iadd hx hb dL_law_595 ?_
  refine va_sld hx hb hX hbl hbA M.2.2.1 (hin 2 (by decide)) dL_law_596 ?_
  refine vtopi (hval 2 (by decide)) ?_
  refine g2_RMI (r_V (rest := [.int r]) (As := [.int (g 1), .int (g 2)]) C0 cb_L_51 M.2.1 (hI _ _ hInv).2 (tX10_view l D cy adR AR h2) (pre_R C0 M.2.1) hl dL_law_597 rfl (Nat.le_of_ble_eq_true rfl) ⟨rfl, rfl⟩ ⟨Nat.le_of_ble_eq_true rfl, Nat.le_of_ble_eq_true rfl⟩ ⟨by show _ ≤ 600000; omega, by show _ ≤ 7302250; omega⟩ rfl) hL M (fun H locs M => ?_)
  refine lv_icmp_eq (tgt := 1613) hx hb dL_law_600 (by decide) (fun hc => ?_) (fun hc => absurd rfl hc)
  refine W.widen (k := cells + 5) (n := slots + 64) (by omega) (by omega) ?_
  exact K _ _ _ _ h3 M
/-- case 9: guess -/
def E_9 (Inv : MS → MS → Prop) : Prop := ∀ (SC SR : MS) (g : Nat → Int32), Inv SC SR → ∃ (r : Int32) (SR' : MS), fX9_guess SC 1 (g 1) = some r ∧ fX10_guess SR 1 (g 1) = some (r, SR') ∧ Inv SC SR'
set_option maxHeartbeats 4000000 in
set_option maxRecDepth 100000 in
theorem wLaw_9 {p : Program} {l : Launch} {e : Env} {s : State} {m : MethodId} {below : List Frame} {meth : Method} {c : Code} {D : va_G} {cy : Nat → ClassId} {adC adR : Nat → Nat} {AC AR : Nat → Prop} {K0 b L : Nat} {xs : Nat → Int32} {Inv : MS → MS → Prop} (C0 : CX p s m #[Value.ref b] meth c R_law cL_law 4 D cy) (hX : va_X b L xs s s.heap) (hbl : b < s.heap.size) (hbA : ¬ s.heap.size ≤ b) (hE : EX adC (fun q => s.heap.size ≤ q) s) (hL : LA s.heap AC AR) (hA : ∀ k, 0 < k → AC (adC k)) (hs : ∀ k, K0 ≤ k → adC (k + 1) + 1 = adC (k + 2)) (hI : ∀ SC SR, Inv SC SR → o_is SC 1 10 = some 1 ∧ o_is SR 1 11 = some 1) {SC SR : MS} (hInv : Inv SC SR) {H : Heap} {locs : List Loc} {cells slots : Nat} (M : LW D cy adC AC adR AR s.heap K0 SC SR H locs) (hcc : cells + 5 ≤ 600000 ∧ slots + 64 ≤ 7302250) {x3 : Int32} {g : Nat → Int32} (hin : ∀ j, j < 9 → vp_in (x3 + nI j) L) (hval : ∀ j, j < 9 → xs (x3 + nI j).toNatClampNeg = g j) {ls : Array Slot} (hl : lv_has ls 4 [(0, .ref b), (1, .ref (adC 1)), (2, .ref (adR 1)), (3, .int x3)]) (hE0 : E_9 Inv)
    (K : ∀ (SC' SR' : MS) (H : Heap) (locs : List Loc), Inv SC' SR' → LW D cy adC AC adR AR s.heap K0 SC' SR' H locs → W p l e room_1 s m #[Value.ref b] below meth c H locs (cells + 5) (slots + 64) (lw_Z below #[Value.ref b] s) (F0 m 1613 ls [])) : W p l e room_1 s m #[Value.ref b] below meth c H locs cells slots (lw_Z below #[Value.ref b] s) (F0 m 605 ls []) := by
  obtain ⟨hx, hb, -, hown, -, hts, -⟩ := id C0
  obtain ⟨r, SR', h1, h2, h3⟩ := hE0 SC SR g hInv
  refine lv_aload_n hx hb dL_law_605 rfl (lv_at hl 1 rfl) ?_
  refine lv_aload_n hx hb dL_law_606 rfl (lv_at hl 0 rfl) ?_
  refine lv_iload_n hx hb dL_law_607 rfl (lv_at hl 3 rfl) ?_
  refine lv_iconst (v := (1 : Int32)) hx hb dL_law_608 (by decide) ?_
  refine lv_iadd hx hb dL_law_609 ?_
  refine va_sld hx hb hX hbl hbA M.2.2.1 (hin 1 (by decide)) dL_law_610 ?_
  refine vtopi (hval 1 (by decide)) ?_
  refine go_SI (r_V (rest := []) (As := [.int (g 1)]) C0 cb_L_52 M.1 (hI _ _ hInv).1 (tX9_guess l D cy adC AC h1) (pre_R C0 M.1) hl dL_law_611 rfl (Nat.le_of_ble_eq_true rfl) ⟨rfl, rfl⟩ ⟨Nat.le_of_ble_eq_true rfl, Nat.le_of_ble_eq_true rfl⟩ ⟨by show _ ≤ 600000; omega, by show _ ≤ 7302250; omega⟩ rfl) ?_
  refine lv_aload_n hx hb dL_law_614 rfl (lv_at hl 2 rfl) ?_
  refine lv_aload_n hx hb dL_law_615 rfl (lv_at hl 0 rfl) ?_
  refine lv_iload_n hx hb dL_law_616 rfl (lv_at hl 3 rfl) ?_
  refine lv_iconst (v := (1 : Int32)) hx hb dL_law_617 (by decide) ?_
  refine lv_iadd hx hb dL_law_618 ?_
  refine va_sld hx hb hX hbl hbA M.2.2.1 (hin 1 (by decide)) dL_law_619 ?_
  refine vtopi (hval 1 (by decide)) ?_
  refine g2_RMI (r_V (rest := [.int r]) (As := [.int (g 1)]) C0 cb_L_56 M.2.1 (hI _ _ hInv).2 (tX10_guess l D cy adR AR h2) (pre_R C0 M.2.1) hl dL_law_620 rfl (Nat.le_of_ble_eq_true rfl) ⟨rfl, rfl⟩ ⟨Nat.le_of_ble_eq_true rfl, Nat.le_of_ble_eq_true rfl⟩ ⟨by show _ ≤ 600000; omega, by show _ ≤ 7302250; omega⟩ rfl) hL M (fun H locs M => ?_)
  refine lv_icmp_eq (tgt := 1613) hx hb dL_law_623 (by decide) (fun hc => ?_) (fun hc => absurd rfl hc)
  refine W.widen (k := cells + 5) (n := slots + 64) (by omega) (by omega) ?_
  exact K _ _ _ _ h3 M
/-- case 10: mended -/
def E_10 (Inv : MS → MS → Prop) : Prop := ∀ (SC SR : MS) (g : Nat → Int32), Inv SC SR → ∃ (r : Int32) (SR' : MS), fX9_mended SC 1 (g 1) = some r ∧ fX10_mended SR 1 (g 1) = some (r, SR') ∧ Inv SC SR'
set_option maxHeartbeats 4000000 in
set_option maxRecDepth 100000 in
theorem wLaw_10 {p : Program} {l : Launch} {e : Env} {s : State} {m : MethodId} {below : List Frame} {meth : Method} {c : Code} {D : va_G} {cy : Nat → ClassId} {adC adR : Nat → Nat} {AC AR : Nat → Prop} {K0 b L : Nat} {xs : Nat → Int32} {Inv : MS → MS → Prop} (C0 : CX p s m #[Value.ref b] meth c R_law cL_law 4 D cy) (hX : va_X b L xs s s.heap) (hbl : b < s.heap.size) (hbA : ¬ s.heap.size ≤ b) (hE : EX adC (fun q => s.heap.size ≤ q) s) (hL : LA s.heap AC AR) (hA : ∀ k, 0 < k → AC (adC k)) (hs : ∀ k, K0 ≤ k → adC (k + 1) + 1 = adC (k + 2)) (hI : ∀ SC SR, Inv SC SR → o_is SC 1 10 = some 1 ∧ o_is SR 1 11 = some 1) {SC SR : MS} (hInv : Inv SC SR) {H : Heap} {locs : List Loc} {cells slots : Nat} (M : LW D cy adC AC adR AR s.heap K0 SC SR H locs) (hcc : cells + 5 ≤ 600000 ∧ slots + 64 ≤ 7302250) {x3 : Int32} {g : Nat → Int32} (hin : ∀ j, j < 9 → vp_in (x3 + nI j) L) (hval : ∀ j, j < 9 → xs (x3 + nI j).toNatClampNeg = g j) {ls : Array Slot} (hl : lv_has ls 4 [(0, .ref b), (1, .ref (adC 1)), (2, .ref (adR 1)), (3, .int x3)]) (hE0 : E_10 Inv)
    (K : ∀ (SC' SR' : MS) (H : Heap) (locs : List Loc), Inv SC' SR' → LW D cy adC AC adR AR s.heap K0 SC' SR' H locs → W p l e room_1 s m #[Value.ref b] below meth c H locs (cells + 5) (slots + 64) (lw_Z below #[Value.ref b] s) (F0 m 1613 ls [])) : W p l e room_1 s m #[Value.ref b] below meth c H locs cells slots (lw_Z below #[Value.ref b] s) (F0 m 628 ls []) := by
  obtain ⟨hx, hb, -, hown, -, hts, -⟩ := id C0
  obtain ⟨r, SR', h1, h2, h3⟩ := hE0 SC SR g hInv
  refine lv_aload_n hx hb dL_law_628 rfl (lv_at hl 1 rfl) ?_
  refine lv_aload_n hx hb dL_law_629 rfl (lv_at hl 0 rfl) ?_
  refine lv_iload_n hx hb dL_law_630 rfl (lv_at hl 3 rfl) ?_
  refine lv_iconst (v := (1 : Int32)) hx hb dL_law_631 (by decide) ?_
  refine lv_iadd hx hb dL_law_632 ?_
  refine va_sld hx hb hX hbl hbA M.2.2.1 (hin 1 (by decide)) dL_law_633 ?_
  refine vtopi (hval 1 (by decide)) ?_
  refine go_SI (r_V (rest := []) (As := [.int (g 1)]) C0 cb_L_57 M.1 (hI _ _ hInv).1 (tX9_mended l D cy adC AC h1) (pre_R C0 M.1) hl dL_law_634 rfl (Nat.le_of_ble_eq_true rfl) ⟨rfl, rfl⟩ ⟨Nat.le_of_ble_eq_true rfl, Nat.le_of_ble_eq_true rfl⟩ ⟨by show _ ≤ 600000; omega, by show _ ≤ 7302250; omega⟩ rfl) ?_
  refine lv_aload_n hx hb dL_law_637 rfl (lv_at hl 2 rfl) ?_
  refine lv_aload_n hx hb dL_law_638 rfl (lv_at hl 0 rfl) ?_
  refine lv_iload_n hx hb dL_law_639 rfl (lv_at hl 3 rfl) ?_
  refine lv_iconst (v := (1 : Int32)) hx hb dL_law_640 (by decide) ?_
  refine lv_iadd hx hb dL_law_641 ?_
  refine va_sld hx hb hX hbl hbA M.2.2.1 (hin 1 (by decide)) dL_law_642 ?_
  refine vtopi (hval 1 (by decide)) ?_
  refine g2_RMI (r_V (rest := [.int r]) (As := [.int (g 1)]) C0 cb_L_60 M.2.1 (hI _ _ hInv).2 (tX10_mended l D cy adR AR h2) (pre_R C0 M.2.1) hl dL_law_643 rfl (Nat.le_of_ble_eq_true rfl) ⟨rfl, rfl⟩ ⟨Nat.le_of_ble_eq_true rfl, Nat.le_of_ble_eq_true rfl⟩ ⟨by show _ ≤ 600000; omega, by show _ ≤ 7302250; omega⟩ rfl) hL M (fun H locs M => ?_)
  refine lv_icmp_eq (tgt := 1613) hx hb dL_law_646 (by decide) (fun hc => ?_) (fun hc => absurd rfl hc)
  refine W.widen (k := cells + 5) (n := slots + 64) (by omega) (by omega) ?_
  exact K _ _ _ _ h3 M
/-- case 11: level -/
def E_11 (Inv : MS → MS → Prop) : Prop := ∀ (SC SR : MS) (g : Nat → Int32), Inv SC SR → ∃ (r : Int32) (SR' : MS), fX9_level SC 1 (g 1) = some r ∧ fX10_level SR 1 (g 1) = some (r, SR') ∧ Inv SC SR'
set_option maxHeartbeats 4000000 in
set_option maxRecDepth 100000 in
theorem wLaw_11 {p : Program} {l : Launch} {e : Env} {s : State} {m : MethodId} {below : List Frame} {meth : Method} {c : Code} {D : va_G} {cy : Nat → ClassId} {adC adR : Nat → Nat} {AC AR : Nat → Prop} {K0 b L : Nat} {xs : Nat → Int32} {Inv : MS → MS → Prop} (C0 : CX p s m #[Value.ref b] meth c R_law cL_law 4 D cy) (hX : va_X b L xs s s.heap) (hbl : b < s.heap.size) (hbA : ¬ s.heap.size ≤ b) (hE : EX adC (fun q => s.heap.size ≤ q) s) (hL : LA s.heap AC AR) (hA : ∀ k, 0 < k → AC (adC k)) (hs : ∀ k, K0 ≤ k → adC (k + 1) + 1 = adC (k + 2)) (hI : ∀ SC SR, Inv SC SR → o_is SC 1 10 = some 1 ∧ o_is SR 1 11 = some 1) {SC SR : MS} (hInv : Inv SC SR) {H : Heap} {locs : List Loc} {cells slots : Nat} (M : LW D cy adC AC adR AR s.heap K0 SC SR H locs) (hcc : cells + 5 ≤ 600000 ∧ slots + 64 ≤ 7302250) {x3 : Int32} {g : Nat → Int32} (hin : ∀ j, j < 9 → vp_in (x3 + nI j) L) (hval : ∀ j, j < 9 → xs (x3 + nI j).toNatClampNeg = g j) {ls : Array Slot} (hl : lv_has ls 4 [(0, .ref b), (1, .ref (adC 1)), (2, .ref (adR 1)), (3, .int x3)]) (hE0 : E_11 Inv)
    (K : ∀ (SC' SR' : MS) (H : Heap) (locs : List Loc), Inv SC' SR' → LW D cy adC AC adR AR s.heap K0 SC' SR' H locs → W p l e room_1 s m #[Value.ref b] below meth c H locs (cells + 5) (slots + 64) (lw_Z below #[Value.ref b] s) (F0 m 1613 ls [])) : W p l e room_1 s m #[Value.ref b] below meth c H locs cells slots (lw_Z below #[Value.ref b] s) (F0 m 651 ls []) := by
  obtain ⟨hx, hb, -, hown, -, hts, -⟩ := id C0
  obtain ⟨r, SR', h1, h2, h3⟩ := hE0 SC SR g hInv
  refine lv_aload_n hx hb dL_law_651 rfl (lv_at hl 1 rfl) ?_
  refine lv_aload_n hx hb dL_law_652 rfl (lv_at hl 0 rfl) ?_
  refine lv_iload_n hx hb dL_law_653 rfl (lv_at hl 3 rfl) ?_
  refine lv_iconst (v := (1 : Int32)) hx hb dL_law_654 (by decide) ?_
  refine lv_iadd hx hb dL_law_655 ?_
  refine va_sld hx hb hX hbl hbA M.2.2.1 (hin 1 (by decide)) dL_law_656 ?_
  refine vtopi (hval 1 (by decide)) ?_
  refine go_SI (r_V (rest := []) (As := [.int (g 1)]) C0 cb_L_61 M.1 (hI _ _ hInv).1 (tX9_level l D cy adC AC h1) (pre_R C0 M.1) hl dL_law_657 rfl (Nat.le_of_ble_eq_true rfl) ⟨rfl, rfl⟩ ⟨Nat.le_of_ble_eq_true rfl, Nat.le_of_ble_eq_true rfl⟩ ⟨by show _ ≤ 600000; omega, by show _ ≤ 7302250; omega⟩ rfl) ?_
  refine lv_aload_n hx hb dL_law_660 rfl (lv_at hl 2 rfl) ?_
  refine lv_aload_n hx hb dL_law_661 rfl (lv_at hl 0 rfl) ?_
  refine lv_iload_n hx hb dL_law_662 rfl (lv_at hl 3 rfl) ?_
  refine lv_iconst (v := (1 : Int32)) hx hb dL_law_663 (by decide) ?_
  refine lv_iadd hx hb dL_law_664 ?_
  refine va_sld hx hb hX hbl hbA M.2.2.1 (hin 1 (by decide)) dL_law_665 ?_
  refine vtopi (hval 1 (by decide)) ?_
  refine g2_RMI (r_V (rest := [.int r]) (As := [.int (g 1)]) C0 cb_L_64 M.2.1 (hI _ _ hInv).2 (tX10_level l D cy adR AR h2) (pre_R C0 M.2.1) hl dL_law_666 rfl (Nat.le_of_ble_eq_true rfl) ⟨rfl, rfl⟩ ⟨Nat.le_of_ble_eq_true rfl, Nat.le_of_ble_eq_true rfl⟩ ⟨by show _ ≤ 600000; omega, by show _ ≤ 7302250; omega⟩ rfl) hL M (fun H locs M => ?_)
  refine lv_icmp_eq (tgt := 1613) hx hb dL_law_669 (by decide) (fun hc => ?_) (fun hc => absurd rfl hc)
  refine W.widen (k := cells + 5) (n := slots + 64) (by omega) (by omega) ?_
  exact K _ _ _ _ h3 M
/-- case 12: steep -/
def E_12 (Inv : MS → MS → Prop) : Prop := ∀ (SC SR : MS) (g : Nat → Int32), Inv SC SR → ∃ (r : Int32) (SC' : MS) (SR' : MS), fX9_steep SC 1 (g 1) = some (r, SC') ∧ fX10_steep SR 1 (g 1) = some (r, SR') ∧ Inv SC' SR'
set_option maxHeartbeats 4000000 in
set_option maxRecDepth 100000 in
theorem wLaw_12 {p : Program} {l : Launch} {e : Env} {s : State} {m : MethodId} {below : List Frame} {meth : Method} {c : Code} {D : va_G} {cy : Nat → ClassId} {adC adR : Nat → Nat} {AC AR : Nat → Prop} {K0 b L : Nat} {xs : Nat → Int32} {Inv : MS → MS → Prop} (C0 : CX p s m #[Value.ref b] meth c R_law cL_law 4 D cy) (hX : va_X b L xs s s.heap) (hbl : b < s.heap.size) (hbA : ¬ s.heap.size ≤ b) (hE : EX adC (fun q => s.heap.size ≤ q) s) (hL : LA s.heap AC AR) (hA : ∀ k, 0 < k → AC (adC k)) (hs : ∀ k, K0 ≤ k → adC (k + 1) + 1 = adC (k + 2)) (hI : ∀ SC SR, Inv SC SR → o_is SC 1 10 = some 1 ∧ o_is SR 1 11 = some 1) {SC SR : MS} (hInv : Inv SC SR) {H : Heap} {locs : List Loc} {cells slots : Nat} (M : LW D cy adC AC adR AR s.heap K0 SC SR H locs) (hcc : cells + 5 ≤ 600000 ∧ slots + 64 ≤ 7302250) {x3 : Int32} {g : Nat → Int32} (hin : ∀ j, j < 9 → vp_in (x3 + nI j) L) (hval : ∀ j, j < 9 → xs (x3 + nI j).toNatClampNeg = g j) {ls : Array Slot} (hl : lv_has ls 4 [(0, .ref b), (1, .ref (adC 1)), (2, .ref (adR 1)), (3, .int x3)]) (hE0 : E_12 Inv)
    (K : ∀ (SC' SR' : MS) (H : Heap) (locs : List Loc), Inv SC' SR' → LW D cy adC AC adR AR s.heap K0 SC' SR' H locs → W p l e room_1 s m #[Value.ref b] below meth c H locs (cells + 5) (slots + 64) (lw_Z below #[Value.ref b] s) (F0 m 1613 ls [])) : W p l e room_1 s m #[Value.ref b] below meth c H locs cells slots (lw_Z below #[Value.ref b] s) (F0 m 674 ls []) := by
  obtain ⟨hx, hb, -, hown, -, hts, -⟩ := id C0
  obtain ⟨r, SC', SR', h1, h2, h3⟩ := hE0 SC SR g hInv
  refine lv_aload_n hx hb dL_law_674 rfl (lv_at hl 1 rfl) ?_
  refine lv_aload_n hx hb dL_law_675 rfl (lv_at hl 0 rfl) ?_
  refine lv_iload_n hx hb dL_law_676 rfl (lv_at hl 3 rfl) ?_
  refine lv_iconst (v := (1 : Int32)) hx hb dL_law_677 (by decide) ?_
  refine lv_iadd hx hb dL_law_678 ?_
  refine va_sld hx hb hX hbl hbA M.2.2.1 (hin 1 (by decide)) dL_law_679 ?_
  refine vtopi (hval 1 (by decide)) ?_
  refine g2_CMI (r_V (rest := []) (As := [.int (g 1)]) C0 cb_L_65 M.1 (hI _ _ hInv).1 (tX9_steep l D cy adC AC h1) (pre_R C0 M.1) hl dL_law_680 rfl (Nat.le_of_ble_eq_true rfl) ⟨rfl, rfl⟩ ⟨Nat.le_of_ble_eq_true rfl, Nat.le_of_ble_eq_true rfl⟩ ⟨by show _ ≤ 600000; omega, by show _ ≤ 7302250; omega⟩ rfl) hL M (fun H locs M => ?_)
  refine lv_aload_n hx hb dL_law_683 rfl (lv_at hl 2 rfl) ?_
  refine lv_aload_n hx hb dL_law_684 rfl (lv_at hl 0 rfl) ?_
  refine lv_iload_n hx hb dL_law_685 rfl (lv_at hl 3 rfl) ?_
  refine lv_iconst (v := (1 : Int32)) hx hb dL_law_686 (by decide) ?_
  refine lv_iadd hx hb dL_law_687 ?_
  refine va_sld hx hb hX hbl hbA M.2.2.1 (hin 1 (by decide)) dL_law_688 ?_
  refine vtopi (hval 1 (by decide)) ?_
  refine g2_RMI (r_V (rest := [.int r]) (As := [.int (g 1)]) C0 cb_L_68 M.2.1 (hI _ _ hInv).2 (tX10_steep l D cy adR AR h2) (pre_R C0 M.2.1) hl dL_law_689 rfl (Nat.le_of_ble_eq_true rfl) ⟨rfl, rfl⟩ ⟨Nat.le_of_ble_eq_true rfl, Nat.le_of_ble_eq_true rfl⟩ ⟨by show _ ≤ 600000; omega, by show _ ≤ 7302250; omega⟩ rfl) hL M (fun H locs M => ?_)
  refine lv_icmp_eq (tgt := 1613) hx hb dL_law_692 (by decide) (fun hc => ?_) (fun hc => absurd rfl hc)
  refine W.widen (k := cells + 5) (n := slots + 64) (by omega) (by omega) ?_
  exact K _ _ _ _ h3 M
/-- case 13: quarrel -/
def E_13 (Inv : MS → MS → Prop) : Prop := ∀ (SC SR : MS) (g : Nat → Int32), Inv SC SR → ∃ (r : Int32) (SC' : MS) (SR' : MS), fX9_quarrel SC 1 (g 1) (g 2) = some (r, SC') ∧ fX10_quarrel SR 1 (g 1) (g 2) = some (r, SR') ∧ Inv SC' SR'
set_option maxHeartbeats 4000000 in
set_option maxRecDepth 100000 in
theorem wLaw_13 {p : Program} {l : Launch} {e : Env} {s : State} {m : MethodId} {below : List Frame} {meth : Method} {c : Code} {D : va_G} {cy : Nat → ClassId} {adC adR : Nat → Nat} {AC AR : Nat → Prop} {K0 b L : Nat} {xs : Nat → Int32} {Inv : MS → MS → Prop} (C0 : CX p s m #[Value.ref b] meth c R_law cL_law 4 D cy) (hX : va_X b L xs s s.heap) (hbl : b < s.heap.size) (hbA : ¬ s.heap.size ≤ b) (hE : EX adC (fun q => s.heap.size ≤ q) s) (hL : LA s.heap AC AR) (hA : ∀ k, 0 < k → AC (adC k)) (hs : ∀ k, K0 ≤ k → adC (k + 1) + 1 = adC (k + 2)) (hI : ∀ SC SR, Inv SC SR → o_is SC 1 10 = some 1 ∧ o_is SR 1 11 = some 1) {SC SR : MS} (hInv : Inv SC SR) {H : Heap} {locs : List Loc} {cells slots : Nat} (M : LW D cy adC AC adR AR s.heap K0 SC SR H locs) (hcc : cells + 5 ≤ 600000 ∧ slots + 64 ≤ 7302250) {x3 : Int32} {g : Nat → Int32} (hin : ∀ j, j < 9 → vp_in (x3 + nI j) L) (hval : ∀ j, j < 9 → xs (x3 + nI j).toNatClampNeg = g j) {ls : Array Slot} (hl : lv_has ls 4 [(0, .ref b), (1, .ref (adC 1)), (2, .ref (adR 1)), (3, .int x3)]) (hE0 : E_13 Inv)
    (K : ∀ (SC' SR' : MS) (H : Heap) (locs : List Loc), Inv SC' SR' → LW D cy adC AC adR AR s.heap K0 SC' SR' H locs → W p l e room_1 s m #[Value.ref b] below meth c H locs (cells + 5) (slots + 64) (lw_Z below #[Value.ref b] s) (F0 m 1613 ls [])) : W p l e room_1 s m #[Value.ref b] below meth c H locs cells slots (lw_Z below #[Value.ref b] s) (F0 m 697 ls []) := by
  obtain ⟨hx, hb, -, hown, -, hts, -⟩ := id C0
  obtain ⟨r, SC', SR', h1, h2, h3⟩ := hE0 SC SR g hInv
  refine lv_aload_n hx hb dL_law_697 rfl (lv_at hl 1 rfl) ?_
  refine lv_aload_n hx hb dL_law_698 rfl (lv_at hl 0 rfl) ?_
  refine lv_iload_n hx hb dL_law_699 rfl (lv_at hl 3 rfl) ?_
  refine lv_iconst (v := (1 : Int32)) hx hb dL_law_700 (by decide) ?_
  refine lv_iadd hx hb dL_law_701 ?_
  refine va_sld hx hb hX hbl hbA M.2.2.1 (hin 1 (by decide)) dL_law_702 ?_
  refine vtopi (hval 1 (by decide)) ?_
  refine lv_aload_n hx hb dL_law_703 rfl (lv_at hl 0 rfl) ?_
  refine lv_iload_n hx hb dL_law_704 rfl (lv_at hl 3 rfl) ?_
  refine lv_iconst (v := (2 : Int32)) hx hb dL_law_705 (by decide) ?_
  refine lv_iadd hx hb dL_law_706 ?_
  refine va_sld hx hb hX hbl hbA M.2.2.1 (hin 2 (by decide)) dL_law_707 ?_
  refine vtopi (hval 2 (by decide)) ?_
  refine g2_CMI (r_V (rest := []) (As := [.int (g 1), .int (g 2)]) C0 cb_L_69 M.1 (hI _ _ hInv).1 (tX9_quarrel l D cy adC AC h1) (pre_R C0 M.1) hl dL_law_708 rfl (Nat.le_of_ble_eq_true rfl) ⟨rfl, rfl⟩ ⟨Nat.le_of_ble_eq_true rfl, Nat.le_of_ble_eq_true rfl⟩ ⟨by show _ ≤ 600000; omega, by show _ ≤ 7302250; omega⟩ rfl) hL M (fun H locs M => ?_)
  refine lv_aload_n hx hb dL_law_711 rfl (lv_at hl 2 rfl) ?_
  refine lv_aload_n hx hb dL_law_712 rfl (lv_at hl 0 rfl) ?_
  refine lv_iload_n hx hb dL_law_713 rfl (lv_at hl 3 rfl) ?_
  refine lv_iconst (v := (1 : Int32)) hx hb dL_law_714 (by decide) ?_
  refine lv_iadd hx hb dL_law_715 ?_
  refine va_sld hx hb hX hbl hbA M.2.2.1 (hin 1 (by decide)) dL_law_716 ?_
  refine vtopi (hval 1 (by decide)) ?_
  refine lv_aload_n hx hb dL_law_717 rfl (lv_at hl 0 rfl) ?_
  refine lv_iload_n hx hb dL_law_718 rfl (lv_at hl 3 rfl) ?_
  refine lv_iconst (v := (2 : Int32)) hx hb dL_law_719 (by decide) ?_
  refine lv_iadd hx hb dL_law_720 ?_
  refine va_sld hx hb hX hbl hbA M.2.2.1 (hin 2 (by decide)) dL_law_721 ?_
  refine vtopi (hval 2 (by decide)) ?_
  refine g2_RMI (r_V (rest := [.int r]) (As := [.int (g 1), .int (g 2)]) C0 cb_L_72 M.2.1 (hI _ _ hInv).2 (tX10_quarrel l D cy adR AR h2) (pre_R C0 M.2.1) hl dL_law_722 rfl (Nat.le_of_ble_eq_true rfl) ⟨rfl, rfl⟩ ⟨Nat.le_of_ble_eq_true rfl, Nat.le_of_ble_eq_true rfl⟩ ⟨by show _ ≤ 600000; omega, by show _ ≤ 7302250; omega⟩ rfl) hL M (fun H locs M => ?_)
  refine lv_icmp_eq (tgt := 1613) hx hb dL_law_725 (by decide) (fun hc => ?_) (fun hc => absurd rfl hc)
  refine W.widen (k := cells + 5) (n := slots + 64) (by omega) (by omega) ?_
  exact K _ _ _ _ h3 M
/-- case 14: doubted -/
def E_14 (Inv : MS → MS → Prop) : Prop := ∀ (SC SR : MS) (g : Nat → Int32), Inv SC SR → ∃ (r : Int32) (SC' : MS) (SR' : MS), fX9_doubted SC 1 = some (r, SC') ∧ fX10_doubted SR 1 = some (r, SR') ∧ Inv SC' SR'
set_option maxHeartbeats 4000000 in
set_option maxRecDepth 100000 in
theorem wLaw_14 {p : Program} {l : Launch} {e : Env} {s : State} {m : MethodId} {below : List Frame} {meth : Method} {c : Code} {D : va_G} {cy : Nat → ClassId} {adC adR : Nat → Nat} {AC AR : Nat → Prop} {K0 b L : Nat} {xs : Nat → Int32} {Inv : MS → MS → Prop} (C0 : CX p s m #[Value.ref b] meth c R_law cL_law 4 D cy) (hX : va_X b L xs s s.heap) (hbl : b < s.heap.size) (hbA : ¬ s.heap.size ≤ b) (hE : EX adC (fun q => s.heap.size ≤ q) s) (hL : LA s.heap AC AR) (hA : ∀ k, 0 < k → AC (adC k)) (hs : ∀ k, K0 ≤ k → adC (k + 1) + 1 = adC (k + 2)) (hI : ∀ SC SR, Inv SC SR → o_is SC 1 10 = some 1 ∧ o_is SR 1 11 = some 1) {SC SR : MS} (hInv : Inv SC SR) {H : Heap} {locs : List Loc} {cells slots : Nat} (M : LW D cy adC AC adR AR s.heap K0 SC SR H locs) (hcc : cells + 5 ≤ 600000 ∧ slots + 64 ≤ 7302250) {x3 : Int32} {g : Nat → Int32} (hin : ∀ j, j < 9 → vp_in (x3 + nI j) L) (hval : ∀ j, j < 9 → xs (x3 + nI j).toNatClampNeg = g j) {ls : Array Slot} (hl : lv_has ls 4 [(0, .ref b), (1, .ref (adC 1)), (2, .ref (adR 1)), (3, .int x3)]) (hE0 : E_14 Inv)
    (K : ∀ (SC' SR' : MS) (H : Heap) (locs : List Loc), Inv SC' SR' → LW D cy adC AC adR AR s.heap K0 SC' SR' H locs → W p l e room_1 s m #[Value.ref b] below meth c H locs (cells + 5) (slots + 64) (lw_Z below #[Value.ref b] s) (F0 m 1613 ls [])) : W p l e room_1 s m #[Value.ref b] below meth c H locs cells slots (lw_Z below #[Value.ref b] s) (F0 m 730 ls []) := by
  obtain ⟨hx, hb, -, hown, -, hts, -⟩ := id C0
  obtain ⟨r, SC', SR', h1, h2, h3⟩ := hE0 SC SR g hInv
  refine lv_aload_n hx hb dL_law_730 rfl (lv_at hl 1 rfl) ?_
  refine g2_CMI (r_V (rest := []) (As := []) C0 cb_L_73 M.1 (hI _ _ hInv).1 (tX9_doubted l D cy adC AC h1) (pre_R C0 M.1) hl dL_law_731 rfl (Nat.le_of_ble_eq_true rfl) ⟨rfl, rfl⟩ ⟨Nat.le_of_ble_eq_true rfl, Nat.le_of_ble_eq_true rfl⟩ ⟨by show _ ≤ 600000; omega, by show _ ≤ 7302250; omega⟩ rfl) hL M (fun H locs M => ?_)
  refine lv_aload_n hx hb dL_law_734 rfl (lv_at hl 2 rfl) ?_
  refine g2_RMI (r_V (rest := [.int r]) (As := []) C0 cb_L_77 M.2.1 (hI _ _ hInv).2 (tX10_doubted l D cy adR AR h2) (pre_R C0 M.2.1) hl dL_law_735 rfl (Nat.le_of_ble_eq_true rfl) ⟨rfl, rfl⟩ ⟨Nat.le_of_ble_eq_true rfl, Nat.le_of_ble_eq_true rfl⟩ ⟨by show _ ≤ 600000; omega, by show _ ≤ 7302250; omega⟩ rfl) hL M (fun H locs M => ?_)
  refine lv_icmp_eq (tgt := 1613) hx hb dL_law_738 (by decide) (fun hc => ?_) (fun hc => absurd rfl hc)
  refine W.widen (k := cells + 5) (n := slots + 64) (by omega) (by omega) ?_
  exact K _ _ _ _ h3 M
/-- case 15: value -/
def E_15 (Inv : MS → MS → Prop) : Prop := ∀ (SC SR : MS) (g : Nat → Int32), Inv SC SR → ∃ (r : Int32) (SC' : MS) (SR' : MS), fX9_value SC 1 (g 1) (g 2) = some (r, SC') ∧ fX10_value SR 1 (g 1) (g 2) = some (r, SR') ∧ Inv SC' SR'
set_option maxHeartbeats 4000000 in
set_option maxRecDepth 100000 in
theorem wLaw_15 {p : Program} {l : Launch} {e : Env} {s : State} {m : MethodId} {below : List Frame} {meth : Method} {c : Code} {D : va_G} {cy : Nat → ClassId} {adC adR : Nat → Nat} {AC AR : Nat → Prop} {K0 b L : Nat} {xs : Nat → Int32} {Inv : MS → MS → Prop} (C0 : CX p s m #[Value.ref b] meth c R_law cL_law 4 D cy) (hX : va_X b L xs s s.heap) (hbl : b < s.heap.size) (hbA : ¬ s.heap.size ≤ b) (hE : EX adC (fun q => s.heap.size ≤ q) s) (hL : LA s.heap AC AR) (hA : ∀ k, 0 < k → AC (adC k)) (hs : ∀ k, K0 ≤ k → adC (k + 1) + 1 = adC (k + 2)) (hI : ∀ SC SR, Inv SC SR → o_is SC 1 10 = some 1 ∧ o_is SR 1 11 = some 1) {SC SR : MS} (hInv : Inv SC SR) {H : Heap} {locs : List Loc} {cells slots : Nat} (M : LW D cy adC AC adR AR s.heap K0 SC SR H locs) (hcc : cells + 5 ≤ 600000 ∧ slots + 64 ≤ 7302250) {x3 : Int32} {g : Nat → Int32} (hin : ∀ j, j < 9 → vp_in (x3 + nI j) L) (hval : ∀ j, j < 9 → xs (x3 + nI j).toNatClampNeg = g j) {ls : Array Slot} (hl : lv_has ls 4 [(0, .ref b), (1, .ref (adC 1)), (2, .ref (adR 1)), (3, .int x3)]) (hE0 : E_15 Inv)
    (K : ∀ (SC' SR' : MS) (H : Heap) (locs : List Loc), Inv SC' SR' → LW D cy adC AC adR AR s.heap K0 SC' SR' H locs → W p l e room_1 s m #[Value.ref b] below meth c H locs (cells + 5) (slots + 64) (lw_Z below #[Value.ref b] s) (F0 m 1613 ls [])) : W p l e room_1 s m #[Value.ref b] below meth c H locs cells slots (lw_Z below #[Value.ref b] s) (F0 m 743 ls []) := by
  obtain ⟨hx, hb, -, hown, -, hts, -⟩ := id C0
  obtain ⟨r, SC', SR', h1, h2, h3⟩ := hE0 SC SR g hInv
  refine lv_aload_n hx hb dL_law_743 rfl (lv_at hl 1 rfl) ?_
  refine lv_aload_n hx hb dL_law_744 rfl (lv_at hl 0 rfl) ?_
  refine lv_iload_n hx hb dL_law_745 rfl (lv_at hl 3 rfl) ?_
  refine lv_iconst (v := (1 : Int32)) hx hb dL_law_746 (by decide) ?_
  refine lv_iadd hx hb dL_law_747 ?_
  refine va_sld hx hb hX hbl hbA M.2.2.1 (hin 1 (by decide)) dL_law_748 ?_
  refine vtopi (hval 1 (by decide)) ?_
  refine lv_aload_n hx hb dL_law_749 rfl (lv_at hl 0 rfl) ?_
  refine lv_iload_n hx hb dL_law_750 rfl (lv_at hl 3 rfl) ?_
  refine lv_iconst (v := (2 : Int32)) hx hb dL_law_751 (by decide) ?_
  refine lv_iadd hx hb dL_law_752 ?_
  refine va_sld hx hb hX hbl hbA M.2.2.1 (hin 2 (by decide)) dL_law_753 ?_
  refine vtopi (hval 2 (by decide)) ?_
  refine g2_CMI (r_V (rest := []) (As := [.int (g 1), .int (g 2)]) C0 cb_L_78 M.1 (hI _ _ hInv).1 (tX9_value l D cy adC AC h1) (pre_R C0 M.1) hl dL_law_754 rfl (Nat.le_of_ble_eq_true rfl) ⟨rfl, rfl⟩ ⟨Nat.le_of_ble_eq_true rfl, Nat.le_of_ble_eq_true rfl⟩ ⟨by show _ ≤ 600000; omega, by show _ ≤ 7302250; omega⟩ rfl) hL M (fun H locs M => ?_)
  refine lv_aload_n hx hb dL_law_757 rfl (lv_at hl 2 rfl) ?_
  refine lv_aload_n hx hb dL_law_758 rfl (lv_at hl 0 rfl) ?_
  refine lv_iload_n hx hb dL_law_759 rfl (lv_at hl 3 rfl) ?_
  refine lv_iconst (v := (1 : Int32)) hx hb dL_law_760 (by decide) ?_
  refine lv_iadd hx hb dL_law_761 ?_
  refine va_sld hx hb hX hbl hbA M.2.2.1 (hin 1 (by decide)) dL_law_762 ?_
  refine vtopi (hval 1 (by decide)) ?_
  refine lv_aload_n hx hb dL_law_763 rfl (lv_at hl 0 rfl) ?_
  refine lv_iload_n hx hb dL_law_764 rfl (lv_at hl 3 rfl) ?_
  refine lv_iconst (v := (2 : Int32)) hx hb dL_law_765 (by decide) ?_
  refine lv_iadd hx hb dL_law_766 ?_
  refine va_sld hx hb hX hbl hbA M.2.2.1 (hin 2 (by decide)) dL_law_767 ?_
  refine vtopi (hval 2 (by decide)) ?_
  refine g2_RMI (r_V (rest := [.int r]) (As := [.int (g 1), .int (g 2)]) C0 cb_L_81 M.2.1 (hI _ _ hInv).2 (tX10_value l D cy adR AR h2) (pre_R C0 M.2.1) hl dL_law_768 rfl (Nat.le_of_ble_eq_true rfl) ⟨rfl, rfl⟩ ⟨Nat.le_of_ble_eq_true rfl, Nat.le_of_ble_eq_true rfl⟩ ⟨by show _ ≤ 600000; omega, by show _ ≤ 7302250; omega⟩ rfl) hL M (fun H locs M => ?_)
  refine lv_icmp_eq (tgt := 1613) hx hb dL_law_771 (by decide) (fun hc => ?_) (fun hc => absurd rfl hc)
  refine W.widen (k := cells + 5) (n := slots + 64) (by omega) (by omega) ?_
  exact K _ _ _ _ h3 M
/-- case 16: line -/
def E_16 (Inv : MS → MS → Prop) : Prop := ∀ (SC SR : MS) (g : Nat → Int32), Inv SC SR → ∃ (r : Int32) (SC' : MS) (SR' : MS), fX9_line SC 1 (g 1) (g 2) = some (r, SC') ∧ fX10_line SR 1 (g 1) (g 2) = some (r, SR') ∧ Inv SC' SR'
set_option maxHeartbeats 4000000 in
set_option maxRecDepth 100000 in
theorem wLaw_16 {p : Program} {l : Launch} {e : Env} {s : State} {m : MethodId} {below : List Frame} {meth : Method} {c : Code} {D : va_G} {cy : Nat → ClassId} {adC adR : Nat → Nat} {AC AR : Nat → Prop} {K0 b L : Nat} {xs : Nat → Int32} {Inv : MS → MS → Prop} (C0 : CX p s m #[Value.ref b] meth c R_law cL_law 4 D cy) (hX : va_X b L xs s s.heap) (hbl : b < s.heap.size) (hbA : ¬ s.heap.size ≤ b) (hE : EX adC (fun q => s.heap.size ≤ q) s) (hL : LA s.heap AC AR) (hA : ∀ k, 0 < k → AC (adC k)) (hs : ∀ k, K0 ≤ k → adC (k + 1) + 1 = adC (k + 2)) (hI : ∀ SC SR, Inv SC SR → o_is SC 1 10 = some 1 ∧ o_is SR 1 11 = some 1) {SC SR : MS} (hInv : Inv SC SR) {H : Heap} {locs : List Loc} {cells slots : Nat} (M : LW D cy adC AC adR AR s.heap K0 SC SR H locs) (hcc : cells + 5 ≤ 600000 ∧ slots + 64 ≤ 7302250) {x3 : Int32} {g : Nat → Int32} (hin : ∀ j, j < 9 → vp_in (x3 + nI j) L) (hval : ∀ j, j < 9 → xs (x3 + nI j).toNatClampNeg = g j) {ls : Array Slot} (hl : lv_has ls 4 [(0, .ref b), (1, .ref (adC 1)), (2, .ref (adR 1)), (3, .int x3)]) (hE0 : E_16 Inv)
    (K : ∀ (SC' SR' : MS) (H : Heap) (locs : List Loc), Inv SC' SR' → LW D cy adC AC adR AR s.heap K0 SC' SR' H locs → W p l e room_1 s m #[Value.ref b] below meth c H locs (cells + 5) (slots + 64) (lw_Z below #[Value.ref b] s) (F0 m 1613 ls [])) : W p l e room_1 s m #[Value.ref b] below meth c H locs cells slots (lw_Z below #[Value.ref b] s) (F0 m 776 ls []) := by
  obtain ⟨hx, hb, -, hown, -, hts, -⟩ := id C0
  obtain ⟨r, SC', SR', h1, h2, h3⟩ := hE0 SC SR g hInv
  refine lv_aload_n hx hb dL_law_776 rfl (lv_at hl 1 rfl) ?_
  refine lv_aload_n hx hb dL_law_777 rfl (lv_at hl 0 rfl) ?_
  refine lv_iload_n hx hb dL_law_778 rfl (lv_at hl 3 rfl) ?_
  refine lv_iconst (v := (1 : Int32)) hx hb dL_law_779 (by decide) ?_
  refine lv_iadd hx hb dL_law_780 ?_
  refine va_sld hx hb hX hbl hbA M.2.2.1 (hin 1 (by decide)) dL_law_781 ?_
  refine vtopi (hval 1 (by decide)) ?_
  refine lv_aload_n hx hb dL_law_782 rfl (lv_at hl 0 rfl) ?_
  refine lv_iload_n hx hb dL_law_783 rfl (lv_at hl 3 rfl) ?_
  refine lv_iconst (v := (2 : Int32)) hx hb dL_law_784 (by decide) ?_
  refine lv_iadd hx hb dL_law_785 ?_
  refine va_sld hx hb hX hbl hbA M.2.2.1 (hin 2 (by decide)) dL_law_786 ?_
  refine vtopi (hval 2 (by decide)) ?_
  refine g2_CMI (r_V (rest := []) (As := [.int (g 1), .int (g 2)]) C0 cb_L_82 M.1 (hI _ _ hInv).1 (tX9_line l D cy adC AC h1) (pre_R C0 M.1) hl dL_law_787 rfl (Nat.le_of_ble_eq_true rfl) ⟨rfl, rfl⟩ ⟨Nat.le_of_ble_eq_true rfl, Nat.le_of_ble_eq_true rfl⟩ ⟨by show _ ≤ 600000; omega, by show _ ≤ 7302250; omega⟩ rfl) hL M (fun H locs M => ?_)
  refine lv_aload_n hx hb dL_law_790 rfl (lv_at hl 2 rfl) ?_
  refine lv_aload_n hx hb dL_law_791 rfl (lv_at hl 0 rfl) ?_
  refine lv_iload_n hx hb dL_law_792 rfl (lv_at hl 3 rfl) ?_
  refine lv_iconst (v := (1 : Int32)) hx hb dL_law_793 (by decide) ?_
  refine lv_iadd hx hb dL_law_794 ?_
  refine va_sld hx hb hX hbl hbA M.2.2.1 (hin 1 (by decide)) dL_law_795 ?_
  refine vtopi (hval 1 (by decide)) ?_
  refine lv_aload_n hx hb dL_law_796 rfl (lv_at hl 0 rfl) ?_
  refine lv_iload_n hx hb dL_law_797 rfl (lv_at hl 3 rfl) ?_
  refine lv_iconst (v := (2 : Int32)) hx hb dL_law_798 (by decide) ?_
  refine lv_iadd hx hb dL_law_799 ?_
  refine va_sld hx hb hX hbl hbA M.2.2.1 (hin 2 (by decide)) dL_law_800 ?_
  refine vtopi (hval 2 (by decide)) ?_
  refine g2_RMI (r_V (rest := [.int r]) (As := [.int (g 1), .int (g 2)]) C0 cb_L_85 M.2.1 (hI _ _ hInv).2 (tX10_line l D cy adR AR h2) (pre_R C0 M.2.1) hl dL_law_801 rfl (Nat.le_of_ble_eq_true rfl) ⟨rfl, rfl⟩ ⟨Nat.le_of_ble_eq_true rfl, Nat.le_of_ble_eq_true rfl⟩ ⟨by show _ ≤ 600000; omega, by show _ ≤ 7302250; omega⟩ rfl) hL M (fun H locs M => ?_)
  refine lv_icmp_eq (tgt := 1613) hx hb dL_law_804 (by decide) (fun hc => ?_) (fun hc => absurd rfl hc)
  refine W.widen (k := cells + 5) (n := slots + 64) (by omega) (by omega) ?_
  exact K _ _ _ _ h3 M
/-- case 17: draw -/
def E_17 (Inv : MS → MS → Prop) : Prop := ∀ (SC SR : MS) (g : Nat → Int32), Inv SC SR → ∃ (r : Int32) (SC' : MS) (SR' : MS), fX9_draw SC 1 (g 1) (g 2) (g 3) (g 4) (g 5) (g 6) (g 7) (g 8) = some (r, SC') ∧ fX10_draw SR 1 (g 1) (g 2) (g 3) (g 4) (g 5) (g 6) (g 7) (g 8) = some (r, SR') ∧ Inv SC' SR'
set_option maxHeartbeats 4000000 in
set_option maxRecDepth 100000 in
theorem wLaw_17 {p : Program} {l : Launch} {e : Env} {s : State} {m : MethodId} {below : List Frame} {meth : Method} {c : Code} {D : va_G} {cy : Nat → ClassId} {adC adR : Nat → Nat} {AC AR : Nat → Prop} {K0 b L : Nat} {xs : Nat → Int32} {Inv : MS → MS → Prop} (C0 : CX p s m #[Value.ref b] meth c R_law cL_law 4 D cy) (hX : va_X b L xs s s.heap) (hbl : b < s.heap.size) (hbA : ¬ s.heap.size ≤ b) (hE : EX adC (fun q => s.heap.size ≤ q) s) (hL : LA s.heap AC AR) (hA : ∀ k, 0 < k → AC (adC k)) (hs : ∀ k, K0 ≤ k → adC (k + 1) + 1 = adC (k + 2)) (hI : ∀ SC SR, Inv SC SR → o_is SC 1 10 = some 1 ∧ o_is SR 1 11 = some 1) {SC SR : MS} (hInv : Inv SC SR) {H : Heap} {locs : List Loc} {cells slots : Nat} (M : LW D cy adC AC adR AR s.heap K0 SC SR H locs) (hcc : cells + 5 ≤ 600000 ∧ slots + 64 ≤ 7302250) {x3 : Int32} {g : Nat → Int32} (hin : ∀ j, j < 9 → vp_in (x3 + nI j) L) (hval : ∀ j, j < 9 → xs (x3 + nI j).toNatClampNeg = g j) {ls : Array Slot} (hl : lv_has ls 4 [(0, .ref b), (1, .ref (adC 1)), (2, .ref (adR 1)), (3, .int x3)]) (hE0 : E_17 Inv)
    (K : ∀ (SC' SR' : MS) (H : Heap) (locs : List Loc), Inv SC' SR' → LW D cy adC AC adR AR s.heap K0 SC' SR' H locs → W p l e room_1 s m #[Value.ref b] below meth c H locs (cells + 5) (slots + 64) (lw_Z below #[Value.ref b] s) (F0 m 1613 ls [])) : W p l e room_1 s m #[Value.ref b] below meth c H locs cells slots (lw_Z below #[Value.ref b] s) (F0 m 809 ls []) := by
  obtain ⟨hx, hb, -, hown, -, hts, -⟩ := id C0
  obtain ⟨r, SC', SR', h1, h2, h3⟩ := hE0 SC SR g hInv
  refine lv_aload_n hx hb dL_law_809 rfl (lv_at hl 1 rfl) ?_
  refine lv_aload_n hx hb dL_law_810 rfl (lv_at hl 0 rfl) ?_
  refine lv_iload_n hx hb dL_law_811 rfl (lv_at hl 3 rfl) ?_
  refine lv_iconst (v := (1 : Int32)) hx hb dL_law_812 (by decide) ?_
  refine lv_iadd hx hb dL_law_813 ?_
  refine va_sld hx hb hX hbl hbA M.2.2.1 (hin 1 (by decide)) dL_law_814 ?_
  refine vtopi (hval 1 (by decide)) ?_
  refine lv_aload_n hx hb dL_law_815 rfl (lv_at hl 0 rfl) ?_
  refine lv_iload_n hx hb dL_law_816 rfl (lv_at hl 3 rfl) ?_
  refine lv_iconst (v := (2 : Int32)) hx hb dL_law_817 (by decide) ?_
  refine lv_iadd hx hb dL_law_818 ?_
  refine va_sld hx hb hX hbl hbA M.2.2.1 (hin 2 (by decide)) dL_law_819 ?_
  refine vtopi (hval 2 (by decide)) ?_
  refine lv_aload_n hx hb dL_law_820 rfl (lv_at hl 0 rfl) ?_
  refine lv_iload_n hx hb dL_law_821 rfl (lv_at hl 3 rfl) ?_
  refine lv_iconst (v := (3 : Int32)) hx hb dL_law_822 (by decide) ?_
  refine lv_iadd hx hb dL_law_823 ?_
  refine va_sld hx hb hX hbl hbA M.2.2.1 (hin 3 (by decide)) dL_law_824 ?_
  refine vtopi (hval 3 (by decide)) ?_
  refine lv_aload_n hx hb dL_law_825 rfl (lv_at hl 0 rfl) ?_
  refine lv_iload_n hx hb dL_law_826 rfl (lv_at hl 3 rfl) ?_
  refine lv_iconst (v := (4 : Int32)) hx hb dL_law_827 (by decide) ?_
  refine lv_iadd hx hb dL_law_828 ?_
  refine va_sld hx hb hX hbl hbA M.2.2.1 (hin 4 (by decide)) dL_law_829 ?_
  refine vtopi (hval 4 (by decide)) ?_
  refine lv_aload_n hx hb dL_law_830 rfl (lv_at hl 0 rfl) ?_
  refine lv_iload_n hx hb dL_law_831 rfl (lv_at hl 3 rfl) ?_
  refine lv_iconst (v := (5 : Int32)) hx hb dL_law_832 (by decide) ?_
  refine lv_iadd hx hb dL_law_833 ?_
  refine va_sld hx hb hX hbl hbA M.2.2.1 (hin 5 (by decide)) dL_law_834 ?_
  refine vtopi (hval 5 (by decide)) ?_
  refine lv_aload_n hx hb dL_law_835 rfl (lv_at hl 0 rfl) ?_
  refine lv_iload_n hx hb dL_law_836 rfl (lv_at hl 3 rfl) ?_
  refine lv_bipush (v := (6 : Int32)) hx hb dL_law_837 (by decide) ?_
  refine lv_iadd hx hb dL_law_839 ?_
  refine va_sld hx hb hX hbl hbA M.2.2.1 (hin 6 (by decide)) dL_law_840 ?_
  refine vtopi (hval 6 (by decide)) ?_
  refine lv_aload_n hx hb dL_law_841 rfl (lv_at hl 0 rfl) ?_
  refine lv_iload_n hx hb dL_law_842 rfl (lv_at hl 3 rfl) ?_
  refine lv_bipush (v := (7 : Int32)) hx hb dL_law_843 (by decide) ?_
  refine lv_iadd hx hb dL_law_845 ?_
  refine va_sld hx hb hX hbl hbA M.2.2.1 (hin 7 (by decide)) dL_law_846 ?_
  refine vtopi (hval 7 (by decide)) ?_
  refine lv_aload_n hx hb dL_law_847 rfl (lv_at hl 0 rfl) ?_
  refine lv_iload_n hx hb dL_law_848 rfl (lv_at hl 3 rfl) ?_
  refine lv_bipush (v := (8 : Int32)) hx hb dL_law_849 (by decide) ?_
  refine lv_iadd hx hb dL_law_851 ?_
  refine va_sld hx hb hX hbl hbA M.2.2.1 (hin 8 (by decide)) dL_law_852 ?_
  refine vtopi (hval 8 (by decide)) ?_
  refine g2_CAI (r_V (rest := []) (As := [.int (g 1), .int (g 2), .int (g 3), .int (g 4), .int (g 5), .int (g 6), .int (g 7), .int (g 8)]) C0 cb_L_86 M.1 (hI _ _ hInv).1 (tX9_draw l D cy adC AC K0 hA hs h1) (pre2_A C0 hE hL M) hl dL_law_853 rfl (Nat.le_of_ble_eq_true rfl) ⟨rfl, rfl⟩ ⟨Nat.le_of_ble_eq_true rfl, Nat.le_of_ble_eq_true rfl⟩ ⟨by show _ ≤ 600000; omega, by show _ ≤ 7302250; omega⟩ rfl) hL M (fun H locs M => ?_)
  refine lv_aload_n hx hb dL_law_856 rfl (lv_at hl 2 rfl) ?_
  refine lv_aload_n hx hb dL_law_857 rfl (lv_at hl 0 rfl) ?_
  refine lv_iload_n hx hb dL_law_858 rfl (lv_at hl 3 rfl) ?_
  refine lv_iconst (v := (1 : Int32)) hx hb dL_law_859 (by decide) ?_
  refine lv_iadd hx hb dL_law_860 ?_
  refine va_sld hx hb hX hbl hbA M.2.2.1 (hin 1 (by decide)) dL_law_861 ?_
  refine vtopi (hval 1 (by decide)) ?_
  refine lv_aload_n hx hb dL_law_862 rfl (lv_at hl 0 rfl) ?_
  refine lv_iload_n hx hb dL_law_863 rfl (lv_at hl 3 rfl) ?_
  refine lv_iconst (v := (2 : Int32)) hx hb dL_law_864 (by decide) ?_
  refine lv_iadd hx hb dL_law_865 ?_
  refine va_sld hx hb hX hbl hbA M.2.2.1 (hin 2 (by decide)) dL_law_866 ?_
  refine vtopi (hval 2 (by decide)) ?_
  refine lv_aload_n hx hb dL_law_867 rfl (lv_at hl 0 rfl) ?_
  refine lv_iload_n hx hb dL_law_868 rfl (lv_at hl 3 rfl) ?_
  refine lv_iconst (v := (3 : Int32)) hx hb dL_law_869 (by decide) ?_
  refine lv_iadd hx hb dL_law_870 ?_
  refine va_sld hx hb hX hbl hbA M.2.2.1 (hin 3 (by decide)) dL_law_871 ?_
  refine vtopi (hval 3 (by decide)) ?_
  refine lv_aload_n hx hb dL_law_872 rfl (lv_at hl 0 rfl) ?_
  refine lv_iload_n hx hb dL_law_873 rfl (lv_at hl 3 rfl) ?_
  refine lv_iconst (v := (4 : Int32)) hx hb dL_law_874 (by decide) ?_
  refine lv_iadd hx hb dL_law_875 ?_
  refine va_sld hx hb hX hbl hbA M.2.2.1 (hin 4 (by decide)) dL_law_876 ?_
  refine vtopi (hval 4 (by decide)) ?_
  refine lv_aload_n hx hb dL_law_877 rfl (lv_at hl 0 rfl) ?_
  refine lv_iload_n hx hb dL_law_878 rfl (lv_at hl 3 rfl) ?_
  refine lv_iconst (v := (5 : Int32)) hx hb dL_law_879 (by decide) ?_
  refine lv_iadd hx hb dL_law_880 ?_
  refine va_sld hx hb hX hbl hbA M.2.2.1 (hin 5 (by decide)) dL_law_881 ?_
  refine vtopi (hval 5 (by decide)) ?_
  refine lv_aload_n hx hb dL_law_882 rfl (lv_at hl 0 rfl) ?_
  refine lv_iload_n hx hb dL_law_883 rfl (lv_at hl 3 rfl) ?_
  refine lv_bipush (v := (6 : Int32)) hx hb dL_law_884 (by decide) ?_
  refine lv_iadd hx hb dL_law_886 ?_
  refine va_sld hx hb hX hbl hbA M.2.2.1 (hin 6 (by decide)) dL_law_887 ?_
  refine vtopi (hval 6 (by decide)) ?_
  refine lv_aload_n hx hb dL_law_888 rfl (lv_at hl 0 rfl) ?_
  refine lv_iload_n hx hb dL_law_889 rfl (lv_at hl 3 rfl) ?_
  refine lv_bipush (v := (7 : Int32)) hx hb dL_law_890 (by decide) ?_
  refine lv_iadd hx hb dL_law_892 ?_
  refine va_sld hx hb hX hbl hbA M.2.2.1 (hin 7 (by decide)) dL_law_893 ?_
  refine vtopi (hval 7 (by decide)) ?_
  refine lv_aload_n hx hb dL_law_894 rfl (lv_at hl 0 rfl) ?_
  refine lv_iload_n hx hb dL_law_895 rfl (lv_at hl 3 rfl) ?_
  refine lv_bipush (v := (8 : Int32)) hx hb dL_law_896 (by decide) ?_
  refine lv_iadd hx hb dL_law_898 ?_
  refine va_sld hx hb hX hbl hbA M.2.2.1 (hin 8 (by decide)) dL_law_899 ?_
  refine vtopi (hval 8 (by decide)) ?_
  refine g2_RMI (r_V (rest := [.int r]) (As := [.int (g 1), .int (g 2), .int (g 3), .int (g 4), .int (g 5), .int (g 6), .int (g 7), .int (g 8)]) C0 cb_L_90 M.2.1 (hI _ _ hInv).2 (tX10_draw l D cy adR AR h2) (pre_R C0 M.2.1) hl dL_law_900 rfl (Nat.le_of_ble_eq_true rfl) ⟨rfl, rfl⟩ ⟨Nat.le_of_ble_eq_true rfl, Nat.le_of_ble_eq_true rfl⟩ ⟨by show _ ≤ 600000; omega, by show _ ≤ 7302250; omega⟩ rfl) hL M (fun H locs M => ?_)
  refine lv_icmp_eq (tgt := 1613) hx hb dL_law_903 (by decide) (fun hc => ?_) (fun hc => absurd rfl hc)
  refine W.widen (k := cells + 5) (n := slots + 64) (by omega) (by omega) ?_
  exact K _ _ _ _ h3 M
/-- case 18: front -/
def E_18 (Inv : MS → MS → Prop) : Prop := ∀ (SC SR : MS) (g : Nat → Int32), Inv SC SR → ∃ (r : Int32) (SC' : MS) (SR' : MS), fX9_front SC 1 (g 1) (g 2) (g 3) = some (r, SC') ∧ fX10_front SR 1 (g 1) (g 2) (g 3) = some (r, SR') ∧ Inv SC' SR'
set_option maxHeartbeats 4000000 in
set_option maxRecDepth 100000 in
theorem wLaw_18 {p : Program} {l : Launch} {e : Env} {s : State} {m : MethodId} {below : List Frame} {meth : Method} {c : Code} {D : va_G} {cy : Nat → ClassId} {adC adR : Nat → Nat} {AC AR : Nat → Prop} {K0 b L : Nat} {xs : Nat → Int32} {Inv : MS → MS → Prop} (C0 : CX p s m #[Value.ref b] meth c R_law cL_law 4 D cy) (hX : va_X b L xs s s.heap) (hbl : b < s.heap.size) (hbA : ¬ s.heap.size ≤ b) (hE : EX adC (fun q => s.heap.size ≤ q) s) (hL : LA s.heap AC AR) (hA : ∀ k, 0 < k → AC (adC k)) (hs : ∀ k, K0 ≤ k → adC (k + 1) + 1 = adC (k + 2)) (hI : ∀ SC SR, Inv SC SR → o_is SC 1 10 = some 1 ∧ o_is SR 1 11 = some 1) {SC SR : MS} (hInv : Inv SC SR) {H : Heap} {locs : List Loc} {cells slots : Nat} (M : LW D cy adC AC adR AR s.heap K0 SC SR H locs) (hcc : cells + 5 ≤ 600000 ∧ slots + 64 ≤ 7302250) {x3 : Int32} {g : Nat → Int32} (hin : ∀ j, j < 9 → vp_in (x3 + nI j) L) (hval : ∀ j, j < 9 → xs (x3 + nI j).toNatClampNeg = g j) {ls : Array Slot} (hl : lv_has ls 4 [(0, .ref b), (1, .ref (adC 1)), (2, .ref (adR 1)), (3, .int x3)]) (hE0 : E_18 Inv)
    (K : ∀ (SC' SR' : MS) (H : Heap) (locs : List Loc), Inv SC' SR' → LW D cy adC AC adR AR s.heap K0 SC' SR' H locs → W p l e room_1 s m #[Value.ref b] below meth c H locs (cells + 5) (slots + 64) (lw_Z below #[Value.ref b] s) (F0 m 1613 ls [])) : W p l e room_1 s m #[Value.ref b] below meth c H locs cells slots (lw_Z below #[Value.ref b] s) (F0 m 908 ls []) := by
  obtain ⟨hx, hb, -, hown, -, hts, -⟩ := id C0
  obtain ⟨r, SC', SR', h1, h2, h3⟩ := hE0 SC SR g hInv
  refine lv_aload_n hx hb dL_law_908 rfl (lv_at hl 1 rfl) ?_
  refine lv_aload_n hx hb dL_law_909 rfl (lv_at hl 0 rfl) ?_
  refine lv_iload_n hx hb dL_law_910 rfl (lv_at hl 3 rfl) ?_
  refine lv_iconst (v := (1 : Int32)) hx hb dL_law_911 (by decide) ?_
  refine lv_iadd hx hb dL_law_912 ?_
  refine va_sld hx hb hX hbl hbA M.2.2.1 (hin 1 (by decide)) dL_law_913 ?_
  refine vtopi (hval 1 (by decide)) ?_
  refine lv_aload_n hx hb dL_law_914 rfl (lv_at hl 0 rfl) ?_
  refine lv_iload_n hx hb dL_law_915 rfl (lv_at hl 3 rfl) ?_
  refine lv_iconst (v := (2 : Int32)) hx hb dL_law_916 (by decide) ?_
  refine lv_iadd hx hb dL_law_917 ?_
  refine va_sld hx hb hX hbl hbA M.2.2.1 (hin 2 (by decide)) dL_law_918 ?_
  refine vtopi (hval 2 (by decide)) ?_
  refine lv_aload_n hx hb dL_law_919 rfl (lv_at hl 0 rfl) ?_
  refine lv_iload_n hx hb dL_law_920 rfl (lv_at hl 3 rfl) ?_
  refine lv_iconst (v := (3 : Int32)) hx hb dL_law_921 (by decide) ?_
  refine lv_iadd hx hb dL_law_922 ?_
  refine va_sld hx hb hX hbl hbA M.2.2.1 (hin 3 (by decide)) dL_law_923 ?_
  refine vtopi (hval 3 (by decide)) ?_
  refine g2_CMI (r_V (rest := []) (As := [.int (g 1), .int (g 2), .int (g 3)]) C0 cb_L_91 M.1 (hI _ _ hInv).1 (tX9_front l D cy adC AC h1) (pre_R C0 M.1) hl dL_law_924 rfl (Nat.le_of_ble_eq_true rfl) ⟨rfl, rfl⟩ ⟨Nat.le_of_ble_eq_true rfl, Nat.le_of_ble_eq_true rfl⟩ ⟨by show _ ≤ 600000; omega, by show _ ≤ 7302250; omega⟩ rfl) hL M (fun H locs M => ?_)
  refine lv_aload_n hx hb dL_law_927 rfl (lv_at hl 2 rfl) ?_
  refine lv_aload_n hx hb dL_law_928 rfl (lv_at hl 0 rfl) ?_
  refine lv_iload_n hx hb dL_law_929 rfl (lv_at hl 3 rfl) ?_
  refine lv_iconst (v := (1 : Int32)) hx hb dL_law_930 (by decide) ?_
  refine lv_iadd hx hb dL_law_931 ?_
  refine va_sld hx hb hX hbl hbA M.2.2.1 (hin 1 (by decide)) dL_law_932 ?_
  refine vtopi (hval 1 (by decide)) ?_
  refine lv_aload_n hx hb dL_law_933 rfl (lv_at hl 0 rfl) ?_
  refine lv_iload_n hx hb dL_law_934 rfl (lv_at hl 3 rfl) ?_
  refine lv_iconst (v := (2 : Int32)) hx hb dL_law_935 (by decide) ?_
  refine lv_iadd hx hb dL_law_936 ?_
  refine va_sld hx hb hX hbl hbA M.2.2.1 (hin 2 (by decide)) dL_law_937 ?_
  refine vtopi (hval 2 (by decide)) ?_
  refine lv_aload_n hx hb dL_law_938 rfl (lv_at hl 0 rfl) ?_
  refine lv_iload_n hx hb dL_law_939 rfl (lv_at hl 3 rfl) ?_
  refine lv_iconst (v := (3 : Int32)) hx hb dL_law_940 (by decide) ?_
  refine lv_iadd hx hb dL_law_941 ?_
  refine va_sld hx hb hX hbl hbA M.2.2.1 (hin 3 (by decide)) dL_law_942 ?_
  refine vtopi (hval 3 (by decide)) ?_
  refine g2_RMI (r_V (rest := [.int r]) (As := [.int (g 1), .int (g 2), .int (g 3)]) C0 cb_L_94 M.2.1 (hI _ _ hInv).2 (tX10_front l D cy adR AR h2) (pre_R C0 M.2.1) hl dL_law_943 rfl (Nat.le_of_ble_eq_true rfl) ⟨rfl, rfl⟩ ⟨Nat.le_of_ble_eq_true rfl, Nat.le_of_ble_eq_true rfl⟩ ⟨by show _ ≤ 600000; omega, by show _ ≤ 7302250; omega⟩ rfl) hL M (fun H locs M => ?_)
  refine lv_icmp_eq (tgt := 1613) hx hb dL_law_946 (by decide) (fun hc => ?_) (fun hc => absurd rfl hc)
  refine W.widen (k := cells + 5) (n := slots + 64) (by omega) (by omega) ?_
  exact K _ _ _ _ h3 M
/-- case 19: yOf -/
def E_19 (Inv : MS → MS → Prop) : Prop := ∀ (SC SR : MS) (g : Nat → Int32), Inv SC SR → ∃ (r : Int32), fX9_yOf SC 1 (g 1) (g 2) (g 3) = some r ∧ fX10_yOf SR 1 (g 1) (g 2) (g 3) = some r ∧ Inv SC SR
set_option maxHeartbeats 4000000 in
set_option maxRecDepth 100000 in
theorem wLaw_19 {p : Program} {l : Launch} {e : Env} {s : State} {m : MethodId} {below : List Frame} {meth : Method} {c : Code} {D : va_G} {cy : Nat → ClassId} {adC adR : Nat → Nat} {AC AR : Nat → Prop} {K0 b L : Nat} {xs : Nat → Int32} {Inv : MS → MS → Prop} (C0 : CX p s m #[Value.ref b] meth c R_law cL_law 4 D cy) (hX : va_X b L xs s s.heap) (hbl : b < s.heap.size) (hbA : ¬ s.heap.size ≤ b) (hE : EX adC (fun q => s.heap.size ≤ q) s) (hL : LA s.heap AC AR) (hA : ∀ k, 0 < k → AC (adC k)) (hs : ∀ k, K0 ≤ k → adC (k + 1) + 1 = adC (k + 2)) (hI : ∀ SC SR, Inv SC SR → o_is SC 1 10 = some 1 ∧ o_is SR 1 11 = some 1) {SC SR : MS} (hInv : Inv SC SR) {H : Heap} {locs : List Loc} {cells slots : Nat} (M : LW D cy adC AC adR AR s.heap K0 SC SR H locs) (hcc : cells + 5 ≤ 600000 ∧ slots + 64 ≤ 7302250) {x3 : Int32} {g : Nat → Int32} (hin : ∀ j, j < 9 → vp_in (x3 + nI j) L) (hval : ∀ j, j < 9 → xs (x3 + nI j).toNatClampNeg = g j) {ls : Array Slot} (hl : lv_has ls 4 [(0, .ref b), (1, .ref (adC 1)), (2, .ref (adR 1)), (3, .int x3)]) (hE0 : E_19 Inv)
    (K : ∀ (SC' SR' : MS) (H : Heap) (locs : List Loc), Inv SC' SR' → LW D cy adC AC adR AR s.heap K0 SC' SR' H locs → W p l e room_1 s m #[Value.ref b] below meth c H locs (cells + 5) (slots + 64) (lw_Z below #[Value.ref b] s) (F0 m 1613 ls [])) : W p l e room_1 s m #[Value.ref b] below meth c H locs cells slots (lw_Z below #[Value.ref b] s) (F0 m 951 ls []) := by
  obtain ⟨hx, hb, -, hown, -, hts, -⟩ := id C0
  obtain ⟨r, h1, h2, h3⟩ := hE0 SC SR g hInv
  refine lv_aload_n hx hb dL_law_951 rfl (lv_at hl 1 rfl) ?_
  refine lv_aload_n hx hb dL_law_952 rfl (lv_at hl 0 rfl) ?_
  refine lv_iload_n hx hb dL_law_953 rfl (lv_at hl 3 rfl) ?_
  refine lv_iconst (v := (1 : Int32)) hx hb dL_law_954 (by decide) ?_
  refine lv_iadd hx hb dL_law_955 ?_
  refine va_sld hx hb hX hbl hbA M.2.2.1 (hin 1 (by decide)) dL_law_956 ?_
  refine vtopi (hval 1 (by decide)) ?_
  refine lv_aload_n hx hb dL_law_957 rfl (lv_at hl 0 rfl) ?_
  refine lv_iload_n hx hb dL_law_958 rfl (lv_at hl 3 rfl) ?_
  refine lv_iconst (v := (2 : Int32)) hx hb dL_law_959 (by decide) ?_
  refine lv_iadd hx hb dL_law_960 ?_
  refine va_sld hx hb hX hbl hbA M.2.2.1 (hin 2 (by decide)) dL_law_961 ?_
  refine vtopi (hval 2 (by decide)) ?_
  refine lv_aload_n hx hb dL_law_962 rfl (lv_at hl 0 rfl) ?_
  refine lv_iload_n hx hb dL_law_963 rfl (lv_at hl 3 rfl) ?_
  refine lv_iconst (v := (3 : Int32)) hx hb dL_law_964 (by decide) ?_
  refine lv_iadd hx hb dL_law_965 ?_
  refine va_sld hx hb hX hbl hbA M.2.2.1 (hin 3 (by decide)) dL_law_966 ?_
  refine vtopi (hval 3 (by decide)) ?_
  refine go_SI (r_V (rest := []) (As := [.int (g 1), .int (g 2), .int (g 3)]) C0 cb_L_95 M.1 (hI _ _ hInv).1 (tX9_yOf l D cy adC AC h1) (pre_R C0 M.1) hl dL_law_967 rfl (Nat.le_of_ble_eq_true rfl) ⟨rfl, rfl⟩ ⟨Nat.le_of_ble_eq_true rfl, Nat.le_of_ble_eq_true rfl⟩ ⟨by show _ ≤ 600000; omega, by show _ ≤ 7302250; omega⟩ rfl) ?_
  refine lv_aload_n hx hb dL_law_970 rfl (lv_at hl 2 rfl) ?_
  refine lv_aload_n hx hb dL_law_971 rfl (lv_at hl 0 rfl) ?_
  refine lv_iload_n hx hb dL_law_972 rfl (lv_at hl 3 rfl) ?_
  refine lv_iconst (v := (1 : Int32)) hx hb dL_law_973 (by decide) ?_
  refine lv_iadd hx hb dL_law_974 ?_
  refine va_sld hx hb hX hbl hbA M.2.2.1 (hin 1 (by decide)) dL_law_975 ?_
  refine vtopi (hval 1 (by decide)) ?_
  refine lv_aload_n hx hb dL_law_976 rfl (lv_at hl 0 rfl) ?_
  refine lv_iload_n hx hb dL_law_977 rfl (lv_at hl 3 rfl) ?_
  refine lv_iconst (v := (2 : Int32)) hx hb dL_law_978 (by decide) ?_
  refine lv_iadd hx hb dL_law_979 ?_
  refine va_sld hx hb hX hbl hbA M.2.2.1 (hin 2 (by decide)) dL_law_980 ?_
  refine vtopi (hval 2 (by decide)) ?_
  refine lv_aload_n hx hb dL_law_981 rfl (lv_at hl 0 rfl) ?_
  refine lv_iload_n hx hb dL_law_982 rfl (lv_at hl 3 rfl) ?_
  refine lv_iconst (v := (3 : Int32)) hx hb dL_law_983 (by decide) ?_
  refine lv_iadd hx hb dL_law_984 ?_
  refine va_sld hx hb hX hbl hbA M.2.2.1 (hin 3 (by decide)) dL_law_985 ?_
  refine vtopi (hval 3 (by decide)) ?_
  refine go_SI (r_V (rest := [.int r]) (As := [.int (g 1), .int (g 2), .int (g 3)]) C0 cb_L_98 M.2.1 (hI _ _ hInv).2 (tX10_yOf l D cy adR AR h2) (pre_R C0 M.2.1) hl dL_law_986 rfl (Nat.le_of_ble_eq_true rfl) ⟨rfl, rfl⟩ ⟨Nat.le_of_ble_eq_true rfl, Nat.le_of_ble_eq_true rfl⟩ ⟨by show _ ≤ 600000; omega, by show _ ≤ 7302250; omega⟩ rfl) ?_
  refine lv_icmp_eq (tgt := 1613) hx hb dL_law_989 (by decide) (fun hc => ?_) (fun hc => absurd rfl hc)
  refine W.widen (k := cells + 5) (n := slots + 64) (by omega) (by omega) ?_
  exact K _ _ _ _ h3 M
/-- case 20: joining -/
def E_20 (Inv : MS → MS → Prop) : Prop := ∀ (SC SR : MS) (g : Nat → Int32), Inv SC SR → ∃ (r : Int32) (SC' : MS) (SR' : MS), fX9_joining SC 1 = some (r, SC') ∧ fX10_joining SR 1 = some (r, SR') ∧ Inv SC' SR'
set_option maxHeartbeats 4000000 in
set_option maxRecDepth 100000 in
theorem wLaw_20 {p : Program} {l : Launch} {e : Env} {s : State} {m : MethodId} {below : List Frame} {meth : Method} {c : Code} {D : va_G} {cy : Nat → ClassId} {adC adR : Nat → Nat} {AC AR : Nat → Prop} {K0 b L : Nat} {xs : Nat → Int32} {Inv : MS → MS → Prop} (C0 : CX p s m #[Value.ref b] meth c R_law cL_law 4 D cy) (hX : va_X b L xs s s.heap) (hbl : b < s.heap.size) (hbA : ¬ s.heap.size ≤ b) (hE : EX adC (fun q => s.heap.size ≤ q) s) (hL : LA s.heap AC AR) (hA : ∀ k, 0 < k → AC (adC k)) (hs : ∀ k, K0 ≤ k → adC (k + 1) + 1 = adC (k + 2)) (hI : ∀ SC SR, Inv SC SR → o_is SC 1 10 = some 1 ∧ o_is SR 1 11 = some 1) {SC SR : MS} (hInv : Inv SC SR) {H : Heap} {locs : List Loc} {cells slots : Nat} (M : LW D cy adC AC adR AR s.heap K0 SC SR H locs) (hcc : cells + 5 ≤ 600000 ∧ slots + 64 ≤ 7302250) {x3 : Int32} {g : Nat → Int32} (hin : ∀ j, j < 9 → vp_in (x3 + nI j) L) (hval : ∀ j, j < 9 → xs (x3 + nI j).toNatClampNeg = g j) {ls : Array Slot} (hl : lv_has ls 4 [(0, .ref b), (1, .ref (adC 1)), (2, .ref (adR 1)), (3, .int x3)]) (hE0 : E_20 Inv)
    (K : ∀ (SC' SR' : MS) (H : Heap) (locs : List Loc), Inv SC' SR' → LW D cy adC AC adR AR s.heap K0 SC' SR' H locs → W p l e room_1 s m #[Value.ref b] below meth c H locs (cells + 5) (slots + 64) (lw_Z below #[Value.ref b] s) (F0 m 1613 ls [])) : W p l e room_1 s m #[Value.ref b] below meth c H locs cells slots (lw_Z below #[Value.ref b] s) (F0 m 994 ls []) := by
  obtain ⟨hx, hb, -, hown, -, hts, -⟩ := id C0
  obtain ⟨r, SC', SR', h1, h2, h3⟩ := hE0 SC SR g hInv
  refine lv_aload_n hx hb dL_law_994 rfl (lv_at hl 1 rfl) ?_
  refine g2_CMI (r_V (rest := []) (As := []) C0 cb_L_99 M.1 (hI _ _ hInv).1 (tX9_joining l D cy adC AC h1) (pre_R C0 M.1) hl dL_law_995 rfl (Nat.le_of_ble_eq_true rfl) ⟨rfl, rfl⟩ ⟨Nat.le_of_ble_eq_true rfl, Nat.le_of_ble_eq_true rfl⟩ ⟨by show _ ≤ 600000; omega, by show _ ≤ 7302250; omega⟩ rfl) hL M (fun H locs M => ?_)
  refine lv_aload_n hx hb dL_law_998 rfl (lv_at hl 2 rfl) ?_
  refine g2_RMI (r_V (rest := [.int r]) (As := []) C0 cb_L_102 M.2.1 (hI _ _ hInv).2 (tX10_joining l D cy adR AR h2) (pre_R C0 M.2.1) hl dL_law_999 rfl (Nat.le_of_ble_eq_true rfl) ⟨rfl, rfl⟩ ⟨Nat.le_of_ble_eq_true rfl, Nat.le_of_ble_eq_true rfl⟩ ⟨by show _ ≤ 600000; omega, by show _ ≤ 7302250; omega⟩ rfl) hL M (fun H locs M => ?_)
  refine lv_icmp_eq (tgt := 1613) hx hb dL_law_1002 (by decide) (fun hc => ?_) (fun hc => absurd rfl hc)
  refine W.widen (k := cells + 5) (n := slots + 64) (by omega) (by omega) ?_
  exact K _ _ _ _ h3 M
/-- case 21: night -/
def E_21 (Inv : MS → MS → Prop) : Prop := ∀ (SC SR : MS) (g : Nat → Int32), Inv SC SR → ∃ (r : Int32) (SC' : MS) (SR' : MS), fX9_night SC 1 = some (r, SC') ∧ fX10_night SR 1 = some (r, SR') ∧ Inv SC' SR'
set_option maxHeartbeats 4000000 in
set_option maxRecDepth 100000 in
theorem wLaw_21 {p : Program} {l : Launch} {e : Env} {s : State} {m : MethodId} {below : List Frame} {meth : Method} {c : Code} {D : va_G} {cy : Nat → ClassId} {adC adR : Nat → Nat} {AC AR : Nat → Prop} {K0 b L : Nat} {xs : Nat → Int32} {Inv : MS → MS → Prop} (C0 : CX p s m #[Value.ref b] meth c R_law cL_law 4 D cy) (hX : va_X b L xs s s.heap) (hbl : b < s.heap.size) (hbA : ¬ s.heap.size ≤ b) (hE : EX adC (fun q => s.heap.size ≤ q) s) (hL : LA s.heap AC AR) (hA : ∀ k, 0 < k → AC (adC k)) (hs : ∀ k, K0 ≤ k → adC (k + 1) + 1 = adC (k + 2)) (hI : ∀ SC SR, Inv SC SR → o_is SC 1 10 = some 1 ∧ o_is SR 1 11 = some 1) {SC SR : MS} (hInv : Inv SC SR) {H : Heap} {locs : List Loc} {cells slots : Nat} (M : LW D cy adC AC adR AR s.heap K0 SC SR H locs) (hcc : cells + 5 ≤ 600000 ∧ slots + 64 ≤ 7302250) {x3 : Int32} {g : Nat → Int32} (hin : ∀ j, j < 9 → vp_in (x3 + nI j) L) (hval : ∀ j, j < 9 → xs (x3 + nI j).toNatClampNeg = g j) {ls : Array Slot} (hl : lv_has ls 4 [(0, .ref b), (1, .ref (adC 1)), (2, .ref (adR 1)), (3, .int x3)]) (hE0 : E_21 Inv)
    (K : ∀ (SC' SR' : MS) (H : Heap) (locs : List Loc), Inv SC' SR' → LW D cy adC AC adR AR s.heap K0 SC' SR' H locs → W p l e room_1 s m #[Value.ref b] below meth c H locs (cells + 5) (slots + 64) (lw_Z below #[Value.ref b] s) (F0 m 1613 ls [])) : W p l e room_1 s m #[Value.ref b] below meth c H locs cells slots (lw_Z below #[Value.ref b] s) (F0 m 1007 ls []) := by
  obtain ⟨hx, hb, -, hown, -, hts, -⟩ := id C0
  obtain ⟨r, SC', SR', h1, h2, h3⟩ := hE0 SC SR g hInv
  refine lv_aload_n hx hb dL_law_1007 rfl (lv_at hl 1 rfl) ?_
  refine g2_CMI (r_V (rest := []) (As := []) C0 cb_L_103 M.1 (hI _ _ hInv).1 (tX9_night l D cy adC AC h1) (pre_R C0 M.1) hl dL_law_1008 rfl (Nat.le_of_ble_eq_true rfl) ⟨rfl, rfl⟩ ⟨Nat.le_of_ble_eq_true rfl, Nat.le_of_ble_eq_true rfl⟩ ⟨by show _ ≤ 600000; omega, by show _ ≤ 7302250; omega⟩ rfl) hL M (fun H locs M => ?_)
  refine lv_aload_n hx hb dL_law_1011 rfl (lv_at hl 2 rfl) ?_
  refine g2_RMI (r_V (rest := [.int r]) (As := []) C0 cb_L_106 M.2.1 (hI _ _ hInv).2 (tX10_night l D cy adR AR h2) (pre_R C0 M.2.1) hl dL_law_1012 rfl (Nat.le_of_ble_eq_true rfl) ⟨rfl, rfl⟩ ⟨Nat.le_of_ble_eq_true rfl, Nat.le_of_ble_eq_true rfl⟩ ⟨by show _ ≤ 600000; omega, by show _ ≤ 7302250; omega⟩ rfl) hL M (fun H locs M => ?_)
  refine lv_icmp_eq (tgt := 1613) hx hb dL_law_1015 (by decide) (fun hc => ?_) (fun hc => absurd rfl hc)
  refine W.widen (k := cells + 5) (n := slots + 64) (by omega) (by omega) ?_
  exact K _ _ _ _ h3 M
/-- case 22: prognosis -/
def E_22 (Inv : MS → MS → Prop) : Prop := ∀ (SC SR : MS) (g : Nat → Int32), Inv SC SR → ∃ (r : Int32) (SC' : MS) (SR' : MS), fX9_prognosis SC 1 (g 1) (g 2) (g 3) (g 4) = some (r, SC') ∧ fX10_prognosis SR 1 (g 1) (g 2) (g 3) (g 4) = some (r, SR') ∧ Inv SC' SR'
set_option maxHeartbeats 4000000 in
set_option maxRecDepth 100000 in
theorem wLaw_22 {p : Program} {l : Launch} {e : Env} {s : State} {m : MethodId} {below : List Frame} {meth : Method} {c : Code} {D : va_G} {cy : Nat → ClassId} {adC adR : Nat → Nat} {AC AR : Nat → Prop} {K0 b L : Nat} {xs : Nat → Int32} {Inv : MS → MS → Prop} (C0 : CX p s m #[Value.ref b] meth c R_law cL_law 4 D cy) (hX : va_X b L xs s s.heap) (hbl : b < s.heap.size) (hbA : ¬ s.heap.size ≤ b) (hE : EX adC (fun q => s.heap.size ≤ q) s) (hL : LA s.heap AC AR) (hA : ∀ k, 0 < k → AC (adC k)) (hs : ∀ k, K0 ≤ k → adC (k + 1) + 1 = adC (k + 2)) (hI : ∀ SC SR, Inv SC SR → o_is SC 1 10 = some 1 ∧ o_is SR 1 11 = some 1) {SC SR : MS} (hInv : Inv SC SR) {H : Heap} {locs : List Loc} {cells slots : Nat} (M : LW D cy adC AC adR AR s.heap K0 SC SR H locs) (hcc : cells + 5 ≤ 600000 ∧ slots + 64 ≤ 7302250) {x3 : Int32} {g : Nat → Int32} (hin : ∀ j, j < 9 → vp_in (x3 + nI j) L) (hval : ∀ j, j < 9 → xs (x3 + nI j).toNatClampNeg = g j) {ls : Array Slot} (hl : lv_has ls 4 [(0, .ref b), (1, .ref (adC 1)), (2, .ref (adR 1)), (3, .int x3)]) (hE0 : E_22 Inv)
    (K : ∀ (SC' SR' : MS) (H : Heap) (locs : List Loc), Inv SC' SR' → LW D cy adC AC adR AR s.heap K0 SC' SR' H locs → W p l e room_1 s m #[Value.ref b] below meth c H locs (cells + 5) (slots + 64) (lw_Z below #[Value.ref b] s) (F0 m 1613 ls [])) : W p l e room_1 s m #[Value.ref b] below meth c H locs cells slots (lw_Z below #[Value.ref b] s) (F0 m 1020 ls []) := by
  obtain ⟨hx, hb, -, hown, -, hts, -⟩ := id C0
  obtain ⟨r, SC', SR', h1, h2, h3⟩ := hE0 SC SR g hInv
  refine lv_aload_n hx hb dL_law_1020 rfl (lv_at hl 1 rfl) ?_
  refine lv_aload_n hx hb dL_law_1021 rfl (lv_at hl 0 rfl) ?_
  refine lv_iload_n hx hb dL_law_1022 rfl (lv_at hl 3 rfl) ?_
  refine lv_iconst (v := (1 : Int32)) hx hb dL_law_1023 (by decide) ?_
  refine lv_iadd hx hb dL_law_1024 ?_
  refine va_sld hx hb hX hbl hbA M.2.2.1 (hin 1 (by decide)) dL_law_1025 ?_
  refine vtopi (hval 1 (by decide)) ?_
  refine lv_aload_n hx hb dL_law_1026 rfl (lv_at hl 0 rfl) ?_
  refine lv_iload_n hx hb dL_law_1027 rfl (lv_at hl 3 rfl) ?_
  refine lv_iconst (v := (2 : Int32)) hx hb dL_law_1028 (by decide) ?_
  refine lv_iadd hx hb dL_law_1029 ?_
  refine va_sld hx hb hX hbl hbA M.2.2.1 (hin 2 (by decide)) dL_law_1030 ?_
  refine vtopi (hval 2 (by decide)) ?_
  refine lv_aload_n hx hb dL_law_1031 rfl (lv_at hl 0 rfl) ?_
  refine lv_iload_n hx hb dL_law_1032 rfl (lv_at hl 3 rfl) ?_
  refine lv_iconst (v := (3 : Int32)) hx hb dL_law_1033 (by decide) ?_
  refine lv_iadd hx hb dL_law_1034 ?_
  refine va_sld hx hb hX hbl hbA M.2.2.1 (hin 3 (by decide)) dL_law_1035 ?_
  refine vtopi (hval 3 (by decide)) ?_
  refine lv_aload_n hx hb dL_law_1036 rfl (lv_at hl 0 rfl) ?_
  refine lv_iload_n hx hb dL_law_1037 rfl (lv_at hl 3 rfl) ?_
  refine lv_iconst (v := (4 : Int32)) hx hb dL_law_1038 (by decide) ?_
  refine lv_iadd hx hb dL_law_1039 ?_
  refine va_sld hx hb hX hbl hbA M.2.2.1 (hin 4 (by decide)) dL_law_1040 ?_
  refine vtopi (hval 4 (by decide)) ?_
  refine g2_CMI (r_V (rest := []) (As := [.int (g 1), .int (g 2), .int (g 3), .int (g 4)]) C0 cb_L_107 M.1 (hI _ _ hInv).1 (tX9_prognosis l D cy adC AC h1) (pre_R C0 M.1) hl dL_law_1041 rfl (Nat.le_of_ble_eq_true rfl) ⟨rfl, rfl⟩ ⟨Nat.le_of_ble_eq_true rfl, Nat.le_of_ble_eq_true rfl⟩ ⟨by show _ ≤ 600000; omega, by show _ ≤ 7302250; omega⟩ rfl) hL M (fun H locs M => ?_)
  refine lv_aload_n hx hb dL_law_1044 rfl (lv_at hl 2 rfl) ?_
  refine lv_aload_n hx hb dL_law_1045 rfl (lv_at hl 0 rfl) ?_
  refine lv_iload_n hx hb dL_law_1046 rfl (lv_at hl 3 rfl) ?_
  refine lv_iconst (v := (1 : Int32)) hx hb dL_law_1047 (by decide) ?_
  refine lv_iadd hx hb dL_law_1048 ?_
  refine va_sld hx hb hX hbl hbA M.2.2.1 (hin 1 (by decide)) dL_law_1049 ?_
  refine vtopi (hval 1 (by decide)) ?_
  refine lv_aload_n hx hb dL_law_1050 rfl (lv_at hl 0 rfl) ?_
  refine lv_iload_n hx hb dL_law_1051 rfl (lv_at hl 3 rfl) ?_
  refine lv_iconst (v := (2 : Int32)) hx hb dL_law_1052 (by decide) ?_
  refine lv_iadd hx hb dL_law_1053 ?_
  refine va_sld hx hb hX hbl hbA M.2.2.1 (hin 2 (by decide)) dL_law_1054 ?_
  refine vtopi (hval 2 (by decide)) ?_
  refine lv_aload_n hx hb dL_law_1055 rfl (lv_at hl 0 rfl) ?_
  refine lv_iload_n hx hb dL_law_1056 rfl (lv_at hl 3 rfl) ?_
  refine lv_iconst (v := (3 : Int32)) hx hb dL_law_1057 (by decide) ?_
  refine lv_iadd hx hb dL_law_1058 ?_
  refine va_sld hx hb hX hbl hbA M.2.2.1 (hin 3 (by decide)) dL_law_1059 ?_
  refine vtopi (hval 3 (by decide)) ?_
  refine lv_aload_n hx hb dL_law_1060 rfl (lv_at hl 0 rfl) ?_
  refine lv_iload_n hx hb dL_law_1061 rfl (lv_at hl 3 rfl) ?_
  refine lv_iconst (v := (4 : Int32)) hx hb dL_law_1062 (by decide) ?_
  refine lv_iadd hx hb dL_law_1063 ?_
  refine va_sld hx hb hX hbl hbA M.2.2.1 (hin 4 (by decide)) dL_law_1064 ?_
  refine vtopi (hval 4 (by decide)) ?_
  refine g2_RMI (r_V (rest := [.int r]) (As := [.int (g 1), .int (g 2), .int (g 3), .int (g 4)]) C0 cb_L_111 M.2.1 (hI _ _ hInv).2 (tX10_prognosis l D cy adR AR h2) (pre_R C0 M.2.1) hl dL_law_1065 rfl (Nat.le_of_ble_eq_true rfl) ⟨rfl, rfl⟩ ⟨Nat.le_of_ble_eq_true rfl, Nat.le_of_ble_eq_true rfl⟩ ⟨by show _ ≤ 600000; omega, by show _ ≤ 7302250; omega⟩ rfl) hL M (fun H locs M => ?_)
  refine lv_icmp_eq (tgt := 1613) hx hb dL_law_1068 (by decide) (fun hc => ?_) (fun hc => absurd rfl hc)
  refine W.widen (k := cells + 5) (n := slots + 64) (by omega) (by omega) ?_
  exact K _ _ _ _ h3 M
/-- case 23: keep -/
def E_23 (Inv : MS → MS → Prop) : Prop := ∀ (SC SR : MS) (g : Nat → Int32), Inv SC SR → ∃ (r : Int32) (SC' : MS) (SR' : MS), fX9_keep SC 1 (g 1) = some (r, SC') ∧ fX10_keep SR 1 (g 1) = some (r, SR') ∧ Inv SC' SR'
set_option maxHeartbeats 4000000 in
set_option maxRecDepth 100000 in
theorem wLaw_23 {p : Program} {l : Launch} {e : Env} {s : State} {m : MethodId} {below : List Frame} {meth : Method} {c : Code} {D : va_G} {cy : Nat → ClassId} {adC adR : Nat → Nat} {AC AR : Nat → Prop} {K0 b L : Nat} {xs : Nat → Int32} {Inv : MS → MS → Prop} (C0 : CX p s m #[Value.ref b] meth c R_law cL_law 4 D cy) (hX : va_X b L xs s s.heap) (hbl : b < s.heap.size) (hbA : ¬ s.heap.size ≤ b) (hE : EX adC (fun q => s.heap.size ≤ q) s) (hL : LA s.heap AC AR) (hA : ∀ k, 0 < k → AC (adC k)) (hs : ∀ k, K0 ≤ k → adC (k + 1) + 1 = adC (k + 2)) (hI : ∀ SC SR, Inv SC SR → o_is SC 1 10 = some 1 ∧ o_is SR 1 11 = some 1) {SC SR : MS} (hInv : Inv SC SR) {H : Heap} {locs : List Loc} {cells slots : Nat} (M : LW D cy adC AC adR AR s.heap K0 SC SR H locs) (hcc : cells + 5 ≤ 600000 ∧ slots + 64 ≤ 7302250) {x3 : Int32} {g : Nat → Int32} (hin : ∀ j, j < 9 → vp_in (x3 + nI j) L) (hval : ∀ j, j < 9 → xs (x3 + nI j).toNatClampNeg = g j) {ls : Array Slot} (hl : lv_has ls 4 [(0, .ref b), (1, .ref (adC 1)), (2, .ref (adR 1)), (3, .int x3)]) (hE0 : E_23 Inv)
    (K : ∀ (SC' SR' : MS) (H : Heap) (locs : List Loc), Inv SC' SR' → LW D cy adC AC adR AR s.heap K0 SC' SR' H locs → W p l e room_1 s m #[Value.ref b] below meth c H locs (cells + 5) (slots + 64) (lw_Z below #[Value.ref b] s) (F0 m 1613 ls [])) : W p l e room_1 s m #[Value.ref b] below meth c H locs cells slots (lw_Z below #[Value.ref b] s) (F0 m 1073 ls []) := by
  obtain ⟨hx, hb, -, hown, -, hts, -⟩ := id C0
  obtain ⟨r, SC', SR', h1, h2, h3⟩ := hE0 SC SR g hInv
  refine lv_aload_n hx hb dL_law_1073 rfl (lv_at hl 1 rfl) ?_
  refine lv_aload_n hx hb dL_law_1074 rfl (lv_at hl 0 rfl) ?_
  refine lv_iload_n hx hb dL_law_1075 rfl (lv_at hl 3 rfl) ?_
  refine lv_iconst (v := (1 : Int32)) hx hb dL_law_1076 (by decide) ?_
  refine lv_iadd hx hb dL_law_1077 ?_
  refine va_sld hx hb hX hbl hbA M.2.2.1 (hin 1 (by decide)) dL_law_1078 ?_
  refine vtopi (hval 1 (by decide)) ?_
  refine g2_CMI (r_V (rest := []) (As := [.int (g 1)]) C0 cb_L_112 M.1 (hI _ _ hInv).1 (tX9_keep l D cy adC AC h1) (pre_R C0 M.1) hl dL_law_1079 rfl (Nat.le_of_ble_eq_true rfl) ⟨rfl, rfl⟩ ⟨Nat.le_of_ble_eq_true rfl, Nat.le_of_ble_eq_true rfl⟩ ⟨by show _ ≤ 600000; omega, by show _ ≤ 7302250; omega⟩ rfl) hL M (fun H locs M => ?_)
  refine lv_aload_n hx hb dL_law_1082 rfl (lv_at hl 2 rfl) ?_
  refine lv_aload_n hx hb dL_law_1083 rfl (lv_at hl 0 rfl) ?_
  refine lv_iload_n hx hb dL_law_1084 rfl (lv_at hl 3 rfl) ?_
  refine lv_iconst (v := (1 : Int32)) hx hb dL_law_1085 (by decide) ?_
  refine lv_iadd hx hb dL_law_1086 ?_
  refine va_sld hx hb hX hbl hbA M.2.2.1 (hin 1 (by decide)) dL_law_1087 ?_
  refine vtopi (hval 1 (by decide)) ?_
  refine g2_RMI (r_V (rest := [.int r]) (As := [.int (g 1)]) C0 cb_L_115 M.2.1 (hI _ _ hInv).2 (tX10_keep l D cy adR AR h2) (pre_R C0 M.2.1) hl dL_law_1088 rfl (Nat.le_of_ble_eq_true rfl) ⟨rfl, rfl⟩ ⟨Nat.le_of_ble_eq_true rfl, Nat.le_of_ble_eq_true rfl⟩ ⟨by show _ ≤ 600000; omega, by show _ ≤ 7302250; omega⟩ rfl) hL M (fun H locs M => ?_)
  refine lv_icmp_eq (tgt := 1613) hx hb dL_law_1091 (by decide) (fun hc => ?_) (fun hc => absurd rfl hc)
  refine W.widen (k := cells + 5) (n := slots + 64) (by omega) (by omega) ?_
  exact K _ _ _ _ h3 M
/-- case 24: beside -/
def E_24 (Inv : MS → MS → Prop) : Prop := ∀ (SC SR : MS) (g : Nat → Int32), Inv SC SR → ∃ (r : Int64) (SC' : MS) (SR' : MS), fX9_beside SC 1 (g 1) (g 2) (g 3) (g 4) = some (r, SC') ∧ fX10_beside SR 1 (g 1) (g 2) (g 3) (g 4) = some (r, SR') ∧ Inv SC' SR'
set_option maxHeartbeats 4000000 in
set_option maxRecDepth 100000 in
theorem wLaw_24 {p : Program} {l : Launch} {e : Env} {s : State} {m : MethodId} {below : List Frame} {meth : Method} {c : Code} {D : va_G} {cy : Nat → ClassId} {adC adR : Nat → Nat} {AC AR : Nat → Prop} {K0 b L : Nat} {xs : Nat → Int32} {Inv : MS → MS → Prop} (C0 : CX p s m #[Value.ref b] meth c R_law cL_law 4 D cy) (hX : va_X b L xs s s.heap) (hbl : b < s.heap.size) (hbA : ¬ s.heap.size ≤ b) (hE : EX adC (fun q => s.heap.size ≤ q) s) (hL : LA s.heap AC AR) (hA : ∀ k, 0 < k → AC (adC k)) (hs : ∀ k, K0 ≤ k → adC (k + 1) + 1 = adC (k + 2)) (hI : ∀ SC SR, Inv SC SR → o_is SC 1 10 = some 1 ∧ o_is SR 1 11 = some 1) {SC SR : MS} (hInv : Inv SC SR) {H : Heap} {locs : List Loc} {cells slots : Nat} (M : LW D cy adC AC adR AR s.heap K0 SC SR H locs) (hcc : cells + 5 ≤ 600000 ∧ slots + 64 ≤ 7302250) {x3 : Int32} {g : Nat → Int32} (hin : ∀ j, j < 9 → vp_in (x3 + nI j) L) (hval : ∀ j, j < 9 → xs (x3 + nI j).toNatClampNeg = g j) {ls : Array Slot} (hl : lv_has ls 4 [(0, .ref b), (1, .ref (adC 1)), (2, .ref (adR 1)), (3, .int x3)]) (hE0 : E_24 Inv)
    (K : ∀ (SC' SR' : MS) (H : Heap) (locs : List Loc), Inv SC' SR' → LW D cy adC AC adR AR s.heap K0 SC' SR' H locs → W p l e room_1 s m #[Value.ref b] below meth c H locs (cells + 5) (slots + 64) (lw_Z below #[Value.ref b] s) (F0 m 1613 ls [])) : W p l e room_1 s m #[Value.ref b] below meth c H locs cells slots (lw_Z below #[Value.ref b] s) (F0 m 1096 ls []) := by
  obtain ⟨hx, hb, -, hown, -, hts, -⟩ := id C0
  obtain ⟨r, SC', SR', h1, h2, h3⟩ := hE0 SC SR g hInv
  refine lv_aload_n hx hb dL_law_1096 rfl (lv_at hl 1 rfl) ?_
  refine lv_aload_n hx hb dL_law_1097 rfl (lv_at hl 0 rfl) ?_
  refine lv_iload_n hx hb dL_law_1098 rfl (lv_at hl 3 rfl) ?_
  refine lv_iconst (v := (1 : Int32)) hx hb dL_law_1099 (by decide) ?_
  refine lv_iadd hx hb dL_law_1100 ?_
  refine va_sld hx hb hX hbl hbA M.2.2.1 (hin 1 (by decide)) dL_law_1101 ?_
  refine vtopi (hval 1 (by decide)) ?_
  refine lv_aload_n hx hb dL_law_1102 rfl (lv_at hl 0 rfl) ?_
  refine lv_iload_n hx hb dL_law_1103 rfl (lv_at hl 3 rfl) ?_
  refine lv_iconst (v := (2 : Int32)) hx hb dL_law_1104 (by decide) ?_
  refine lv_iadd hx hb dL_law_1105 ?_
  refine va_sld hx hb hX hbl hbA M.2.2.1 (hin 2 (by decide)) dL_law_1106 ?_
  refine vtopi (hval 2 (by decide)) ?_
  refine lv_aload_n hx hb dL_law_1107 rfl (lv_at hl 0 rfl) ?_
  refine lv_iload_n hx hb dL_law_1108 rfl (lv_at hl 3 rfl) ?_
  refine lv_iconst (v := (3 : Int32)) hx hb dL_law_1109 (by decide) ?_
  refine lv_iadd hx hb dL_law_1110 ?_
  refine va_sld hx hb hX hbl hbA M.2.2.1 (hin 3 (by decide)) dL_law_1111 ?_
  refine vtopi (hval 3 (by decide)) ?_
  refine lv_aload_n hx hb dL_law_1112 rfl (lv_at hl 0 rfl) ?_
  refine lv_iload_n hx hb dL_law_1113 rfl (lv_at hl 3 rfl) ?_
  refine lv_iconst (v := (4 : Int32)) hx hb dL_law_1114 (by decide) ?_
  refine lv_iadd hx hb dL_law_1115 ?_
  refine va_sld hx hb hX hbl hbA M.2.2.1 (hin 4 (by decide)) dL_law_1116 ?_
  refine vtopi (hval 4 (by decide)) ?_
  refine g2_CML (r_V (rest := []) (As := [.int (g 1), .int (g 2), .int (g 3), .int (g 4)]) C0 cb_L_116 M.1 (hI _ _ hInv).1 (tX9_beside l D cy adC AC h1) (pre_R C0 M.1) hl dL_law_1117 rfl (Nat.le_of_ble_eq_true rfl) ⟨rfl, rfl⟩ ⟨Nat.le_of_ble_eq_true rfl, Nat.le_of_ble_eq_true rfl⟩ ⟨by show _ ≤ 600000; omega, by show _ ≤ 7302250; omega⟩ rfl) hL M (fun H locs M => ?_)
  refine lv_aload_n hx hb dL_law_1120 rfl (lv_at hl 2 rfl) ?_
  refine lv_aload_n hx hb dL_law_1121 rfl (lv_at hl 0 rfl) ?_
  refine lv_iload_n hx hb dL_law_1122 rfl (lv_at hl 3 rfl) ?_
  refine lv_iconst (v := (1 : Int32)) hx hb dL_law_1123 (by decide) ?_
  refine lv_iadd hx hb dL_law_1124 ?_
  refine va_sld hx hb hX hbl hbA M.2.2.1 (hin 1 (by decide)) dL_law_1125 ?_
  refine vtopi (hval 1 (by decide)) ?_
  refine lv_aload_n hx hb dL_law_1126 rfl (lv_at hl 0 rfl) ?_
  refine lv_iload_n hx hb dL_law_1127 rfl (lv_at hl 3 rfl) ?_
  refine lv_iconst (v := (2 : Int32)) hx hb dL_law_1128 (by decide) ?_
  refine lv_iadd hx hb dL_law_1129 ?_
  refine va_sld hx hb hX hbl hbA M.2.2.1 (hin 2 (by decide)) dL_law_1130 ?_
  refine vtopi (hval 2 (by decide)) ?_
  refine lv_aload_n hx hb dL_law_1131 rfl (lv_at hl 0 rfl) ?_
  refine lv_iload_n hx hb dL_law_1132 rfl (lv_at hl 3 rfl) ?_
  refine lv_iconst (v := (3 : Int32)) hx hb dL_law_1133 (by decide) ?_
  refine lv_iadd hx hb dL_law_1134 ?_
  refine va_sld hx hb hX hbl hbA M.2.2.1 (hin 3 (by decide)) dL_law_1135 ?_
  refine vtopi (hval 3 (by decide)) ?_
  refine lv_aload_n hx hb dL_law_1136 rfl (lv_at hl 0 rfl) ?_
  refine lv_iload_n hx hb dL_law_1137 rfl (lv_at hl 3 rfl) ?_
  refine lv_iconst (v := (4 : Int32)) hx hb dL_law_1138 (by decide) ?_
  refine lv_iadd hx hb dL_law_1139 ?_
  refine va_sld hx hb hX hbl hbA M.2.2.1 (hin 4 (by decide)) dL_law_1140 ?_
  refine vtopi (hval 4 (by decide)) ?_
  refine g2_RML (r_V (rest := [.long r]) (As := [.int (g 1), .int (g 2), .int (g 3), .int (g 4)]) C0 cb_L_120 M.2.1 (hI _ _ hInv).2 (tX10_beside l D cy adR AR h2) (pre_R C0 M.2.1) hl dL_law_1141 rfl (Nat.le_of_ble_eq_true rfl) ⟨rfl, rfl⟩ ⟨Nat.le_of_ble_eq_true rfl, Nat.le_of_ble_eq_true rfl⟩ ⟨by show _ ≤ 600000; omega, by show _ ≤ 7302250; omega⟩ rfl) hL M (fun H locs M => ?_)
  refine W.lcmp hx hb dL_law_1144 ?_
  refine lv_if_eq (tgt := 1613) hx hb dL_law_1145 (by decide) (fun hc => ?_) (fun hc => absurd (lg_self r) hc)
  refine W.widen (k := cells + 5) (n := slots + 64) (by omega) (by omega) ?_
  exact K _ _ _ _ h3 M
/-- case 25: drift -/
def E_25 (Inv : MS → MS → Prop) : Prop := ∀ (SC SR : MS) (g : Nat → Int32), Inv SC SR → ∃ (r : Int32) (SC' : MS) (SR' : MS), fX9_drift SC 1 (g 1) (g 2) = some (r, SC') ∧ fX10_drift SR 1 (g 1) (g 2) = some (r, SR') ∧ Inv SC' SR'
set_option maxHeartbeats 4000000 in
set_option maxRecDepth 100000 in
theorem wLaw_25 {p : Program} {l : Launch} {e : Env} {s : State} {m : MethodId} {below : List Frame} {meth : Method} {c : Code} {D : va_G} {cy : Nat → ClassId} {adC adR : Nat → Nat} {AC AR : Nat → Prop} {K0 b L : Nat} {xs : Nat → Int32} {Inv : MS → MS → Prop} (C0 : CX p s m #[Value.ref b] meth c R_law cL_law 4 D cy) (hX : va_X b L xs s s.heap) (hbl : b < s.heap.size) (hbA : ¬ s.heap.size ≤ b) (hE : EX adC (fun q => s.heap.size ≤ q) s) (hL : LA s.heap AC AR) (hA : ∀ k, 0 < k → AC (adC k)) (hs : ∀ k, K0 ≤ k → adC (k + 1) + 1 = adC (k + 2)) (hI : ∀ SC SR, Inv SC SR → o_is SC 1 10 = some 1 ∧ o_is SR 1 11 = some 1) {SC SR : MS} (hInv : Inv SC SR) {H : Heap} {locs : List Loc} {cells slots : Nat} (M : LW D cy adC AC adR AR s.heap K0 SC SR H locs) (hcc : cells + 5 ≤ 600000 ∧ slots + 64 ≤ 7302250) {x3 : Int32} {g : Nat → Int32} (hin : ∀ j, j < 9 → vp_in (x3 + nI j) L) (hval : ∀ j, j < 9 → xs (x3 + nI j).toNatClampNeg = g j) {ls : Array Slot} (hl : lv_has ls 4 [(0, .ref b), (1, .ref (adC 1)), (2, .ref (adR 1)), (3, .int x3)]) (hE0 : E_25 Inv)
    (K : ∀ (SC' SR' : MS) (H : Heap) (locs : List Loc), Inv SC' SR' → LW D cy adC AC adR AR s.heap K0 SC' SR' H locs → W p l e room_1 s m #[Value.ref b] below meth c H locs (cells + 5) (slots + 64) (lw_Z below #[Value.ref b] s) (F0 m 1613 ls [])) : W p l e room_1 s m #[Value.ref b] below meth c H locs cells slots (lw_Z below #[Value.ref b] s) (F0 m 1150 ls []) := by
  obtain ⟨hx, hb, -, hown, -, hts, -⟩ := id C0
  obtain ⟨r, SC', SR', h1, h2, h3⟩ := hE0 SC SR g hInv
  refine lv_aload_n hx hb dL_law_1150 rfl (lv_at hl 1 rfl) ?_
  refine lv_aload_n hx hb dL_law_1151 rfl (lv_at hl 0 rfl) ?_
  refine lv_iload_n hx hb dL_law_1152 rfl (lv_at hl 3 rfl) ?_
  refine lv_iconst (v := (1 : Int32)) hx hb dL_law_1153 (by decide) ?_
  refine lv_iadd hx hb dL_law_1154 ?_
  refine va_sld hx hb hX hbl hbA M.2.2.1 (hin 1 (by decide)) dL_law_1155 ?_
  refine vtopi (hval 1 (by decide)) ?_
  refine lv_aload_n hx hb dL_law_1156 rfl (lv_at hl 0 rfl) ?_
  refine lv_iload_n hx hb dL_law_1157 rfl (lv_at hl 3 rfl) ?_
  refine lv_iconst (v := (2 : Int32)) hx hb dL_law_1158 (by decide) ?_
  refine lv_iadd hx hb dL_law_1159 ?_
  refine va_sld hx hb hX hbl hbA M.2.2.1 (hin 2 (by decide)) dL_law_1160 ?_
  refine vtopi (hval 2 (by decide)) ?_
  refine g2_CMI (r_V (rest := []) (As := [.int (g 1), .int (g 2)]) C0 cb_L_121 M.1 (hI _ _ hInv).1 (tX9_drift l D cy adC AC h1) (pre_R C0 M.1) hl dL_law_1161 rfl (Nat.le_of_ble_eq_true rfl) ⟨rfl, rfl⟩ ⟨Nat.le_of_ble_eq_true rfl, Nat.le_of_ble_eq_true rfl⟩ ⟨by show _ ≤ 600000; omega, by show _ ≤ 7302250; omega⟩ rfl) hL M (fun H locs M => ?_)
  refine lv_aload_n hx hb dL_law_1164 rfl (lv_at hl 2 rfl) ?_
  refine lv_aload_n hx hb dL_law_1165 rfl (lv_at hl 0 rfl) ?_
  refine lv_iload_n hx hb dL_law_1166 rfl (lv_at hl 3 rfl) ?_
  refine lv_iconst (v := (1 : Int32)) hx hb dL_law_1167 (by decide) ?_
  refine lv_iadd hx hb dL_law_1168 ?_
  refine va_sld hx hb hX hbl hbA M.2.2.1 (hin 1 (by decide)) dL_law_1169 ?_
  refine vtopi (hval 1 (by decide)) ?_
  refine lv_aload_n hx hb dL_law_1170 rfl (lv_at hl 0 rfl) ?_
  refine lv_iload_n hx hb dL_law_1171 rfl (lv_at hl 3 rfl) ?_
  refine lv_iconst (v := (2 : Int32)) hx hb dL_law_1172 (by decide) ?_
  refine lv_iadd hx hb dL_law_1173 ?_
  refine va_sld hx hb hX hbl hbA M.2.2.1 (hin 2 (by decide)) dL_law_1174 ?_
  refine vtopi (hval 2 (by decide)) ?_
  refine g2_RMI (r_V (rest := [.int r]) (As := [.int (g 1), .int (g 2)]) C0 cb_L_124 M.2.1 (hI _ _ hInv).2 (tX10_drift l D cy adR AR h2) (pre_R C0 M.2.1) hl dL_law_1175 rfl (Nat.le_of_ble_eq_true rfl) ⟨rfl, rfl⟩ ⟨Nat.le_of_ble_eq_true rfl, Nat.le_of_ble_eq_true rfl⟩ ⟨by show _ ≤ 600000; omega, by show _ ≤ 7302250; omega⟩ rfl) hL M (fun H locs M => ?_)
  refine lv_icmp_eq (tgt := 1613) hx hb dL_law_1178 (by decide) (fun hc => ?_) (fun hc => absurd rfl hc)
  refine W.widen (k := cells + 5) (n := slots + 64) (by omega) (by omega) ?_
  exact K _ _ _ _ h3 M
/-- case 26: forecast -/
def E_26 (Inv : MS → MS → Prop) : Prop := ∀ (SC SR : MS) (g : Nat → Int32), Inv SC SR → ∃ (r : Int32) (SC' : MS) (SR' : MS), fX9_forecast SC 1 (g 1) (g 2) (g 3) (g 4) = some (r, SC') ∧ fX10_forecast SR 1 (g 1) (g 2) (g 3) (g 4) = some (r, SR') ∧ Inv SC' SR'
set_option maxHeartbeats 4000000 in
set_option maxRecDepth 100000 in
theorem wLaw_26 {p : Program} {l : Launch} {e : Env} {s : State} {m : MethodId} {below : List Frame} {meth : Method} {c : Code} {D : va_G} {cy : Nat → ClassId} {adC adR : Nat → Nat} {AC AR : Nat → Prop} {K0 b L : Nat} {xs : Nat → Int32} {Inv : MS → MS → Prop} (C0 : CX p s m #[Value.ref b] meth c R_law cL_law 4 D cy) (hX : va_X b L xs s s.heap) (hbl : b < s.heap.size) (hbA : ¬ s.heap.size ≤ b) (hE : EX adC (fun q => s.heap.size ≤ q) s) (hL : LA s.heap AC AR) (hA : ∀ k, 0 < k → AC (adC k)) (hs : ∀ k, K0 ≤ k → adC (k + 1) + 1 = adC (k + 2)) (hI : ∀ SC SR, Inv SC SR → o_is SC 1 10 = some 1 ∧ o_is SR 1 11 = some 1) {SC SR : MS} (hInv : Inv SC SR) {H : Heap} {locs : List Loc} {cells slots : Nat} (M : LW D cy adC AC adR AR s.heap K0 SC SR H locs) (hcc : cells + 5 ≤ 600000 ∧ slots + 64 ≤ 7302250) {x3 : Int32} {g : Nat → Int32} (hin : ∀ j, j < 9 → vp_in (x3 + nI j) L) (hval : ∀ j, j < 9 → xs (x3 + nI j).toNatClampNeg = g j) {ls : Array Slot} (hl : lv_has ls 4 [(0, .ref b), (1, .ref (adC 1)), (2, .ref (adR 1)), (3, .int x3)]) (hE0 : E_26 Inv)
    (K : ∀ (SC' SR' : MS) (H : Heap) (locs : List Loc), Inv SC' SR' → LW D cy adC AC adR AR s.heap K0 SC' SR' H locs → W p l e room_1 s m #[Value.ref b] below meth c H locs (cells + 5) (slots + 64) (lw_Z below #[Value.ref b] s) (F0 m 1613 ls [])) : W p l e room_1 s m #[Value.ref b] below meth c H locs cells slots (lw_Z below #[Value.ref b] s) (F0 m 1183 ls []) := by
  obtain ⟨hx, hb, -, hown, -, hts, -⟩ := id C0
  obtain ⟨r, SC', SR', h1, h2, h3⟩ := hE0 SC SR g hInv
  refine lv_aload_n hx hb dL_law_1183 rfl (lv_at hl 1 rfl) ?_
  refine lv_aload_n hx hb dL_law_1184 rfl (lv_at hl 0 rfl) ?_
  refine lv_iload_n hx hb dL_law_1185 rfl (lv_at hl 3 rfl) ?_
  refine lv_iconst (v := (1 : Int32)) hx hb dL_law_1186 (by decide) ?_
  refine lv_iadd hx hb dL_law_1187 ?_
  refine va_sld hx hb hX hbl hbA M.2.2.1 (hin 1 (by decide)) dL_law_1188 ?_
  refine vtopi (hval 1 (by decide)) ?_
  refine lv_aload_n hx hb dL_law_1189 rfl (lv_at hl 0 rfl) ?_
  refine lv_iload_n hx hb dL_law_1190 rfl (lv_at hl 3 rfl) ?_
  refine lv_iconst (v := (2 : Int32)) hx hb dL_law_1191 (by decide) ?_
  refine lv_iadd hx hb dL_law_1192 ?_
  refine va_sld hx hb hX hbl hbA M.2.2.1 (hin 2 (by decide)) dL_law_1193 ?_
  refine vtopi (hval 2 (by decide)) ?_
  refine lv_aload_n hx hb dL_law_1194 rfl (lv_at hl 0 rfl) ?_
  refine lv_iload_n hx hb dL_law_1195 rfl (lv_at hl 3 rfl) ?_
  refine lv_iconst (v := (3 : Int32)) hx hb dL_law_1196 (by decide) ?_
  refine lv_iadd hx hb dL_law_1197 ?_
  refine va_sld hx hb hX hbl hbA M.2.2.1 (hin 3 (by decide)) dL_law_1198 ?_
  refine vtopi (hval 3 (by decide)) ?_
  refine lv_aload_n hx hb dL_law_1199 rfl (lv_at hl 0 rfl) ?_
  refine lv_iload_n hx hb dL_law_1200 rfl (lv_at hl 3 rfl) ?_
  refine lv_iconst (v := (4 : Int32)) hx hb dL_law_1201 (by decide) ?_
  refine lv_iadd hx hb dL_law_1202 ?_
  refine va_sld hx hb hX hbl hbA M.2.2.1 (hin 4 (by decide)) dL_law_1203 ?_
  refine vtopi (hval 4 (by decide)) ?_
  refine g2_CAI (r_V (rest := []) (As := [.int (g 1), .int (g 2), .int (g 3), .int (g 4)]) C0 cb_L_125 M.1 (hI _ _ hInv).1 (tX9_forecast l D cy adC AC K0 hA hs h1) (pre2_A C0 hE hL M) hl dL_law_1204 rfl (Nat.le_of_ble_eq_true rfl) ⟨rfl, rfl⟩ ⟨Nat.le_of_ble_eq_true rfl, Nat.le_of_ble_eq_true rfl⟩ ⟨by show _ ≤ 600000; omega, by show _ ≤ 7302250; omega⟩ rfl) hL M (fun H locs M => ?_)
  refine lv_aload_n hx hb dL_law_1207 rfl (lv_at hl 2 rfl) ?_
  refine lv_aload_n hx hb dL_law_1208 rfl (lv_at hl 0 rfl) ?_
  refine lv_iload_n hx hb dL_law_1209 rfl (lv_at hl 3 rfl) ?_
  refine lv_iconst (v := (1 : Int32)) hx hb dL_law_1210 (by decide) ?_
  refine lv_iadd hx hb dL_law_1211 ?_
  refine va_sld hx hb hX hbl hbA M.2.2.1 (hin 1 (by decide)) dL_law_1212 ?_
  refine vtopi (hval 1 (by decide)) ?_
  refine lv_aload_n hx hb dL_law_1213 rfl (lv_at hl 0 rfl) ?_
  refine lv_iload_n hx hb dL_law_1214 rfl (lv_at hl 3 rfl) ?_
  refine lv_iconst (v := (2 : Int32)) hx hb dL_law_1215 (by decide) ?_
  refine lv_iadd hx hb dL_law_1216 ?_
  refine va_sld hx hb hX hbl hbA M.2.2.1 (hin 2 (by decide)) dL_law_1217 ?_
  refine vtopi (hval 2 (by decide)) ?_
  refine lv_aload_n hx hb dL_law_1218 rfl (lv_at hl 0 rfl) ?_
  refine lv_iload_n hx hb dL_law_1219 rfl (lv_at hl 3 rfl) ?_
  refine lv_iconst (v := (3 : Int32)) hx hb dL_law_1220 (by decide) ?_
  refine lv_iadd hx hb dL_law_1221 ?_
  refine va_sld hx hb hX hbl hbA M.2.2.1 (hin 3 (by decide)) dL_law_1222 ?_
  refine vtopi (hval 3 (by decide)) ?_
  refine lv_aload_n hx hb dL_law_1223 rfl (lv_at hl 0 rfl) ?_
  refine lv_iload_n hx hb dL_law_1224 rfl (lv_at hl 3 rfl) ?_
  refine lv_iconst (v := (4 : Int32)) hx hb dL_law_1225 (by decide) ?_
  refine lv_iadd hx hb dL_law_1226 ?_
  refine va_sld hx hb hX hbl hbA M.2.2.1 (hin 4 (by decide)) dL_law_1227 ?_
  refine vtopi (hval 4 (by decide)) ?_
  refine g2_RMI (r_V (rest := [.int r]) (As := [.int (g 1), .int (g 2), .int (g 3), .int (g 4)]) C0 cb_L_128 M.2.1 (hI _ _ hInv).2 (tX10_forecast l D cy adR AR h2) (pre_R C0 M.2.1) hl dL_law_1228 rfl (Nat.le_of_ble_eq_true rfl) ⟨rfl, rfl⟩ ⟨Nat.le_of_ble_eq_true rfl, Nat.le_of_ble_eq_true rfl⟩ ⟨by show _ ≤ 600000; omega, by show _ ≤ 7302250; omega⟩ rfl) hL M (fun H locs M => ?_)
  refine lv_icmp_eq (tgt := 1613) hx hb dL_law_1231 (by decide) (fun hc => ?_) (fun hc => absurd rfl hc)
  refine W.widen (k := cells + 5) (n := slots + 64) (by omega) (by omega) ?_
  exact K _ _ _ _ h3 M
/-- case 27: verified -/
def E_27 (Inv : MS → MS → Prop) : Prop := ∀ (SC SR : MS) (g : Nat → Int32), Inv SC SR → ∃ (r : Int32) (SC' : MS) (SR' : MS), fX9_verified SC 1 (g 1) (g 2) = some (r, SC') ∧ fX10_verified SR 1 (g 1) (g 2) = some (r, SR') ∧ Inv SC' SR'
set_option maxHeartbeats 4000000 in
set_option maxRecDepth 100000 in
theorem wLaw_27 {p : Program} {l : Launch} {e : Env} {s : State} {m : MethodId} {below : List Frame} {meth : Method} {c : Code} {D : va_G} {cy : Nat → ClassId} {adC adR : Nat → Nat} {AC AR : Nat → Prop} {K0 b L : Nat} {xs : Nat → Int32} {Inv : MS → MS → Prop} (C0 : CX p s m #[Value.ref b] meth c R_law cL_law 4 D cy) (hX : va_X b L xs s s.heap) (hbl : b < s.heap.size) (hbA : ¬ s.heap.size ≤ b) (hE : EX adC (fun q => s.heap.size ≤ q) s) (hL : LA s.heap AC AR) (hA : ∀ k, 0 < k → AC (adC k)) (hs : ∀ k, K0 ≤ k → adC (k + 1) + 1 = adC (k + 2)) (hI : ∀ SC SR, Inv SC SR → o_is SC 1 10 = some 1 ∧ o_is SR 1 11 = some 1) {SC SR : MS} (hInv : Inv SC SR) {H : Heap} {locs : List Loc} {cells slots : Nat} (M : LW D cy adC AC adR AR s.heap K0 SC SR H locs) (hcc : cells + 5 ≤ 600000 ∧ slots + 64 ≤ 7302250) {x3 : Int32} {g : Nat → Int32} (hin : ∀ j, j < 9 → vp_in (x3 + nI j) L) (hval : ∀ j, j < 9 → xs (x3 + nI j).toNatClampNeg = g j) {ls : Array Slot} (hl : lv_has ls 4 [(0, .ref b), (1, .ref (adC 1)), (2, .ref (adR 1)), (3, .int x3)]) (hE0 : E_27 Inv)
    (K : ∀ (SC' SR' : MS) (H : Heap) (locs : List Loc), Inv SC' SR' → LW D cy adC AC adR AR s.heap K0 SC' SR' H locs → W p l e room_1 s m #[Value.ref b] below meth c H locs (cells + 5) (slots + 64) (lw_Z below #[Value.ref b] s) (F0 m 1613 ls [])) : W p l e room_1 s m #[Value.ref b] below meth c H locs cells slots (lw_Z below #[Value.ref b] s) (F0 m 1236 ls []) := by
  obtain ⟨hx, hb, -, hown, -, hts, -⟩ := id C0
  obtain ⟨r, SC', SR', h1, h2, h3⟩ := hE0 SC SR g hInv
  refine lv_aload_n hx hb dL_law_1236 rfl (lv_at hl 1 rfl) ?_
  refine lv_aload_n hx hb dL_law_1237 rfl (lv_at hl 0 rfl) ?_
  refine lv_iload_n hx hb dL_law_1238 rfl (lv_at hl 3 rfl) ?_
  refine lv_iconst (v := (1 : Int32)) hx hb dL_law_1239 (by decide) ?_
  refine lv_iadd hx hb dL_law_1240 ?_
  refine va_sld hx hb hX hbl hbA M.2.2.1 (hin 1 (by decide)) dL_law_1241 ?_
  refine vtopi (hval 1 (by decide)) ?_
  refine lv_aload_n hx hb dL_law_1242 rfl (lv_at hl 0 rfl) ?_
  refine lv_iload_n hx hb dL_law_1243 rfl (lv_at hl 3 rfl) ?_
  refine lv_iconst (v := (2 : Int32)) hx hb dL_law_1244 (by decide) ?_
  refine lv_iadd hx hb dL_law_1245 ?_
  refine va_sld hx hb hX hbl hbA M.2.2.1 (hin 2 (by decide)) dL_law_1246 ?_
  refine vtopi (hval 2 (by decide)) ?_
  refine g2_CMI (r_V (rest := []) (As := [.int (g 1), .int (g 2)]) C0 cb_L_129 M.1 (hI _ _ hInv).1 (tX9_verified l D cy adC AC h1) (pre_R C0 M.1) hl dL_law_1247 rfl (Nat.le_of_ble_eq_true rfl) ⟨rfl, rfl⟩ ⟨Nat.le_of_ble_eq_true rfl, Nat.le_of_ble_eq_true rfl⟩ ⟨by show _ ≤ 600000; omega, by show _ ≤ 7302250; omega⟩ rfl) hL M (fun H locs M => ?_)
  refine lv_aload_n hx hb dL_law_1250 rfl (lv_at hl 2 rfl) ?_
  refine lv_aload_n hx hb dL_law_1251 rfl (lv_at hl 0 rfl) ?_
  refine lv_iload_n hx hb dL_law_1252 rfl (lv_at hl 3 rfl) ?_
  refine lv_iconst (v := (1 : Int32)) hx hb dL_law_1253 (by decide) ?_
  refine lv_iadd hx hb dL_law_1254 ?_
  refine va_sld hx hb hX hbl hbA M.2.2.1 (hin 1 (by decide)) dL_law_1255 ?_
  refine vtopi (hval 1 (by decide)) ?_
  refine lv_aload_n hx hb dL_law_1256 rfl (lv_at hl 0 rfl) ?_
  refine lv_iload_n hx hb dL_law_1257 rfl (lv_at hl 3 rfl) ?_
  refine lv_iconst (v := (2 : Int32)) hx hb dL_law_1258 (by decide) ?_
  refine lv_iadd hx hb dL_law_1259 ?_
  refine va_sld hx hb hX hbl hbA M.2.2.1 (hin 2 (by decide)) dL_law_1260 ?_
  refine vtopi (hval 2 (by decide)) ?_
  refine g2_RMI (r_V (rest := [.int r]) (As := [.int (g 1), .int (g 2)]) C0 cb_L_132 M.2.1 (hI _ _ hInv).2 (tX10_verified l D cy adR AR h2) (pre_R C0 M.2.1) hl dL_law_1261 rfl (Nat.le_of_ble_eq_true rfl) ⟨rfl, rfl⟩ ⟨Nat.le_of_ble_eq_true rfl, Nat.le_of_ble_eq_true rfl⟩ ⟨by show _ ≤ 600000; omega, by show _ ≤ 7302250; omega⟩ rfl) hL M (fun H locs M => ?_)
  refine lv_icmp_eq (tgt := 1613) hx hb dL_law_1264 (by decide) (fun hc => ?_) (fun hc => absurd rfl hc)
  refine W.widen (k := cells + 5) (n := slots + 64) (by omega) (by omega) ?_
  exact K _ _ _ _ h3 M
/-- case 28: sheet -/
def E_28 (Inv : MS → MS → Prop) : Prop := ∀ (SC SR : MS) (g : Nat → Int32), Inv SC SR → ∃ (r : Int32) (SC' : MS) (SR' : MS), fX9_sheet SC 1 (g 1) (g 2) (g 3) = some (r, SC') ∧ fX10_sheet SR 1 (g 1) (g 2) (g 3) = some (r, SR') ∧ Inv SC' SR'
set_option maxHeartbeats 4000000 in
set_option maxRecDepth 100000 in
theorem wLaw_28 {p : Program} {l : Launch} {e : Env} {s : State} {m : MethodId} {below : List Frame} {meth : Method} {c : Code} {D : va_G} {cy : Nat → ClassId} {adC adR : Nat → Nat} {AC AR : Nat → Prop} {K0 b L : Nat} {xs : Nat → Int32} {Inv : MS → MS → Prop} (C0 : CX p s m #[Value.ref b] meth c R_law cL_law 4 D cy) (hX : va_X b L xs s s.heap) (hbl : b < s.heap.size) (hbA : ¬ s.heap.size ≤ b) (hE : EX adC (fun q => s.heap.size ≤ q) s) (hL : LA s.heap AC AR) (hA : ∀ k, 0 < k → AC (adC k)) (hs : ∀ k, K0 ≤ k → adC (k + 1) + 1 = adC (k + 2)) (hI : ∀ SC SR, Inv SC SR → o_is SC 1 10 = some 1 ∧ o_is SR 1 11 = some 1) {SC SR : MS} (hInv : Inv SC SR) {H : Heap} {locs : List Loc} {cells slots : Nat} (M : LW D cy adC AC adR AR s.heap K0 SC SR H locs) (hcc : cells + 5 ≤ 600000 ∧ slots + 64 ≤ 7302250) {x3 : Int32} {g : Nat → Int32} (hin : ∀ j, j < 9 → vp_in (x3 + nI j) L) (hval : ∀ j, j < 9 → xs (x3 + nI j).toNatClampNeg = g j) {ls : Array Slot} (hl : lv_has ls 4 [(0, .ref b), (1, .ref (adC 1)), (2, .ref (adR 1)), (3, .int x3)]) (hE0 : E_28 Inv)
    (K : ∀ (SC' SR' : MS) (H : Heap) (locs : List Loc), Inv SC' SR' → LW D cy adC AC adR AR s.heap K0 SC' SR' H locs → W p l e room_1 s m #[Value.ref b] below meth c H locs (cells + 5) (slots + 64) (lw_Z below #[Value.ref b] s) (F0 m 1613 ls [])) : W p l e room_1 s m #[Value.ref b] below meth c H locs cells slots (lw_Z below #[Value.ref b] s) (F0 m 1269 ls []) := by
  obtain ⟨hx, hb, -, hown, -, hts, -⟩ := id C0
  obtain ⟨r, SC', SR', h1, h2, h3⟩ := hE0 SC SR g hInv
  refine lv_aload_n hx hb dL_law_1269 rfl (lv_at hl 1 rfl) ?_
  refine lv_aload_n hx hb dL_law_1270 rfl (lv_at hl 0 rfl) ?_
  refine lv_iload_n hx hb dL_law_1271 rfl (lv_at hl 3 rfl) ?_
  refine lv_iconst (v := (1 : Int32)) hx hb dL_law_1272 (by decide) ?_
  refine lv_iadd hx hb dL_law_1273 ?_
  refine va_sld hx hb hX hbl hbA M.2.2.1 (hin 1 (by decide)) dL_law_1274 ?_
  refine vtopi (hval 1 (by decide)) ?_
  refine lv_aload_n hx hb dL_law_1275 rfl (lv_at hl 0 rfl) ?_
  refine lv_iload_n hx hb dL_law_1276 rfl (lv_at hl 3 rfl) ?_
  refine lv_iconst (v := (2 : Int32)) hx hb dL_law_1277 (by decide) ?_
  refine lv_iadd hx hb dL_law_1278 ?_
  refine va_sld hx hb hX hbl hbA M.2.2.1 (hin 2 (by decide)) dL_law_1279 ?_
  refine vtopi (hval 2 (by decide)) ?_
  refine lv_aload_n hx hb dL_law_1280 rfl (lv_at hl 0 rfl) ?_
  refine lv_iload_n hx hb dL_law_1281 rfl (lv_at hl 3 rfl) ?_
  refine lv_iconst (v := (3 : Int32)) hx hb dL_law_1282 (by decide) ?_
  refine lv_iadd hx hb dL_law_1283 ?_
  refine va_sld hx hb hX hbl hbA M.2.2.1 (hin 3 (by decide)) dL_law_1284 ?_
  refine vtopi (hval 3 (by decide)) ?_
  refine g2_CMI (r_V (rest := []) (As := [.int (g 1), .int (g 2), .int (g 3)]) C0 cb_L_133 M.1 (hI _ _ hInv).1 (tX9_sheet l D cy adC AC h1) (pre_R C0 M.1) hl dL_law_1285 rfl (Nat.le_of_ble_eq_true rfl) ⟨rfl, rfl⟩ ⟨Nat.le_of_ble_eq_true rfl, Nat.le_of_ble_eq_true rfl⟩ ⟨by show _ ≤ 600000; omega, by show _ ≤ 7302250; omega⟩ rfl) hL M (fun H locs M => ?_)
  refine lv_aload_n hx hb dL_law_1288 rfl (lv_at hl 2 rfl) ?_
  refine lv_aload_n hx hb dL_law_1289 rfl (lv_at hl 0 rfl) ?_
  refine lv_iload_n hx hb dL_law_1290 rfl (lv_at hl 3 rfl) ?_
  refine lv_iconst (v := (1 : Int32)) hx hb dL_law_1291 (by decide) ?_
  refine lv_iadd hx hb dL_law_1292 ?_
  refine va_sld hx hb hX hbl hbA M.2.2.1 (hin 1 (by decide)) dL_law_1293 ?_
  refine vtopi (hval 1 (by decide)) ?_
  refine lv_aload_n hx hb dL_law_1294 rfl (lv_at hl 0 rfl) ?_
  refine lv_iload_n hx hb dL_law_1295 rfl (lv_at hl 3 rfl) ?_
  refine lv_iconst (v := (2 : Int32)) hx hb dL_law_1296 (by decide) ?_
  refine lv_iadd hx hb dL_law_1297 ?_
  refine va_sld hx hb hX hbl hbA M.2.2.1 (hin 2 (by decide)) dL_law_1298 ?_
  refine vtopi (hval 2 (by decide)) ?_
  refine lv_aload_n hx hb dL_law_1299 rfl (lv_at hl 0 rfl) ?_
  refine lv_iload_n hx hb dL_law_1300 rfl (lv_at hl 3 rfl) ?_
  refine lv_iconst (v := (3 : Int32)) hx hb dL_law_1301 (by decide) ?_
  refine lv_iadd hx hb dL_law_1302 ?_
  refine va_sld hx hb hX hbl hbA M.2.2.1 (hin 3 (by decide)) dL_law_1303 ?_
  refine vtopi (hval 3 (by decide)) ?_
  refine g2_RMI (r_V (rest := [.int r]) (As := [.int (g 1), .int (g 2), .int (g 3)]) C0 cb_L_136 M.2.1 (hI _ _ hInv).2 (tX10_sheet l D cy adR AR h2) (pre_R C0 M.2.1) hl dL_law_1304 rfl (Nat.le_of_ble_eq_true rfl) ⟨rfl, rfl⟩ ⟨Nat.le_of_ble_eq_true rfl, Nat.le_of_ble_eq_true rfl⟩ ⟨by show _ ≤ 600000; omega, by show _ ≤ 7302250; omega⟩ rfl) hL M (fun H locs M => ?_)
  refine lv_icmp_eq (tgt := 1613) hx hb dL_law_1307 (by decide) (fun hc => ?_) (fun hc => absurd rfl hc)
  refine W.widen (k := cells + 5) (n := slots + 64) (by omega) (by omega) ?_
  exact K _ _ _ _ h3 M
/-- case 29: lose -/
def E_29 (Inv : MS → MS → Prop) : Prop := ∀ (SC SR : MS) (g : Nat → Int32), Inv SC SR → ∃ (r : Int32) (SC' : MS) (SR' : MS), fX9_lose SC 1 (g 1) = some (r, SC') ∧ fX10_lose SR 1 (g 1) = some (r, SR') ∧ Inv SC' SR'
set_option maxHeartbeats 4000000 in
set_option maxRecDepth 100000 in
theorem wLaw_29 {p : Program} {l : Launch} {e : Env} {s : State} {m : MethodId} {below : List Frame} {meth : Method} {c : Code} {D : va_G} {cy : Nat → ClassId} {adC adR : Nat → Nat} {AC AR : Nat → Prop} {K0 b L : Nat} {xs : Nat → Int32} {Inv : MS → MS → Prop} (C0 : CX p s m #[Value.ref b] meth c R_law cL_law 4 D cy) (hX : va_X b L xs s s.heap) (hbl : b < s.heap.size) (hbA : ¬ s.heap.size ≤ b) (hE : EX adC (fun q => s.heap.size ≤ q) s) (hL : LA s.heap AC AR) (hA : ∀ k, 0 < k → AC (adC k)) (hs : ∀ k, K0 ≤ k → adC (k + 1) + 1 = adC (k + 2)) (hI : ∀ SC SR, Inv SC SR → o_is SC 1 10 = some 1 ∧ o_is SR 1 11 = some 1) {SC SR : MS} (hInv : Inv SC SR) {H : Heap} {locs : List Loc} {cells slots : Nat} (M : LW D cy adC AC adR AR s.heap K0 SC SR H locs) (hcc : cells + 5 ≤ 600000 ∧ slots + 64 ≤ 7302250) {x3 : Int32} {g : Nat → Int32} (hin : ∀ j, j < 9 → vp_in (x3 + nI j) L) (hval : ∀ j, j < 9 → xs (x3 + nI j).toNatClampNeg = g j) {ls : Array Slot} (hl : lv_has ls 4 [(0, .ref b), (1, .ref (adC 1)), (2, .ref (adR 1)), (3, .int x3)]) (hE0 : E_29 Inv)
    (K : ∀ (SC' SR' : MS) (H : Heap) (locs : List Loc), Inv SC' SR' → LW D cy adC AC adR AR s.heap K0 SC' SR' H locs → W p l e room_1 s m #[Value.ref b] below meth c H locs (cells + 5) (slots + 64) (lw_Z below #[Value.ref b] s) (F0 m 1613 ls [])) : W p l e room_1 s m #[Value.ref b] below meth c H locs cells slots (lw_Z below #[Value.ref b] s) (F0 m 1312 ls []) := by
  obtain ⟨hx, hb, -, hown, -, hts, -⟩ := id C0
  obtain ⟨r, SC', SR', h1, h2, h3⟩ := hE0 SC SR g hInv
  refine lv_aload_n hx hb dL_law_1312 rfl (lv_at hl 1 rfl) ?_
  refine lv_aload_n hx hb dL_law_1313 rfl (lv_at hl 0 rfl) ?_
  refine lv_iload_n hx hb dL_law_1314 rfl (lv_at hl 3 rfl) ?_
  refine lv_iconst (v := (1 : Int32)) hx hb dL_law_1315 (by decide) ?_
  refine lv_iadd hx hb dL_law_1316 ?_
  refine va_sld hx hb hX hbl hbA M.2.2.1 (hin 1 (by decide)) dL_law_1317 ?_
  refine vtopi (hval 1 (by decide)) ?_
  refine g2_CMI (r_V (rest := []) (As := [.int (g 1)]) C0 cb_L_137 M.1 (hI _ _ hInv).1 (tX9_lose l D cy adC AC h1) (pre_R C0 M.1) hl dL_law_1318 rfl (Nat.le_of_ble_eq_true rfl) ⟨rfl, rfl⟩ ⟨Nat.le_of_ble_eq_true rfl, Nat.le_of_ble_eq_true rfl⟩ ⟨by show _ ≤ 600000; omega, by show _ ≤ 7302250; omega⟩ rfl) hL M (fun H locs M => ?_)
  refine lv_aload_n hx hb dL_law_1321 rfl (lv_at hl 2 rfl) ?_
  refine lv_aload_n hx hb dL_law_1322 rfl (lv_at hl 0 rfl) ?_
  refine lv_iload_n hx hb dL_law_1323 rfl (lv_at hl 3 rfl) ?_
  refine lv_iconst (v := (1 : Int32)) hx hb dL_law_1324 (by decide) ?_
  refine lv_iadd hx hb dL_law_1325 ?_
  refine va_sld hx hb hX hbl hbA M.2.2.1 (hin 1 (by decide)) dL_law_1326 ?_
  refine vtopi (hval 1 (by decide)) ?_
  refine g2_RMI (r_V (rest := [.int r]) (As := [.int (g 1)]) C0 cb_L_140 M.2.1 (hI _ _ hInv).2 (tX10_lose l D cy adR AR h2) (pre_R C0 M.2.1) hl dL_law_1327 rfl (Nat.le_of_ble_eq_true rfl) ⟨rfl, rfl⟩ ⟨Nat.le_of_ble_eq_true rfl, Nat.le_of_ble_eq_true rfl⟩ ⟨by show _ ≤ 600000; omega, by show _ ≤ 7302250; omega⟩ rfl) hL M (fun H locs M => ?_)
  refine lv_icmp_eq (tgt := 1613) hx hb dL_law_1330 (by decide) (fun hc => ?_) (fun hc => absurd rfl hc)
  refine W.widen (k := cells + 5) (n := slots + 64) (by omega) (by omega) ?_
  exact K _ _ _ _ h3 M
/-- case 30: put -/
def E_30 (Inv : MS → MS → Prop) : Prop := ∀ (SC SR : MS) (g : Nat → Int32), Inv SC SR → ∃ (r : Int32) (SC' : MS) (SR' : MS), fX9_put SC 1 (g 1) (g 2) (g 3) = some (r, SC') ∧ fX10_put SR 1 (g 1) (g 2) (g 3) = some (r, SR') ∧ Inv SC' SR'
set_option maxHeartbeats 4000000 in
set_option maxRecDepth 100000 in
theorem wLaw_30 {p : Program} {l : Launch} {e : Env} {s : State} {m : MethodId} {below : List Frame} {meth : Method} {c : Code} {D : va_G} {cy : Nat → ClassId} {adC adR : Nat → Nat} {AC AR : Nat → Prop} {K0 b L : Nat} {xs : Nat → Int32} {Inv : MS → MS → Prop} (C0 : CX p s m #[Value.ref b] meth c R_law cL_law 4 D cy) (hX : va_X b L xs s s.heap) (hbl : b < s.heap.size) (hbA : ¬ s.heap.size ≤ b) (hE : EX adC (fun q => s.heap.size ≤ q) s) (hL : LA s.heap AC AR) (hA : ∀ k, 0 < k → AC (adC k)) (hs : ∀ k, K0 ≤ k → adC (k + 1) + 1 = adC (k + 2)) (hI : ∀ SC SR, Inv SC SR → o_is SC 1 10 = some 1 ∧ o_is SR 1 11 = some 1) {SC SR : MS} (hInv : Inv SC SR) {H : Heap} {locs : List Loc} {cells slots : Nat} (M : LW D cy adC AC adR AR s.heap K0 SC SR H locs) (hcc : cells + 5 ≤ 600000 ∧ slots + 64 ≤ 7302250) {x3 : Int32} {g : Nat → Int32} (hin : ∀ j, j < 9 → vp_in (x3 + nI j) L) (hval : ∀ j, j < 9 → xs (x3 + nI j).toNatClampNeg = g j) {ls : Array Slot} (hl : lv_has ls 4 [(0, .ref b), (1, .ref (adC 1)), (2, .ref (adR 1)), (3, .int x3)]) (hE0 : E_30 Inv)
    (K : ∀ (SC' SR' : MS) (H : Heap) (locs : List Loc), Inv SC' SR' → LW D cy adC AC adR AR s.heap K0 SC' SR' H locs → W p l e room_1 s m #[Value.ref b] below meth c H locs (cells + 5) (slots + 64) (lw_Z below #[Value.ref b] s) (F0 m 1613 ls [])) : W p l e room_1 s m #[Value.ref b] below meth c H locs cells slots (lw_Z below #[Value.ref b] s) (F0 m 1335 ls []) := by
  obtain ⟨hx, hb, -, hown, -, hts, -⟩ := id C0
  obtain ⟨r, SC', SR', h1, h2, h3⟩ := hE0 SC SR g hInv
  refine lv_aload_n hx hb dL_law_1335 rfl (lv_at hl 1 rfl) ?_
  refine lv_aload_n hx hb dL_law_1336 rfl (lv_at hl 0 rfl) ?_
  refine lv_iload_n hx hb dL_law_1337 rfl (lv_at hl 3 rfl) ?_
  refine lv_iconst (v := (1 : Int32)) hx hb dL_law_1338 (by decide) ?_
  refine lv_iadd hx hb dL_law_1339 ?_
  refine va_sld hx hb hX hbl hbA M.2.2.1 (hin 1 (by decide)) dL_law_1340 ?_
  refine vtopi (hval 1 (by decide)) ?_
  refine lv_aload_n hx hb dL_law_1341 rfl (lv_at hl 0 rfl) ?_
  refine lv_iload_n hx hb dL_law_1342 rfl (lv_at hl 3 rfl) ?_
  refine lv_iconst (v := (2 : Int32)) hx hb dL_law_1343 (by decide) ?_
  refine lv_iadd hx hb dL_law_1344 ?_
  refine va_sld hx hb hX hbl hbA M.2.2.1 (hin 2 (by decide)) dL_law_1345 ?_
  refine vtopi (hval 2 (by decide)) ?_
  refine lv_aload_n hx hb dL_law_1346 rfl (lv_at hl 0 rfl) ?_
  refine lv_iload_n hx hb dL_law_1347 rfl (lv_at hl 3 rfl) ?_
  refine lv_iconst (v := (3 : Int32)) hx hb dL_law_1348 (by decide) ?_
  refine lv_iadd hx hb dL_law_1349 ?_
  refine va_sld hx hb hX hbl hbA M.2.2.1 (hin 3 (by decide)) dL_law_1350 ?_
  refine vtopi (hval 3 (by decide)) ?_
  refine g2_CMI (r_V (rest := []) (As := [.int (g 1), .int (g 2), .int (g 3)]) C0 cb_L_141 M.1 (hI _ _ hInv).1 (tX9_put l D cy adC AC h1) (pre_R C0 M.1) hl dL_law_1351 rfl (Nat.le_of_ble_eq_true rfl) ⟨rfl, rfl⟩ ⟨Nat.le_of_ble_eq_true rfl, Nat.le_of_ble_eq_true rfl⟩ ⟨by show _ ≤ 600000; omega, by show _ ≤ 7302250; omega⟩ rfl) hL M (fun H locs M => ?_)
  refine lv_aload_n hx hb dL_law_1354 rfl (lv_at hl 2 rfl) ?_
  refine lv_aload_n hx hb dL_law_1355 rfl (lv_at hl 0 rfl) ?_
  refine lv_iload_n hx hb dL_law_1356 rfl (lv_at hl 3 rfl) ?_
  refine lv_iconst (v := (1 : Int32)) hx hb dL_law_1357 (by decide) ?_
  refine lv_iadd hx hb dL_law_1358 ?_
  refine va_sld hx hb hX hbl hbA M.2.2.1 (hin 1 (by decide)) dL_law_1359 ?_
  refine vtopi (hval 1 (by decide)) ?_
  refine lv_aload_n hx hb dL_law_1360 rfl (lv_at hl 0 rfl) ?_
  refine lv_iload_n hx hb dL_law_1361 rfl (lv_at hl 3 rfl) ?_
  refine lv_iconst (v := (2 : Int32)) hx hb dL_law_1362 (by decide) ?_
  refine lv_iadd hx hb dL_law_1363 ?_
  refine va_sld hx hb hX hbl hbA M.2.2.1 (hin 2 (by decide)) dL_law_1364 ?_
  refine vtopi (hval 2 (by decide)) ?_
  refine lv_aload_n hx hb dL_law_1365 rfl (lv_at hl 0 rfl) ?_
  refine lv_iload_n hx hb dL_law_1366 rfl (lv_at hl 3 rfl) ?_
  refine lv_iconst (v := (3 : Int32)) hx hb dL_law_1367 (by decide) ?_
  refine lv_iadd hx hb dL_law_1368 ?_
  refine va_sld hx hb hX hbl hbA M.2.2.1 (hin 3 (by decide)) dL_law_1369 ?_
  refine vtopi (hval 3 (by decide)) ?_
  refine g2_RMI (r_V (rest := [.int r]) (As := [.int (g 1), .int (g 2), .int (g 3)]) C0 cb_L_144 M.2.1 (hI _ _ hInv).2 (tX10_put l D cy adR AR h2) (pre_R C0 M.2.1) hl dL_law_1370 rfl (Nat.le_of_ble_eq_true rfl) ⟨rfl, rfl⟩ ⟨Nat.le_of_ble_eq_true rfl, Nat.le_of_ble_eq_true rfl⟩ ⟨by show _ ≤ 600000; omega, by show _ ≤ 7302250; omega⟩ rfl) hL M (fun H locs M => ?_)
  refine lv_icmp_eq (tgt := 1613) hx hb dL_law_1373 (by decide) (fun hc => ?_) (fun hc => absurd rfl hc)
  refine W.widen (k := cells + 5) (n := slots + 64) (by omega) (by omega) ?_
  exact K _ _ _ _ h3 M
/-- case 31: cell -/
def E_31 (Inv : MS → MS → Prop) : Prop := ∀ (SC SR : MS) (g : Nat → Int32), Inv SC SR → ∃ (r : Int64) (SC' : MS) (SR' : MS), fX9_cell SC 1 (g 1) (g 2) (g 3) = some (r, SC') ∧ fX10_cell SR 1 (g 1) (g 2) (g 3) = some (r, SR') ∧ Inv SC' SR'
set_option maxHeartbeats 4000000 in
set_option maxRecDepth 100000 in
theorem wLaw_31 {p : Program} {l : Launch} {e : Env} {s : State} {m : MethodId} {below : List Frame} {meth : Method} {c : Code} {D : va_G} {cy : Nat → ClassId} {adC adR : Nat → Nat} {AC AR : Nat → Prop} {K0 b L : Nat} {xs : Nat → Int32} {Inv : MS → MS → Prop} (C0 : CX p s m #[Value.ref b] meth c R_law cL_law 4 D cy) (hX : va_X b L xs s s.heap) (hbl : b < s.heap.size) (hbA : ¬ s.heap.size ≤ b) (hE : EX adC (fun q => s.heap.size ≤ q) s) (hL : LA s.heap AC AR) (hA : ∀ k, 0 < k → AC (adC k)) (hs : ∀ k, K0 ≤ k → adC (k + 1) + 1 = adC (k + 2)) (hI : ∀ SC SR, Inv SC SR → o_is SC 1 10 = some 1 ∧ o_is SR 1 11 = some 1) {SC SR : MS} (hInv : Inv SC SR) {H : Heap} {locs : List Loc} {cells slots : Nat} (M : LW D cy adC AC adR AR s.heap K0 SC SR H locs) (hcc : cells + 5 ≤ 600000 ∧ slots + 64 ≤ 7302250) {x3 : Int32} {g : Nat → Int32} (hin : ∀ j, j < 9 → vp_in (x3 + nI j) L) (hval : ∀ j, j < 9 → xs (x3 + nI j).toNatClampNeg = g j) {ls : Array Slot} (hl : lv_has ls 4 [(0, .ref b), (1, .ref (adC 1)), (2, .ref (adR 1)), (3, .int x3)]) (hE0 : E_31 Inv)
    (K : ∀ (SC' SR' : MS) (H : Heap) (locs : List Loc), Inv SC' SR' → LW D cy adC AC adR AR s.heap K0 SC' SR' H locs → W p l e room_1 s m #[Value.ref b] below meth c H locs (cells + 5) (slots + 64) (lw_Z below #[Value.ref b] s) (F0 m 1613 ls [])) : W p l e room_1 s m #[Value.ref b] below meth c H locs cells slots (lw_Z below #[Value.ref b] s) (F0 m 1378 ls []) := by
  obtain ⟨hx, hb, -, hown, -, hts, -⟩ := id C0
  obtain ⟨r, SC', SR', h1, h2, h3⟩ := hE0 SC SR g hInv
  refine lv_aload_n hx hb dL_law_1378 rfl (lv_at hl 1 rfl) ?_
  refine lv_aload_n hx hb dL_law_1379 rfl (lv_at hl 0 rfl) ?_
  refine lv_iload_n hx hb dL_law_1380 rfl (lv_at hl 3 rfl) ?_
  refine lv_iconst (v := (1 : Int32)) hx hb dL_law_1381 (by decide) ?_
  refine lv_iadd hx hb dL_law_1382 ?_
  refine va_sld hx hb hX hbl hbA M.2.2.1 (hin 1 (by decide)) dL_law_1383 ?_
  refine vtopi (hval 1 (by decide)) ?_
  refine lv_aload_n hx hb dL_law_1384 rfl (lv_at hl 0 rfl) ?_
  refine lv_iload_n hx hb dL_law_1385 rfl (lv_at hl 3 rfl) ?_
  refine lv_iconst (v := (2 : Int32)) hx hb dL_law_1386 (by decide) ?_
  refine lv_iadd hx hb dL_law_1387 ?_
  refine va_sld hx hb hX hbl hbA M.2.2.1 (hin 2 (by decide)) dL_law_1388 ?_
  refine vtopi (hval 2 (by decide)) ?_
  refine lv_aload_n hx hb dL_law_1389 rfl (lv_at hl 0 rfl) ?_
  refine lv_iload_n hx hb dL_law_1390 rfl (lv_at hl 3 rfl) ?_
  refine lv_iconst (v := (3 : Int32)) hx hb dL_law_1391 (by decide) ?_
  refine lv_iadd hx hb dL_law_1392 ?_
  refine va_sld hx hb hX hbl hbA M.2.2.1 (hin 3 (by decide)) dL_law_1393 ?_
  refine vtopi (hval 3 (by decide)) ?_
  refine g2_CML (r_V (rest := []) (As := [.int (g 1), .int (g 2), .int (g 3)]) C0 cb_L_145 M.1 (hI _ _ hInv).1 (tX9_cell l D cy adC AC h1) (pre_R C0 M.1) hl dL_law_1394 rfl (Nat.le_of_ble_eq_true rfl) ⟨rfl, rfl⟩ ⟨Nat.le_of_ble_eq_true rfl, Nat.le_of_ble_eq_true rfl⟩ ⟨by show _ ≤ 600000; omega, by show _ ≤ 7302250; omega⟩ rfl) hL M (fun H locs M => ?_)
  refine lv_aload_n hx hb dL_law_1397 rfl (lv_at hl 2 rfl) ?_
  refine lv_aload_n hx hb dL_law_1398 rfl (lv_at hl 0 rfl) ?_
  refine lv_iload_n hx hb dL_law_1399 rfl (lv_at hl 3 rfl) ?_
  refine lv_iconst (v := (1 : Int32)) hx hb dL_law_1400 (by decide) ?_
  refine lv_iadd hx hb dL_law_1401 ?_
  refine va_sld hx hb hX hbl hbA M.2.2.1 (hin 1 (by decide)) dL_law_1402 ?_
  refine vtopi (hval 1 (by decide)) ?_
  refine lv_aload_n hx hb dL_law_1403 rfl (lv_at hl 0 rfl) ?_
  refine lv_iload_n hx hb dL_law_1404 rfl (lv_at hl 3 rfl) ?_
  refine lv_iconst (v := (2 : Int32)) hx hb dL_law_1405 (by decide) ?_
  refine lv_iadd hx hb dL_law_1406 ?_
  refine va_sld hx hb hX hbl hbA M.2.2.1 (hin 2 (by decide)) dL_law_1407 ?_
  refine vtopi (hval 2 (by decide)) ?_
  refine lv_aload_n hx hb dL_law_1408 rfl (lv_at hl 0 rfl) ?_
  refine lv_iload_n hx hb dL_law_1409 rfl (lv_at hl 3 rfl) ?_
  refine lv_iconst (v := (3 : Int32)) hx hb dL_law_1410 (by decide) ?_
  refine lv_iadd hx hb dL_law_1411 ?_
  refine va_sld hx hb hX hbl hbA M.2.2.1 (hin 3 (by decide)) dL_law_1412 ?_
  refine vtopi (hval 3 (by decide)) ?_
  refine g2_RML (r_V (rest := [.long r]) (As := [.int (g 1), .int (g 2), .int (g 3)]) C0 cb_L_149 M.2.1 (hI _ _ hInv).2 (tX10_cell l D cy adR AR h2) (pre_R C0 M.2.1) hl dL_law_1413 rfl (Nat.le_of_ble_eq_true rfl) ⟨rfl, rfl⟩ ⟨Nat.le_of_ble_eq_true rfl, Nat.le_of_ble_eq_true rfl⟩ ⟨by show _ ≤ 600000; omega, by show _ ≤ 7302250; omega⟩ rfl) hL M (fun H locs M => ?_)
  refine W.lcmp hx hb dL_law_1416 ?_
  refine lv_if_eq (tgt := 1613) hx hb dL_law_1417 (by decide) (fun hc => ?_) (fun hc => absurd (lg_self r) hc)
  refine W.widen (k := cells + 5) (n := slots + 64) (by omega) (by omega) ?_
  exact K _ _ _ _ h3 M
/-- case 32: copy -/
def E_32 (Inv : MS → MS → Prop) : Prop := ∀ (SC SR : MS) (g : Nat → Int32), Inv SC SR → ∃ (r : Int32) (SC' : MS) (SR' : MS), fX9_copy SC 1 (g 1) (g 2) (g 3) (g 4) (g 5) = some (r, SC') ∧ fX10_copy SR 1 (g 1) (g 2) (g 3) (g 4) (g 5) = some (r, SR') ∧ Inv SC' SR'
set_option maxHeartbeats 4000000 in
set_option maxRecDepth 100000 in
theorem wLaw_32 {p : Program} {l : Launch} {e : Env} {s : State} {m : MethodId} {below : List Frame} {meth : Method} {c : Code} {D : va_G} {cy : Nat → ClassId} {adC adR : Nat → Nat} {AC AR : Nat → Prop} {K0 b L : Nat} {xs : Nat → Int32} {Inv : MS → MS → Prop} (C0 : CX p s m #[Value.ref b] meth c R_law cL_law 4 D cy) (hX : va_X b L xs s s.heap) (hbl : b < s.heap.size) (hbA : ¬ s.heap.size ≤ b) (hE : EX adC (fun q => s.heap.size ≤ q) s) (hL : LA s.heap AC AR) (hA : ∀ k, 0 < k → AC (adC k)) (hs : ∀ k, K0 ≤ k → adC (k + 1) + 1 = adC (k + 2)) (hI : ∀ SC SR, Inv SC SR → o_is SC 1 10 = some 1 ∧ o_is SR 1 11 = some 1) {SC SR : MS} (hInv : Inv SC SR) {H : Heap} {locs : List Loc} {cells slots : Nat} (M : LW D cy adC AC adR AR s.heap K0 SC SR H locs) (hcc : cells + 5 ≤ 600000 ∧ slots + 64 ≤ 7302250) {x3 : Int32} {g : Nat → Int32} (hin : ∀ j, j < 9 → vp_in (x3 + nI j) L) (hval : ∀ j, j < 9 → xs (x3 + nI j).toNatClampNeg = g j) {ls : Array Slot} (hl : lv_has ls 4 [(0, .ref b), (1, .ref (adC 1)), (2, .ref (adR 1)), (3, .int x3)]) (hE0 : E_32 Inv)
    (K : ∀ (SC' SR' : MS) (H : Heap) (locs : List Loc), Inv SC' SR' → LW D cy adC AC adR AR s.heap K0 SC' SR' H locs → W p l e room_1 s m #[Value.ref b] below meth c H locs (cells + 5) (slots + 64) (lw_Z below #[Value.ref b] s) (F0 m 1613 ls [])) : W p l e room_1 s m #[Value.ref b] below meth c H locs cells slots (lw_Z below #[Value.ref b] s) (F0 m 1422 ls []) := by
  obtain ⟨hx, hb, -, hown, -, hts, -⟩ := id C0
  obtain ⟨r, SC', SR', h1, h2, h3⟩ := hE0 SC SR g hInv
  refine lv_aload_n hx hb dL_law_1422 rfl (lv_at hl 1 rfl) ?_
  refine lv_aload_n hx hb dL_law_1423 rfl (lv_at hl 0 rfl) ?_
  refine lv_iload_n hx hb dL_law_1424 rfl (lv_at hl 3 rfl) ?_
  refine lv_iconst (v := (1 : Int32)) hx hb dL_law_1425 (by decide) ?_
  refine lv_iadd hx hb dL_law_1426 ?_
  refine va_sld hx hb hX hbl hbA M.2.2.1 (hin 1 (by decide)) dL_law_1427 ?_
  refine vtopi (hval 1 (by decide)) ?_
  refine lv_aload_n hx hb dL_law_1428 rfl (lv_at hl 0 rfl) ?_
  refine lv_iload_n hx hb dL_law_1429 rfl (lv_at hl 3 rfl) ?_
  refine lv_iconst (v := (2 : Int32)) hx hb dL_law_1430 (by decide) ?_
  refine lv_iadd hx hb dL_law_1431 ?_
  refine va_sld hx hb hX hbl hbA M.2.2.1 (hin 2 (by decide)) dL_law_1432 ?_
  refine vtopi (hval 2 (by decide)) ?_
  refine lv_aload_n hx hb dL_law_1433 rfl (lv_at hl 0 rfl) ?_
  refine lv_iload_n hx hb dL_law_1434 rfl (lv_at hl 3 rfl) ?_
  refine lv_iconst (v := (3 : Int32)) hx hb dL_law_1435 (by decide) ?_
  refine lv_iadd hx hb dL_law_1436 ?_
  refine va_sld hx hb hX hbl hbA M.2.2.1 (hin 3 (by decide)) dL_law_1437 ?_
  refine vtopi (hval 3 (by decide)) ?_
  refine lv_aload_n hx hb dL_law_1438 rfl (lv_at hl 0 rfl) ?_
  refine lv_iload_n hx hb dL_law_1439 rfl (lv_at hl 3 rfl) ?_
  refine lv_iconst (v := (4 : Int32)) hx hb dL_law_1440 (by decide) ?_
  refine lv_iadd hx hb dL_law_1441 ?_
  refine va_sld hx hb hX hbl hbA M.2.2.1 (hin 4 (by decide)) dL_law_1442 ?_
  refine vtopi (hval 4 (by decide)) ?_
  refine lv_aload_n hx hb dL_law_1443 rfl (lv_at hl 0 rfl) ?_
  refine lv_iload_n hx hb dL_law_1444 rfl (lv_at hl 3 rfl) ?_
  refine lv_iconst (v := (5 : Int32)) hx hb dL_law_1445 (by decide) ?_
  refine lv_iadd hx hb dL_law_1446 ?_
  refine va_sld hx hb hX hbl hbA M.2.2.1 (hin 5 (by decide)) dL_law_1447 ?_
  refine vtopi (hval 5 (by decide)) ?_
  refine g2_CMI (r_V (rest := []) (As := [.int (g 1), .int (g 2), .int (g 3), .int (g 4), .int (g 5)]) C0 cb_L_150 M.1 (hI _ _ hInv).1 (tX9_copy l D cy adC AC h1) (pre_R C0 M.1) hl dL_law_1448 rfl (Nat.le_of_ble_eq_true rfl) ⟨rfl, rfl⟩ ⟨Nat.le_of_ble_eq_true rfl, Nat.le_of_ble_eq_true rfl⟩ ⟨by show _ ≤ 600000; omega, by show _ ≤ 7302250; omega⟩ rfl) hL M (fun H locs M => ?_)
  refine lv_aload_n hx hb dL_law_1451 rfl (lv_at hl 2 rfl) ?_
  refine lv_aload_n hx hb dL_law_1452 rfl (lv_at hl 0 rfl) ?_
  refine lv_iload_n hx hb dL_law_1453 rfl (lv_at hl 3 rfl) ?_
  refine lv_iconst (v := (1 : Int32)) hx hb dL_law_1454 (by decide) ?_
  refine lv_iadd hx hb dL_law_1455 ?_
  refine va_sld hx hb hX hbl hbA M.2.2.1 (hin 1 (by decide)) dL_law_1456 ?_
  refine vtopi (hval 1 (by decide)) ?_
  refine lv_aload_n hx hb dL_law_1457 rfl (lv_at hl 0 rfl) ?_
  refine lv_iload_n hx hb dL_law_1458 rfl (lv_at hl 3 rfl) ?_
  refine lv_iconst (v := (2 : Int32)) hx hb dL_law_1459 (by decide) ?_
  refine lv_iadd hx hb dL_law_1460 ?_
  refine va_sld hx hb hX hbl hbA M.2.2.1 (hin 2 (by decide)) dL_law_1461 ?_
  refine vtopi (hval 2 (by decide)) ?_
  refine lv_aload_n hx hb dL_law_1462 rfl (lv_at hl 0 rfl) ?_
  refine lv_iload_n hx hb dL_law_1463 rfl (lv_at hl 3 rfl) ?_
  refine lv_iconst (v := (3 : Int32)) hx hb dL_law_1464 (by decide) ?_
  refine lv_iadd hx hb dL_law_1465 ?_
  refine va_sld hx hb hX hbl hbA M.2.2.1 (hin 3 (by decide)) dL_law_1466 ?_
  refine vtopi (hval 3 (by decide)) ?_
  refine lv_aload_n hx hb dL_law_1467 rfl (lv_at hl 0 rfl) ?_
  refine lv_iload_n hx hb dL_law_1468 rfl (lv_at hl 3 rfl) ?_
  refine lv_iconst (v := (4 : Int32)) hx hb dL_law_1469 (by decide) ?_
  refine lv_iadd hx hb dL_law_1470 ?_
  refine va_sld hx hb hX hbl hbA M.2.2.1 (hin 4 (by decide)) dL_law_1471 ?_
  refine vtopi (hval 4 (by decide)) ?_
  refine lv_aload_n hx hb dL_law_1472 rfl (lv_at hl 0 rfl) ?_
  refine lv_iload_n hx hb dL_law_1473 rfl (lv_at hl 3 rfl) ?_
  refine lv_iconst (v := (5 : Int32)) hx hb dL_law_1474 (by decide) ?_
  refine lv_iadd hx hb dL_law_1475 ?_
  refine va_sld hx hb hX hbl hbA M.2.2.1 (hin 5 (by decide)) dL_law_1476 ?_
  refine vtopi (hval 5 (by decide)) ?_
  refine g2_RMI (r_V (rest := [.int r]) (As := [.int (g 1), .int (g 2), .int (g 3), .int (g 4), .int (g 5)]) C0 cb_L_154 M.2.1 (hI _ _ hInv).2 (tX10_copy l D cy adR AR h2) (pre_R C0 M.2.1) hl dL_law_1477 rfl (Nat.le_of_ble_eq_true rfl) ⟨rfl, rfl⟩ ⟨Nat.le_of_ble_eq_true rfl, Nat.le_of_ble_eq_true rfl⟩ ⟨by show _ ≤ 600000; omega, by show _ ≤ 7302250; omega⟩ rfl) hL M (fun H locs M => ?_)
  refine lv_icmp_eq (tgt := 1613) hx hb dL_law_1480 (by decide) (fun hc => ?_) (fun hc => absurd rfl hc)
  refine W.widen (k := cells + 5) (n := slots + 64) (by omega) (by omega) ?_
  exact K _ _ _ _ h3 M
/-- case 33: tell -/
def E_33 (Inv : MS → MS → Prop) : Prop := ∀ (SC SR : MS) (g : Nat → Int32), Inv SC SR → ∃ (r : Int32) (SC' : MS) (SR' : MS), fX9_tell SC 1 (g 1) = some (r, SC') ∧ fX10_tell SR 1 (g 1) = some (r, SR') ∧ Inv SC' SR'
set_option maxHeartbeats 4000000 in
set_option maxRecDepth 100000 in
theorem wLaw_33 {p : Program} {l : Launch} {e : Env} {s : State} {m : MethodId} {below : List Frame} {meth : Method} {c : Code} {D : va_G} {cy : Nat → ClassId} {adC adR : Nat → Nat} {AC AR : Nat → Prop} {K0 b L : Nat} {xs : Nat → Int32} {Inv : MS → MS → Prop} (C0 : CX p s m #[Value.ref b] meth c R_law cL_law 4 D cy) (hX : va_X b L xs s s.heap) (hbl : b < s.heap.size) (hbA : ¬ s.heap.size ≤ b) (hE : EX adC (fun q => s.heap.size ≤ q) s) (hL : LA s.heap AC AR) (hA : ∀ k, 0 < k → AC (adC k)) (hs : ∀ k, K0 ≤ k → adC (k + 1) + 1 = adC (k + 2)) (hI : ∀ SC SR, Inv SC SR → o_is SC 1 10 = some 1 ∧ o_is SR 1 11 = some 1) {SC SR : MS} (hInv : Inv SC SR) {H : Heap} {locs : List Loc} {cells slots : Nat} (M : LW D cy adC AC adR AR s.heap K0 SC SR H locs) (hcc : cells + 5 ≤ 600000 ∧ slots + 64 ≤ 7302250) {x3 : Int32} {g : Nat → Int32} (hin : ∀ j, j < 9 → vp_in (x3 + nI j) L) (hval : ∀ j, j < 9 → xs (x3 + nI j).toNatClampNeg = g j) {ls : Array Slot} (hl : lv_has ls 4 [(0, .ref b), (1, .ref (adC 1)), (2, .ref (adR 1)), (3, .int x3)]) (hE0 : E_33 Inv)
    (K : ∀ (SC' SR' : MS) (H : Heap) (locs : List Loc), Inv SC' SR' → LW D cy adC AC adR AR s.heap K0 SC' SR' H locs → W p l e room_1 s m #[Value.ref b] below meth c H locs (cells + 5) (slots + 64) (lw_Z below #[Value.ref b] s) (F0 m 1613 ls [])) : W p l e room_1 s m #[Value.ref b] below meth c H locs cells slots (lw_Z below #[Value.ref b] s) (F0 m 1485 ls []) := by
  obtain ⟨hx, hb, -, hown, -, hts, -⟩ := id C0
  obtain ⟨r, SC', SR', h1, h2, h3⟩ := hE0 SC SR g hInv
  refine lv_aload_n hx hb dL_law_1485 rfl (lv_at hl 1 rfl) ?_
  refine lv_aload_n hx hb dL_law_1486 rfl (lv_at hl 0 rfl) ?_
  refine lv_iload_n hx hb dL_law_1487 rfl (lv_at hl 3 rfl) ?_
  refine lv_iconst (v := (1 : Int32)) hx hb dL_law_1488 (by decide) ?_
  refine lv_iadd hx hb dL_law_1489 ?_
  refine va_sld hx hb hX hbl hbA M.2.2.1 (hin 1 (by decide)) dL_law_1490 ?_
  refine vtopi (hval 1 (by decide)) ?_
  refine g2_CMI (r_V (rest := []) (As := [.int (g 1)]) C0 cb_L_155 M.1 (hI _ _ hInv).1 (tX9_tell l D cy adC AC h1) (pre_R C0 M.1) hl dL_law_1491 rfl (Nat.le_of_ble_eq_true rfl) ⟨rfl, rfl⟩ ⟨Nat.le_of_ble_eq_true rfl, Nat.le_of_ble_eq_true rfl⟩ ⟨by show _ ≤ 600000; omega, by show _ ≤ 7302250; omega⟩ rfl) hL M (fun H locs M => ?_)
  refine lv_aload_n hx hb dL_law_1494 rfl (lv_at hl 2 rfl) ?_
  refine lv_aload_n hx hb dL_law_1495 rfl (lv_at hl 0 rfl) ?_
  refine lv_iload_n hx hb dL_law_1496 rfl (lv_at hl 3 rfl) ?_
  refine lv_iconst (v := (1 : Int32)) hx hb dL_law_1497 (by decide) ?_
  refine lv_iadd hx hb dL_law_1498 ?_
  refine va_sld hx hb hX hbl hbA M.2.2.1 (hin 1 (by decide)) dL_law_1499 ?_
  refine vtopi (hval 1 (by decide)) ?_
  refine g2_RMI (r_V (rest := [.int r]) (As := [.int (g 1)]) C0 cb_L_158 M.2.1 (hI _ _ hInv).2 (tX10_tell l D cy adR AR h2) (pre_R C0 M.2.1) hl dL_law_1500 rfl (Nat.le_of_ble_eq_true rfl) ⟨rfl, rfl⟩ ⟨Nat.le_of_ble_eq_true rfl, Nat.le_of_ble_eq_true rfl⟩ ⟨by show _ ≤ 600000; omega, by show _ ≤ 7302250; omega⟩ rfl) hL M (fun H locs M => ?_)
  refine lv_icmp_eq (tgt := 1613) hx hb dL_law_1503 (by decide) (fun hc => ?_) (fun hc => absurd rfl hc)
  refine W.widen (k := cells + 5) (n := slots + 64) (by omega) (by omega) ?_
  exact K _ _ _ _ h3 M
/-- case 34: hail -/
def E_34 (Inv : MS → MS → Prop) : Prop := ∀ (SC SR : MS) (g : Nat → Int32), Inv SC SR → ∃ (r : Int32) (SC' : MS) (SR' : MS), fX9_hail SC 1 (g 1) = some (r, SC') ∧ fX10_hail SR 1 (g 1) = some (r, SR') ∧ Inv SC' SR'
set_option maxHeartbeats 4000000 in
set_option maxRecDepth 100000 in
theorem wLaw_34 {p : Program} {l : Launch} {e : Env} {s : State} {m : MethodId} {below : List Frame} {meth : Method} {c : Code} {D : va_G} {cy : Nat → ClassId} {adC adR : Nat → Nat} {AC AR : Nat → Prop} {K0 b L : Nat} {xs : Nat → Int32} {Inv : MS → MS → Prop} (C0 : CX p s m #[Value.ref b] meth c R_law cL_law 4 D cy) (hX : va_X b L xs s s.heap) (hbl : b < s.heap.size) (hbA : ¬ s.heap.size ≤ b) (hE : EX adC (fun q => s.heap.size ≤ q) s) (hL : LA s.heap AC AR) (hA : ∀ k, 0 < k → AC (adC k)) (hs : ∀ k, K0 ≤ k → adC (k + 1) + 1 = adC (k + 2)) (hI : ∀ SC SR, Inv SC SR → o_is SC 1 10 = some 1 ∧ o_is SR 1 11 = some 1) {SC SR : MS} (hInv : Inv SC SR) {H : Heap} {locs : List Loc} {cells slots : Nat} (M : LW D cy adC AC adR AR s.heap K0 SC SR H locs) (hcc : cells + 5 ≤ 600000 ∧ slots + 64 ≤ 7302250) {x3 : Int32} {g : Nat → Int32} (hin : ∀ j, j < 9 → vp_in (x3 + nI j) L) (hval : ∀ j, j < 9 → xs (x3 + nI j).toNatClampNeg = g j) {ls : Array Slot} (hl : lv_has ls 4 [(0, .ref b), (1, .ref (adC 1)), (2, .ref (adR 1)), (3, .int x3)]) (hE0 : E_34 Inv)
    (K : ∀ (SC' SR' : MS) (H : Heap) (locs : List Loc), Inv SC' SR' → LW D cy adC AC adR AR s.heap K0 SC' SR' H locs → W p l e room_1 s m #[Value.ref b] below meth c H locs (cells + 5) (slots + 64) (lw_Z below #[Value.ref b] s) (F0 m 1613 ls [])) : W p l e room_1 s m #[Value.ref b] below meth c H locs cells slots (lw_Z below #[Value.ref b] s) (F0 m 1508 ls []) := by
  obtain ⟨hx, hb, -, hown, -, hts, -⟩ := id C0
  obtain ⟨r, SC', SR', h1, h2, h3⟩ := hE0 SC SR g hInv
  refine lv_aload_n hx hb dL_law_1508 rfl (lv_at hl 1 rfl) ?_
  refine lv_aload_n hx hb dL_law_1509 rfl (lv_at hl 0 rfl) ?_
  refine lv_iload_n hx hb dL_law_1510 rfl (lv_at hl 3 rfl) ?_
  refine lv_iconst (v := (1 : Int32)) hx hb dL_law_1511 (by decide) ?_
  refine lv_iadd hx hb dL_law_1512 ?_
  refine va_sld hx hb hX hbl hbA M.2.2.1 (hin 1 (by decide)) dL_law_1513 ?_
  refine vtopi (hval 1 (by decide)) ?_
  refine g2_CMI (r_V (rest := []) (As := [.int (g 1)]) C0 cb_L_159 M.1 (hI _ _ hInv).1 (tX9_hail l D cy adC AC h1) (pre_R C0 M.1) hl dL_law_1514 rfl (Nat.le_of_ble_eq_true rfl) ⟨rfl, rfl⟩ ⟨Nat.le_of_ble_eq_true rfl, Nat.le_of_ble_eq_true rfl⟩ ⟨by show _ ≤ 600000; omega, by show _ ≤ 7302250; omega⟩ rfl) hL M (fun H locs M => ?_)
  refine lv_aload_n hx hb dL_law_1517 rfl (lv_at hl 2 rfl) ?_
  refine lv_aload_n hx hb dL_law_1518 rfl (lv_at hl 0 rfl) ?_
  refine lv_iload_n hx hb dL_law_1519 rfl (lv_at hl 3 rfl) ?_
  refine lv_iconst (v := (1 : Int32)) hx hb dL_law_1520 (by decide) ?_
  refine lv_iadd hx hb dL_law_1521 ?_
  refine va_sld hx hb hX hbl hbA M.2.2.1 (hin 1 (by decide)) dL_law_1522 ?_
  refine vtopi (hval 1 (by decide)) ?_
  refine g2_RMI (r_V (rest := [.int r]) (As := [.int (g 1)]) C0 cb_L_162 M.2.1 (hI _ _ hInv).2 (tX10_hail l D cy adR AR h2) (pre_R C0 M.2.1) hl dL_law_1523 rfl (Nat.le_of_ble_eq_true rfl) ⟨rfl, rfl⟩ ⟨Nat.le_of_ble_eq_true rfl, Nat.le_of_ble_eq_true rfl⟩ ⟨by show _ ≤ 600000; omega, by show _ ≤ 7302250; omega⟩ rfl) hL M (fun H locs M => ?_)
  refine lv_icmp_eq (tgt := 1613) hx hb dL_law_1526 (by decide) (fun hc => ?_) (fun hc => absurd rfl hc)
  refine W.widen (k := cells + 5) (n := slots + 64) (by omega) (by omega) ?_
  exact K _ _ _ _ h3 M
/-- case 35: as -/
def E_35 (Inv : MS → MS → Prop) : Prop := ∀ (SC SR : MS) (g : Nat → Int32), Inv SC SR → ∃ (r : Int32) (SC' : MS) (SR' : MS), fX9_as SC 1 (g 1) (g 2) = some (r, SC') ∧ fX10_as SR 1 (g 1) (g 2) = some (r, SR') ∧ Inv SC' SR'
set_option maxHeartbeats 4000000 in
set_option maxRecDepth 100000 in
theorem wLaw_35 {p : Program} {l : Launch} {e : Env} {s : State} {m : MethodId} {below : List Frame} {meth : Method} {c : Code} {D : va_G} {cy : Nat → ClassId} {adC adR : Nat → Nat} {AC AR : Nat → Prop} {K0 b L : Nat} {xs : Nat → Int32} {Inv : MS → MS → Prop} (C0 : CX p s m #[Value.ref b] meth c R_law cL_law 4 D cy) (hX : va_X b L xs s s.heap) (hbl : b < s.heap.size) (hbA : ¬ s.heap.size ≤ b) (hE : EX adC (fun q => s.heap.size ≤ q) s) (hL : LA s.heap AC AR) (hA : ∀ k, 0 < k → AC (adC k)) (hs : ∀ k, K0 ≤ k → adC (k + 1) + 1 = adC (k + 2)) (hI : ∀ SC SR, Inv SC SR → o_is SC 1 10 = some 1 ∧ o_is SR 1 11 = some 1) {SC SR : MS} (hInv : Inv SC SR) {H : Heap} {locs : List Loc} {cells slots : Nat} (M : LW D cy adC AC adR AR s.heap K0 SC SR H locs) (hcc : cells + 5 ≤ 600000 ∧ slots + 64 ≤ 7302250) {x3 : Int32} {g : Nat → Int32} (hin : ∀ j, j < 9 → vp_in (x3 + nI j) L) (hval : ∀ j, j < 9 → xs (x3 + nI j).toNatClampNeg = g j) {ls : Array Slot} (hl : lv_has ls 4 [(0, .ref b), (1, .ref (adC 1)), (2, .ref (adR 1)), (3, .int x3)]) (hE0 : E_35 Inv)
    (K : ∀ (SC' SR' : MS) (H : Heap) (locs : List Loc), Inv SC' SR' → LW D cy adC AC adR AR s.heap K0 SC' SR' H locs → W p l e room_1 s m #[Value.ref b] below meth c H locs (cells + 5) (slots + 64) (lw_Z below #[Value.ref b] s) (F0 m 1613 ls [])) : W p l e room_1 s m #[Value.ref b] below meth c H locs cells slots (lw_Z below #[Value.ref b] s) (F0 m 1531 ls []) := by
  obtain ⟨hx, hb, -, hown, -, hts, -⟩ := id C0
  obtain ⟨r, SC', SR', h1, h2, h3⟩ := hE0 SC SR g hInv
  refine lv_aload_n hx hb dL_law_1531 rfl (lv_at hl 1 rfl) ?_
  refine lv_aload_n hx hb dL_law_1532 rfl (lv_at hl 0 rfl) ?_
  refine lv_iload_n hx hb dL_law_1533 rfl (lv_at hl 3 rfl) ?_
  refine lv_iconst (v := (1 : Int32)) hx hb dL_law_1534 (by decide) ?_
  refine lv_iadd hx hb dL_law_1535 ?_
  refine va_sld hx hb hX hbl hbA M.2.2.1 (hin 1 (by decide)) dL_law_1536 ?_
  refine vtopi (hval 1 (by decide)) ?_
  refine lv_aload_n hx hb dL_law_1537 rfl (lv_at hl 0 rfl) ?_
  refine lv_iload_n hx hb dL_law_1538 rfl (lv_at hl 3 rfl) ?_
  refine lv_iconst (v := (2 : Int32)) hx hb dL_law_1539 (by decide) ?_
  refine lv_iadd hx hb dL_law_1540 ?_
  refine va_sld hx hb hX hbl hbA M.2.2.1 (hin 2 (by decide)) dL_law_1541 ?_
  refine vtopi (hval 2 (by decide)) ?_
  refine g2_CMI (r_V (rest := []) (As := [.int (g 1), .int (g 2)]) C0 cb_L_163 M.1 (hI _ _ hInv).1 (tX9_as l D cy adC AC h1) (pre_R C0 M.1) hl dL_law_1542 rfl (Nat.le_of_ble_eq_true rfl) ⟨rfl, rfl⟩ ⟨Nat.le_of_ble_eq_true rfl, Nat.le_of_ble_eq_true rfl⟩ ⟨by show _ ≤ 600000; omega, by show _ ≤ 7302250; omega⟩ rfl) hL M (fun H locs M => ?_)
  refine lv_aload_n hx hb dL_law_1545 rfl (lv_at hl 2 rfl) ?_
  refine lv_aload_n hx hb dL_law_1546 rfl (lv_at hl 0 rfl) ?_
  refine lv_iload_n hx hb dL_law_1547 rfl (lv_at hl 3 rfl) ?_
  refine lv_iconst (v := (1 : Int32)) hx hb dL_law_1548 (by decide) ?_
  refine lv_iadd hx hb dL_law_1549 ?_
  refine va_sld hx hb hX hbl hbA M.2.2.1 (hin 1 (by decide)) dL_law_1550 ?_
  refine vtopi (hval 1 (by decide)) ?_
  refine lv_aload_n hx hb dL_law_1551 rfl (lv_at hl 0 rfl) ?_
  refine lv_iload_n hx hb dL_law_1552 rfl (lv_at hl 3 rfl) ?_
  refine lv_iconst (v := (2 : Int32)) hx hb dL_law_1553 (by decide) ?_
  refine lv_iadd hx hb dL_law_1554 ?_
  refine va_sld hx hb hX hbl hbA M.2.2.1 (hin 2 (by decide)) dL_law_1555 ?_
  refine vtopi (hval 2 (by decide)) ?_
  refine g2_RMI (r_V (rest := [.int r]) (As := [.int (g 1), .int (g 2)]) C0 cb_L_166 M.2.1 (hI _ _ hInv).2 (tX10_as l D cy adR AR h2) (pre_R C0 M.2.1) hl dL_law_1556 rfl (Nat.le_of_ble_eq_true rfl) ⟨rfl, rfl⟩ ⟨Nat.le_of_ble_eq_true rfl, Nat.le_of_ble_eq_true rfl⟩ ⟨by show _ ≤ 600000; omega, by show _ ≤ 7302250; omega⟩ rfl) hL M (fun H locs M => ?_)
  refine lv_icmp_eq (tgt := 1613) hx hb dL_law_1559 (by decide) (fun hc => ?_) (fun hc => absurd rfl hc)
  refine W.widen (k := cells + 5) (n := slots + 64) (by omega) (by omega) ?_
  exact K _ _ _ _ h3 M
/-- case 36: trace -/
def E_36 (Inv : MS → MS → Prop) : Prop := ∀ (SC SR : MS) (g : Nat → Int32), Inv SC SR → ∃ (r : Int32), fX9_trace SC 1 = some r ∧ fX10_trace SR 1 = some r ∧ Inv SC SR
set_option maxHeartbeats 4000000 in
set_option maxRecDepth 100000 in
theorem wLaw_36 {p : Program} {l : Launch} {e : Env} {s : State} {m : MethodId} {below : List Frame} {meth : Method} {c : Code} {D : va_G} {cy : Nat → ClassId} {adC adR : Nat → Nat} {AC AR : Nat → Prop} {K0 b L : Nat} {xs : Nat → Int32} {Inv : MS → MS → Prop} (C0 : CX p s m #[Value.ref b] meth c R_law cL_law 4 D cy) (hX : va_X b L xs s s.heap) (hbl : b < s.heap.size) (hbA : ¬ s.heap.size ≤ b) (hE : EX adC (fun q => s.heap.size ≤ q) s) (hL : LA s.heap AC AR) (hA : ∀ k, 0 < k → AC (adC k)) (hs : ∀ k, K0 ≤ k → adC (k + 1) + 1 = adC (k + 2)) (hI : ∀ SC SR, Inv SC SR → o_is SC 1 10 = some 1 ∧ o_is SR 1 11 = some 1) {SC SR : MS} (hInv : Inv SC SR) {H : Heap} {locs : List Loc} {cells slots : Nat} (M : LW D cy adC AC adR AR s.heap K0 SC SR H locs) (hcc : cells + 5 ≤ 600000 ∧ slots + 64 ≤ 7302250) {x3 : Int32} {g : Nat → Int32} (hin : ∀ j, j < 9 → vp_in (x3 + nI j) L) (hval : ∀ j, j < 9 → xs (x3 + nI j).toNatClampNeg = g j) {ls : Array Slot} (hl : lv_has ls 4 [(0, .ref b), (1, .ref (adC 1)), (2, .ref (adR 1)), (3, .int x3)]) (hE0 : E_36 Inv)
    (K : ∀ (SC' SR' : MS) (H : Heap) (locs : List Loc), Inv SC' SR' → LW D cy adC AC adR AR s.heap K0 SC' SR' H locs → W p l e room_1 s m #[Value.ref b] below meth c H locs (cells + 5) (slots + 64) (lw_Z below #[Value.ref b] s) (F0 m 1613 ls [])) : W p l e room_1 s m #[Value.ref b] below meth c H locs cells slots (lw_Z below #[Value.ref b] s) (F0 m 1564 ls []) := by
  obtain ⟨hx, hb, -, hown, -, hts, -⟩ := id C0
  obtain ⟨r, h1, h2, h3⟩ := hE0 SC SR g hInv
  refine lv_aload_n hx hb dL_law_1564 rfl (lv_at hl 1 rfl) ?_
  refine go_SI (r_V (rest := []) (As := []) C0 cb_L_167 M.1 (hI _ _ hInv).1 (tX9_trace l D cy adC AC h1) (pre_R C0 M.1) hl dL_law_1565 rfl (Nat.le_of_ble_eq_true rfl) ⟨rfl, rfl⟩ ⟨Nat.le_of_ble_eq_true rfl, Nat.le_of_ble_eq_true rfl⟩ ⟨by show _ ≤ 600000; omega, by show _ ≤ 7302250; omega⟩ rfl) ?_
  refine lv_aload_n hx hb dL_law_1568 rfl (lv_at hl 2 rfl) ?_
  refine go_SI (r_V (rest := [.int r]) (As := []) C0 cb_L_170 M.2.1 (hI _ _ hInv).2 (tX10_trace l D cy adR AR h2) (pre_R C0 M.2.1) hl dL_law_1569 rfl (Nat.le_of_ble_eq_true rfl) ⟨rfl, rfl⟩ ⟨Nat.le_of_ble_eq_true rfl, Nat.le_of_ble_eq_true rfl⟩ ⟨by show _ ≤ 600000; omega, by show _ ≤ 7302250; omega⟩ rfl) ?_
  refine lv_icmp_eq (tgt := 1613) hx hb dL_law_1572 (by decide) (fun hc => ?_) (fun hc => absurd rfl hc)
  refine W.widen (k := cells + 5) (n := slots + 64) (by omega) (by omega) ?_
  exact K _ _ _ _ h3 M
/-- case 37: fault -/
def E_37 (Inv : MS → MS → Prop) : Prop := ∀ (SC SR : MS) (g : Nat → Int32), Inv SC SR → ∃ (r : Int32), fX9_fault SC 1 = some r ∧ fX10_fault SR 1 = some r ∧ Inv SC SR
set_option maxHeartbeats 4000000 in
set_option maxRecDepth 100000 in
theorem wLaw_37 {p : Program} {l : Launch} {e : Env} {s : State} {m : MethodId} {below : List Frame} {meth : Method} {c : Code} {D : va_G} {cy : Nat → ClassId} {adC adR : Nat → Nat} {AC AR : Nat → Prop} {K0 b L : Nat} {xs : Nat → Int32} {Inv : MS → MS → Prop} (C0 : CX p s m #[Value.ref b] meth c R_law cL_law 4 D cy) (hX : va_X b L xs s s.heap) (hbl : b < s.heap.size) (hbA : ¬ s.heap.size ≤ b) (hE : EX adC (fun q => s.heap.size ≤ q) s) (hL : LA s.heap AC AR) (hA : ∀ k, 0 < k → AC (adC k)) (hs : ∀ k, K0 ≤ k → adC (k + 1) + 1 = adC (k + 2)) (hI : ∀ SC SR, Inv SC SR → o_is SC 1 10 = some 1 ∧ o_is SR 1 11 = some 1) {SC SR : MS} (hInv : Inv SC SR) {H : Heap} {locs : List Loc} {cells slots : Nat} (M : LW D cy adC AC adR AR s.heap K0 SC SR H locs) (hcc : cells + 5 ≤ 600000 ∧ slots + 64 ≤ 7302250) {x3 : Int32} {g : Nat → Int32} (hin : ∀ j, j < 9 → vp_in (x3 + nI j) L) (hval : ∀ j, j < 9 → xs (x3 + nI j).toNatClampNeg = g j) {ls : Array Slot} (hl : lv_has ls 4 [(0, .ref b), (1, .ref (adC 1)), (2, .ref (adR 1)), (3, .int x3)]) (hE0 : E_37 Inv)
    (K : ∀ (SC' SR' : MS) (H : Heap) (locs : List Loc), Inv SC' SR' → LW D cy adC AC adR AR s.heap K0 SC' SR' H locs → W p l e room_1 s m #[Value.ref b] below meth c H locs (cells + 5) (slots + 64) (lw_Z below #[Value.ref b] s) (F0 m 1613 ls [])) : W p l e room_1 s m #[Value.ref b] below meth c H locs cells slots (lw_Z below #[Value.ref b] s) (F0 m 1577 ls []) := by
  obtain ⟨hx, hb, -, hown, -, hts, -⟩ := id C0
  obtain ⟨r, h1, h2, h3⟩ := hE0 SC SR g hInv
  refine lv_aload_n hx hb dL_law_1577 rfl (lv_at hl 1 rfl) ?_
  refine go_SI (r_V (rest := []) (As := []) C0 cb_L_171 M.1 (hI _ _ hInv).1 (tX9_fault l D cy adC AC h1) (pre_R C0 M.1) hl dL_law_1578 rfl (Nat.le_of_ble_eq_true rfl) ⟨rfl, rfl⟩ ⟨Nat.le_of_ble_eq_true rfl, Nat.le_of_ble_eq_true rfl⟩ ⟨by show _ ≤ 600000; omega, by show _ ≤ 7302250; omega⟩ rfl) ?_
  refine lv_aload_n hx hb dL_law_1581 rfl (lv_at hl 2 rfl) ?_
  refine go_SI (r_V (rest := [.int r]) (As := []) C0 cb_L_174 M.2.1 (hI _ _ hInv).2 (tX10_fault l D cy adR AR h2) (pre_R C0 M.2.1) hl dL_law_1582 rfl (Nat.le_of_ble_eq_true rfl) ⟨rfl, rfl⟩ ⟨Nat.le_of_ble_eq_true rfl, Nat.le_of_ble_eq_true rfl⟩ ⟨by show _ ≤ 600000; omega, by show _ ≤ 7302250; omega⟩ rfl) ?_
  refine lv_icmp_eq (tgt := 1613) hx hb dL_law_1585 (by decide) (fun hc => ?_) (fun hc => absurd rfl hc)
  refine W.widen (k := cells + 5) (n := slots + 64) (by omega) (by omega) ?_
  exact K _ _ _ _ h3 M
/-- case 38: many -/
def E_38 (Inv : MS → MS → Prop) : Prop := ∀ (SC SR : MS) (g : Nat → Int32), Inv SC SR → ∃ (r : Int32) (SR' : MS), fX9_many SC 1 (g 1) = some r ∧ fX10_many SR 1 (g 1) = some (r, SR') ∧ Inv SC SR'
set_option maxHeartbeats 4000000 in
set_option maxRecDepth 100000 in
theorem wLaw_38 {p : Program} {l : Launch} {e : Env} {s : State} {m : MethodId} {below : List Frame} {meth : Method} {c : Code} {D : va_G} {cy : Nat → ClassId} {adC adR : Nat → Nat} {AC AR : Nat → Prop} {K0 b L : Nat} {xs : Nat → Int32} {Inv : MS → MS → Prop} (C0 : CX p s m #[Value.ref b] meth c R_law cL_law 4 D cy) (hX : va_X b L xs s s.heap) (hbl : b < s.heap.size) (hbA : ¬ s.heap.size ≤ b) (hE : EX adC (fun q => s.heap.size ≤ q) s) (hL : LA s.heap AC AR) (hA : ∀ k, 0 < k → AC (adC k)) (hs : ∀ k, K0 ≤ k → adC (k + 1) + 1 = adC (k + 2)) (hI : ∀ SC SR, Inv SC SR → o_is SC 1 10 = some 1 ∧ o_is SR 1 11 = some 1) {SC SR : MS} (hInv : Inv SC SR) {H : Heap} {locs : List Loc} {cells slots : Nat} (M : LW D cy adC AC adR AR s.heap K0 SC SR H locs) (hcc : cells + 5 ≤ 600000 ∧ slots + 64 ≤ 7302250) {x3 : Int32} {g : Nat → Int32} (hin : ∀ j, j < 9 → vp_in (x3 + nI j) L) (hval : ∀ j, j < 9 → xs (x3 + nI j).toNatClampNeg = g j) {ls : Array Slot} (hl : lv_has ls 4 [(0, .ref b), (1, .ref (adC 1)), (2, .ref (adR 1)), (3, .int x3)]) (hE0 : E_38 Inv)
    (K : ∀ (SC' SR' : MS) (H : Heap) (locs : List Loc), Inv SC' SR' → LW D cy adC AC adR AR s.heap K0 SC' SR' H locs → W p l e room_1 s m #[Value.ref b] below meth c H locs (cells + 5) (slots + 64) (lw_Z below #[Value.ref b] s) (F0 m 1613 ls [])) : W p l e room_1 s m #[Value.ref b] below meth c H locs cells slots (lw_Z below #[Value.ref b] s) (F0 m 1590 ls []) := by
  obtain ⟨hx, hb, -, hown, -, hts, -⟩ := id C0
  obtain ⟨r, SR', h1, h2, h3⟩ := hE0 SC SR g hInv
  refine lv_aload_n hx hb dL_law_1590 rfl (lv_at hl 1 rfl) ?_
  refine lv_aload_n hx hb dL_law_1591 rfl (lv_at hl 0 rfl) ?_
  refine lv_iload_n hx hb dL_law_1592 rfl (lv_at hl 3 rfl) ?_
  refine lv_iconst (v := (1 : Int32)) hx hb dL_law_1593 (by decide) ?_
  refine lv_iadd hx hb dL_law_1594 ?_
  refine va_sld hx hb hX hbl hbA M.2.2.1 (hin 1 (by decide)) dL_law_1595 ?_
  refine vtopi (hval 1 (by decide)) ?_
  refine go_SI (r_V (rest := []) (As := [.int (g 1)]) C0 cb_L_175 M.1 (hI _ _ hInv).1 (tX9_many l D cy adC AC h1) (pre_R C0 M.1) hl dL_law_1596 rfl (Nat.le_of_ble_eq_true rfl) ⟨rfl, rfl⟩ ⟨Nat.le_of_ble_eq_true rfl, Nat.le_of_ble_eq_true rfl⟩ ⟨by show _ ≤ 600000; omega, by show _ ≤ 7302250; omega⟩ rfl) ?_
  refine lv_aload_n hx hb dL_law_1599 rfl (lv_at hl 2 rfl) ?_
  refine lv_aload_n hx hb dL_law_1600 rfl (lv_at hl 0 rfl) ?_
  refine lv_iload_n hx hb dL_law_1601 rfl (lv_at hl 3 rfl) ?_
  refine lv_iconst (v := (1 : Int32)) hx hb dL_law_1602 (by decide) ?_
  refine lv_iadd hx hb dL_law_1603 ?_
  refine va_sld hx hb hX hbl hbA M.2.2.1 (hin 1 (by decide)) dL_law_1604 ?_
  refine vtopi (hval 1 (by decide)) ?_
  refine g2_RMI (r_V (rest := [.int r]) (As := [.int (g 1)]) C0 cb_L_178 M.2.1 (hI _ _ hInv).2 (tX10_many l D cy adR AR h2) (pre_R C0 M.2.1) hl dL_law_1605 rfl (Nat.le_of_ble_eq_true rfl) ⟨rfl, rfl⟩ ⟨Nat.le_of_ble_eq_true rfl, Nat.le_of_ble_eq_true rfl⟩ ⟨by show _ ≤ 600000; omega, by show _ ≤ 7302250; omega⟩ rfl) hL M (fun H locs M => ?_)
  refine lv_icmp_eq (tgt := 1613) hx hb dL_law_1608 (by decide) (fun hc => ?_) (fun hc => absurd rfl hc)
  refine W.widen (k := cells + 5) (n := slots + 64) (by omega) (by omega) ?_
  exact K _ _ _ _ h3 M
