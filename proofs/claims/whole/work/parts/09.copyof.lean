theorem cb_J7_304 : CBS RJ7 304 yJ9_min_7cf53 cJ9_min_7cf53 2 (some .int) 2 := ⟨⟨cw_J9_min_7cf53, ini_java_lang_Math, by decide, (uw_of 426 (by decide +kernel) rfl)⟩, (uw_of 427 (by decide +kernel) rfl)⟩
theorem cw_J7_copyOf_6403c : Cond.code yJ7_copyOf_6403c cJ7_copyOf_6403c 4 ((some (.array (.object "java/lang/Object")))) ∈ UW := (uw_of 422 (by decide +kernel) rfl)
theorem ini_java_util_Arrays : Cond.initialized "java/util/Arrays" ∈ UW := (uw_of 97 (by decide +kernel) rfl)
theorem cb_J7_300 : CBS RJ7 300 yJ7_copyOf_6403c cJ7_copyOf_6403c 4 ((some (.array (.object "java/lang/Object")))) 3 := ⟨⟨cw_J7_copyOf_6403c, ini_java_util_Arrays, by decide, (uw_of 420 (by decide +kernel) rfl)⟩, (uw_of 421 (by decide +kernel) rfl)⟩
theorem cw_J7_copyOf_1904c : Cond.code yJ7_copyOf_1904c cJ7_copyOf_1904c 2 ((some (.array (.object "java/lang/Object")))) ∈ UW := (uw_of 403 (by decide +kernel) rfl)
theorem ini_java_lang_System : Cond.initialized "java/lang/System" ∈ UW := (uw_of 98 (by decide +kernel) rfl)
def PcX (D : va_G) (cy : Nat → ClassId) (ad : Nat → Nat) (A : Nat → Prop) (K0 : Nat) (S : MS) (mi : Nat) (vs : List Value) : Array Value → State → Prop := va_Pc vs (fun U => (GK D cy U ∧ EX ad A U ∧ MW D cy ad A S U.heap ∧ U.heap.size = ad (m_n S + 1) ∧ K0 ≤ m_n S) ∧ va_Mi "[Ljava/lang/Object;" mi U)
theorem PcX.blind {D : va_G} {cy : Nat → ClassId} {ad : Nat → Nat} {A : Nat → Prop} {K0 : Nat} {S : MS} {mi : Nat} {vs : List Value} : FrameBlind (PcX D cy ad A K0 S mi vs) := fun _ U _ _ h => ⟨h.1, ⟨h.2.1.1.blind, h.2.1.2.1.blind, h.2.1.2.2⟩, h.2.2.moved (Vm.Alike.refl U.vm)⟩
theorem met_AX {l : Launch} {y : MethodName} {cc : ByteArray} {maxL mc ms : Nat} {ret : Option FieldType} {rm : Room} {D : va_G} {cy : Nat → ClassId} {ad : Nat → Nat} {A : Nat → Prop} {K0 : Nat} {S S' : MS} {mi : Nat} {vs : List Value} {v : Option Value} (hy : plainFor y = true) (hw : Cond.code y cc maxL ret ∈ UW) (hlen : (lg_sl vs).length ≤ maxL)
    (body : ∀ (p : Program) (e : Env) (s : State) (m : MethodId) (args : Array Value) (below : List Frame) (meth : Method) (c : Code) (ls : Array Slot), CX p s m args meth c y.cls cc maxL D cy → EX ad A s → va_Mi "[Ljava/lang/Object;" mi s → ST D cy ad A s.heap (ZA ad K0) S s.heap [] → meth.sig.returnType = ret → lv_has ls maxL (lv_args 0 vs) → W p l e rm s m args below meth c s.heap [] 0 0 (MQ below (QcA D cy ad A K0 S' v) args s mc ms A) (F0 m 0 ls [])) :
    Met l y [Cond.code y cc maxL ret] rm (PcX D cy ad A K0 S mi vs) (QcA D cy ad A K0 S' v) mc ms A := by
  refine Met_ofWF (cc := cc) (maxL := maxL) (ret := ret) hy rfl ?_
  intro p e s m args below meth c s₁ B hml hv
  obtain ⟨rfl, ⟨hG, hE, hM, hz⟩, hX⟩ := hv
  have hl := lv_entry vs (n := maxL) hlen
  rw [lg_entry_eq]
  exact body p e s m _ below meth c _ ⟨B.exec, B.bytes, hml, findClass_of_methodNamed B.named, hG, fun w hw => gx_args (gx_all w hw) (hG.2 w hw), B.notSynchronized⟩ hE hX ⟨hM, va_S.rf, hz⟩ B.returns hl
noncomputable def fJ7_copyOf_6403c (S : MS) (a0 : Nat) (a1 : Int32) : Option (Nat × MS) :=
  (o_le 40 a1).bind fun n7 =>
  (some (m_n S + 1)).bind fun o7 =>
  (some (m_new S 15 n7)).bind fun S7 =>
  (o_lnE S7 a0).bind fun v30 =>
  (fJ9_min_7cf53 v30 a1).bind fun v32 =>
  (o_cpyQ S7 a0 (0 : Int32) o7 (0 : Int32) v32).bind fun S35 =>
  some (o7, S35)
noncomputable def fJ7_copyOf_1904c (S : MS) (a0 : Nat) (a1 : Int32) : Option (Nat × MS) :=
  (o_is S a0 15).bind fun _ =>
  fJ7_copyOf_6403c S a0 a1
abbrev rmJ7_copyOf_6403c : Room := { frames := 1, cells := 1, slots := 40, locals := 48 }
abbrev rmJ7_copyOf_1904c : Room := { frames := 3, cells := 1, slots := 40, locals := 120 }
set_option maxHeartbeats 4000000 in
set_option maxRecDepth 100000 in
theorem tJ7_copyOf_6403c (l : Launch) (D : va_G) (cy : Nat → ClassId) (ad : Nat → Nat) (A : Nat → Prop) (K0 : Nat) (hA : ∀ k, 0 < k → A (ad k)) (hs : ∀ k, K0 ≤ k → ad (k + 1) + 1 = ad (k + 2)) {S S' : MS} {mi : Nat} {a0 : Nat} {a1 : Int32} {r : Nat} (hF : fJ7_copyOf_6403c S a0 a1 = some (r, S')) : Met l yJ7_copyOf_6403c [Cond.code yJ7_copyOf_6403c cJ7_copyOf_6403c 4 (some (.array (.object "java/lang/Object")))] rmJ7_copyOf_6403c (PcX D cy ad A K0 S mi [.ref (ad a0), .int a1, .ref mi]) (QcA D cy ad A K0 S' (some (.ref (ad r)))) 1 40 A := by
  refine met_AX (by decide +kernel) (uw_of 422 (by decide +kernel) rfl) (Nat.le_of_ble_eq_true rfl) ?_
  intro p e s m args below meth c ls C0 hE hX M hr hl
  have hl : lv_has ls 4 [(0, .ref (ad a0)), (1, .int a1), (2, .ref mi)] := hl
  unfold fJ7_copyOf_6403c at hF
  obtain ⟨hx, hb, -, hown, -, hts, -⟩ := id C0
  refine lv_aload_n hx hb dJ7_copyOf_6403c_0 rfl (lv_at hl 2 rfl) ?_
  refine va_ldcM (C := "[Ljava/lang/Object;") hx hb hown (hts _ (uw_of 423 (by decide +kernel) rfl)) hX dJ7_copyOf_6403c_1 ?_
  refine lv_acmp_ne (rx := some mi) (ry := some mi) (tgt := 13) hx hb dJ7_copyOf_6403c_3 (by decide) (fun h => absurd rfl h) (fun h => ?_)
  refine lv_iload_n hx hb dJ7_copyOf_6403c_6 rfl (lv_at hl 1 rfl) ?_
  obtain ⟨n7, hn, hF⟩ := ob hF
  obtain ⟨o7, ho, hF⟩ := ob hF
  obtain ⟨S7, hv, hF⟩ := ob hF
  have ho := vtI ho
  have hv := vtI hv
  refine k_newQ (C := "java/lang/Object") (kd := 15) 3 C0 M hA hs (uw_of 425 (by decide +kernel) rfl) (uw_of 424 (by decide +kernel) rfl) rfl (by decide) hn (Nat.le_of_ble_eq_true rfl) (Nat.le_of_ble_eq_true rfl) (Nat.le_of_ble_eq_true rfl) dJ7_copyOf_6403c_7 (fun H M => ?_)
  rw [hv] at M
  rw [ho]
  refine lv_goto (tgt := 24) hx hb dJ7_copyOf_6403c_10 (by decide) ?_
  refine lv_astore_n (lv' := [(3, .ref (ad o7)), (0, .ref (ad a0)), (1, .int a1), (2, .ref mi)]) hx hb dJ7_copyOf_6403c_24 rfl hl (by decide) rfl (fun ls hl => ?_)
  refine lv_aload_n hx hb dJ7_copyOf_6403c_25 rfl (lv_at hl 1 rfl) ?_
  refine lv_iconst (v := (0 : Int32)) hx hb dJ7_copyOf_6403c_26 (by decide) ?_
  refine lv_aload_n hx hb dJ7_copyOf_6403c_27 rfl (lv_at hl 0 rfl) ?_
  refine lv_iconst (v := (0 : Int32)) hx hb dJ7_copyOf_6403c_28 (by decide) ?_
  refine lv_aload_n hx hb dJ7_copyOf_6403c_29 rfl (lv_at hl 1 rfl) ?_
  obtain ⟨v30, hv, hF⟩ := ob hF
  refine k_lnE C0 hE M hv dJ7_copyOf_6403c_30 ?_
  refine lv_iload_n hx hb dJ7_copyOf_6403c_31 rfl (lv_at hl 2 rfl) ?_
  obtain ⟨v32, hcl, hF⟩ := ob hF
  refine go_SI (r_S (rest := [.int (0 : Int32), .ref (ad o7), .int (0 : Int32), .ref (ad a0)]) (As := [.int v30, .int a1]) C0 cb_J7_304 (tJ9_min_7cf53 l D cy ad hcl) (pre_S C0) hl dJ7_copyOf_6403c_32 rfl (Nat.le_of_ble_eq_true rfl) ⟨rfl, rfl⟩ ⟨Nat.le_of_ble_eq_true rfl, Nat.le_of_ble_eq_true rfl⟩ ⟨Nat.le_of_ble_eq_true rfl, Nat.le_of_ble_eq_true rfl⟩ rfl) ?_
  obtain ⟨S35, hv, hF⟩ := ob hF
  refine k_cpyQ C0 M hl (uw_of 429 (by decide +kernel) rfl) (uw_of 431 (by decide +kernel) rfl) (uw_of 430 (by decide +kernel) rfl) ini_java_lang_System hv (Nat.le_of_ble_eq_true rfl) (Nat.le_of_ble_eq_true rfl) dJ7_copyOf_6403c_35 (fun H locs M => ?_)
  refine lv_aload_n hx hb dJ7_copyOf_6403c_38 rfl (lv_at hl 0 rfl) ?_
  obtain ⟨rfl, rfl⟩ := Prod.mk.inj (Option.some.inj hF)
  exact rt_AP C0 M hr (Or.inr ⟨_, rfl⟩) dJ7_copyOf_6403c_39
set_option maxHeartbeats 4000000 in
set_option maxRecDepth 100000 in
theorem tJ7_copyOf_1904c (l : Launch) (D : va_G) (cy : Nat → ClassId) (ad : Nat → Nat) (A : Nat → Prop) (K0 : Nat) (hA : ∀ k, 0 < k → A (ad k)) (hs : ∀ k, K0 ≤ k → ad (k + 1) + 1 = ad (k + 2)) {S S' : MS} {a0 : Nat} {a1 : Int32} {r : Nat} (hF : fJ7_copyOf_1904c S a0 a1 = some (r, S')) : Met l yJ7_copyOf_1904c [Cond.code yJ7_copyOf_1904c cJ7_copyOf_1904c 2 (some (.array (.object "java/lang/Object")))] rmJ7_copyOf_1904c (PcA D cy ad A K0 S [.ref (ad a0), .int a1]) (QcA D cy ad A K0 S' (some (.ref (ad r)))) 1 40 A := by
  refine met_A (by decide +kernel) cw_J7_copyOf_1904c (Nat.le_of_ble_eq_true rfl) ?_
  intro p e s m args below meth c ls C0 hE M hr hin hl
  have hl : lv_has ls 2 [(0, .ref (ad a0)), (1, .int a1)] := hl
  unfold fJ7_copyOf_1904c at hF
  obtain ⟨hx, hb, -, hown, hG, hts, -⟩ := id C0
  obtain ⟨w, hw, hF⟩ := ob hF
  obtain ⟨⟨h0, hn, hK⟩, -⟩ := o_if hw
  obtain ⟨mi, hX⟩ := hE.2.2
  have he := m_ws_at (cy := cy) (ad := ad) h0 hn
  rw [m_ce_ref hK (by decide)] at he
  refine lv_aload_n hx hb dJ7_copyOf_1904c_0 rfl (lv_at hl 0 rfl) ?_
  refine lv_iload_n hx hb dJ7_copyOf_1904c_1 rfl (lv_at hl 1 rfl) ?_
  refine lv_aload_n hx hb dJ7_copyOf_1904c_2 rfl (lv_at hl 0 rfl) ?_
  refine va_getC (C := "[Ljava/lang/Object;") hx hb (by rw [C0.2.2.1]; exact hl.1.symm) hown (hts _ (uw_of 404 (by decide +kernel) rfl)) (hts _ (uw_of 1659 (by decide +kernel) rfl)) (hts _ (uw_of 1658 (by decide +kernel) rfl)) (hts _ (uw_of 405 (by decide +kernel) rfl)) (hts _ (uw_of 419 (by decide +kernel) rfl)) hX ⟨_, M.1.1 _ _ he, rfl, va_nmO (hG.1.2 3 _ rfl).2 rfl⟩ (Nat.le_of_ble_eq_true rfl) (Nat.le_of_ble_eq_true rfl) dJ7_copyOf_1904c_3 ?_
  refine go_AP (r_S (rest := []) (As := [.ref (ad a0), .int a1, .ref mi]) C0 cb_J7_300 (tJ7_copyOf_6403c l D cy ad A K0 hA hs hF) ⟨PcX.blind, fun U hU hW => ⟨rfl, ⟨C0.2.2.2.2.1.moved hW, hE.moved M.2.1 hU hW.alike, by rw [hU]; exact M.1, by rw [hU]; exact M.2.2⟩, hX.moved hW.alike⟩⟩ hl dJ7_copyOf_1904c_6 rfl (Nat.le_of_ble_eq_true rfl) ⟨rfl, rfl⟩ ⟨Nat.le_of_ble_eq_true rfl, Nat.le_of_ble_eq_true rfl⟩ ⟨Nat.le_of_ble_eq_true rfl, Nat.le_of_ble_eq_true rfl⟩ rfl) M (fun H locs M => ?_)
  refine W.widen (k := 1) (n := 40) (Nat.le_of_ble_eq_true rfl) (Nat.le_of_ble_eq_true rfl) ?_
  exact rt_AP C0 M hr (Or.inr ⟨_, rfl⟩) dJ7_copyOf_1904c_9
