theorem fl_Jx4a65c_48 : FL RJx4a65c 48 0 2 0 .int 0 := ⟨RJx4a65c, "java/util/ArrayList", TJx4a65c, 3, tyJx4a65c, rfl, iu_0, tyJx4a65c_ok, nmJx4a65c, by decide, rfl, by decide, (uw_of 134 (by decide +kernel) rfl), Or.inl rfl, tyJx4a65c_ok 2 (by decide), (fun _ => rfl), (fun h => by cases h), rfl⟩
theorem cw_Jx4a65c_size_8abf5 : Cond.code yJx4a65c_size_8abf5 cJx4a65c_size_8abf5 1 (some .int) ∈ UW := (uw_of 344 (by decide +kernel) rfl)
theorem cw_J6_bitCount_0f7a4 : Cond.code yJ6_bitCount_0f7a4 cJ6_bitCount_0f7a4 1 (some .int) ∈ UW := (uw_of 564 (by decide +kernel) rfl)
theorem cw_J9_abs_0f7a4 : Cond.code yJ9_abs_0f7a4 cJ9_abs_0f7a4 1 (some .int) ∈ UW := (uw_of 546 (by decide +kernel) rfl)
theorem cw_J9_max_7cf53 : Cond.code yJ9_max_7cf53 cJ9_max_7cf53 2 (some .int) ∈ UW := (uw_of 396 (by decide +kernel) rfl)
theorem cw_J9_floorDiv_7cf53 : Cond.code yJ9_floorDiv_7cf53 cJ9_floorDiv_7cf53 3 (some .int) ∈ UW := (uw_of 468 (by decide +kernel) rfl)
theorem fl_Jx4a65c_9 : FL RJx4a65c 9 0 1 2 (.array (.object "java/lang/Object")) 0 := ⟨RJx4a65c, "java/util/ArrayList", TJx4a65c, 3, tyJx4a65c, rfl, iu_0, tyJx4a65c_ok, nmJx4a65c, by decide, rfl, by decide, (uw_of 133 (by decide +kernel) rfl), Or.inl rfl, tyJx4a65c_ok 1 (by decide), (fun _ => rfl), (fun h => by cases h), rfl⟩
theorem cw_Jx4a65c_elementData_915e3 : Cond.code yJx4a65c_elementData_915e3 cJx4a65c_elementData_915e3 2 ((some (.object "java/lang/Object"))) ∈ UW := (uw_of 456 (by decide +kernel) rfl)
theorem cw_J3_checkIndex_8e157 : Cond.code yJ3_checkIndex_8e157 cJ3_checkIndex_8e157 3 (some .int) ∈ UW := (uw_of 452 (by decide +kernel) rfl)
theorem ini_jdk_internal_util_Preconditions : Cond.initialized "jdk/internal/util/Preconditions" ∈ UW := (uw_of 100 (by decide +kernel) rfl)
theorem cb_J15_105 : CBS RJ15 105 yJ3_checkIndex_8e157 cJ3_checkIndex_8e157 3 (some .int) 3 := ⟨⟨cw_J3_checkIndex_8e157, ini_jdk_internal_util_Preconditions, by decide, (uw_of 450 (by decide +kernel) rfl)⟩, (uw_of 451 (by decide +kernel) rfl)⟩
theorem cw_J15_checkIndex_7cf53 : Cond.code yJ15_checkIndex_7cf53 cJ15_checkIndex_7cf53 2 (some .int) ∈ UW := (uw_of 449 (by decide +kernel) rfl)
theorem ini_java_util_Objects : Cond.initialized "java/util/Objects" ∈ UW := (uw_of 99 (by decide +kernel) rfl)
theorem cb_Jx4a65c_118 : CBS RJx4a65c 118 yJ15_checkIndex_7cf53 cJ15_checkIndex_7cf53 2 (some .int) 2 := ⟨⟨cw_J15_checkIndex_7cf53, ini_java_util_Objects, by decide, (uw_of 447 (by decide +kernel) rfl)⟩, (uw_of 448 (by decide +kernel) rfl)⟩
theorem ini_java_util_ArrayList : Cond.initialized "java/util/ArrayList" ∈ UW := (uw_of 88 (by decide +kernel) rfl)
theorem cb_Jx4a65c_123 : CBV RJx4a65c 123 yJx4a65c_elementData_915e3 cJx4a65c_elementData_915e3 2 ((some (.object "java/lang/Object"))) 1 0 := ⟨⟨cw_Jx4a65c_elementData_915e3, ini_java_util_ArrayList, by decide, (uw_of 453 (by decide +kernel) rfl)⟩, (uw_of 454 (by decide +kernel) rfl), (uw_of 455 (by decide +kernel) rfl), by decide, TJx4a65c, 3, rfl⟩
theorem cw_Jx4a65c_get_915e3 : Cond.code yJx4a65c_get_915e3 cJx4a65c_get_915e3 2 ((some (.object "java/lang/Object"))) ∈ UW := (uw_of 446 (by decide +kernel) rfl)
theorem cw_J9_min_7cf53 : Cond.code yJ9_min_7cf53 cJ9_min_7cf53 2 (some .int) ∈ UW := (uw_of 428 (by decide +kernel) rfl)
theorem ini_java_lang_Math : Cond.initialized "java/lang/Math" ∈ UW := (uw_of 96 (by decide +kernel) rfl)
theorem cb_J8_194 : CBS RJ8 194 yJ9_max_7cf53 cJ9_max_7cf53 2 (some .int) 2 := ⟨⟨cw_J9_max_7cf53, ini_java_lang_Math, by decide, (uw_of 394 (by decide +kernel) rfl)⟩, (uw_of 395 (by decide +kernel) rfl)⟩
theorem cw_J8_newLength_cabcc : Cond.code yJ8_newLength_cabcc cJ8_newLength_cabcc 4 (some .int) ∈ UW := (uw_of 393 (by decide +kernel) rfl)
theorem cw_J9_floorMod_7cf53 : Cond.code yJ9_floorMod_7cf53 cJ9_floorMod_7cf53 3 (some .int) ∈ UW := (uw_of 471 (by decide +kernel) rfl)
theorem cw_J7_checkLength_df160 : Cond.code yJ7_checkLength_df160 cJ7_checkLength_df160 2 (none) ∈ UW := (uw_of 612 (by decide +kernel) rfl)
abbrev rmJx4a65c_size_8abf5 : Room := { frames := 0, cells := 0, slots := 0, locals := 0 }
abbrev rmJ6_bitCount_0f7a4 : Room := { frames := 0, cells := 0, slots := 0, locals := 0 }
abbrev rmJ9_abs_0f7a4 : Room := { frames := 0, cells := 0, slots := 0, locals := 0 }
abbrev rmJ9_max_7cf53 : Room := { frames := 0, cells := 0, slots := 0, locals := 0 }
abbrev rmJ9_floorDiv_7cf53 : Room := { frames := 0, cells := 0, slots := 0, locals := 0 }
abbrev rmJx4a65c_elementData_915e3 : Room := { frames := 0, cells := 0, slots := 0, locals := 0 }
abbrev rmJ3_checkIndex_8e157 : Room := { frames := 0, cells := 0, slots := 0, locals := 0 }
abbrev rmJ15_checkIndex_7cf53 : Room := { frames := 1, cells := 0, slots := 0, locals := 22 }
abbrev rmJx4a65c_get_915e3 : Room := { frames := 2, cells := 0, slots := 0, locals := 43 }
abbrev rmJ9_min_7cf53 : Room := { frames := 0, cells := 0, slots := 0, locals := 0 }
abbrev rmJ8_newLength_cabcc : Room := { frames := 1, cells := 0, slots := 0, locals := 21 }
abbrev rmJ9_floorMod_7cf53 : Room := { frames := 0, cells := 0, slots := 0, locals := 0 }
abbrev rmJ7_checkLength_df160 : Room := { frames := 0, cells := 0, slots := 0, locals := 0 }
noncomputable def bJx4a65c_size_8abf5_0 (S : MS) (x0 : Nat) : Option Int32 :=
  (o_gI S x0 0 2).bind fun v1 =>
  some v1
noncomputable def fJx4a65c_size_8abf5 (S : MS) (a0 : Nat) : Option Int32 := bJx4a65c_size_8abf5_0 S a0
noncomputable def bJ6_bitCount_0f7a4_0 (x0 : Int32) : Option Int32 :=
  (some ((x0 - ((((x0).toUInt32 >>> (((1 : Int32)).toUInt32 &&& Int32.toUInt32 31)).toInt32) &&& (1431655765 : Int32))))).bind fun v9 =>
  (some (((v9 &&& (858993459 : Int32)) + ((((v9).toUInt32 >>> (((2 : Int32)).toUInt32 &&& Int32.toUInt32 31)).toInt32) &&& (858993459 : Int32))))).bind fun v23 =>
  (some (((v23 + (((v23).toUInt32 >>> (((4 : Int32)).toUInt32 &&& Int32.toUInt32 31)).toInt32)) &&& (252645135 : Int32)))).bind fun v33 =>
  (some ((v33 + (((v33).toUInt32 >>> (((8 : Int32)).toUInt32 &&& Int32.toUInt32 31)).toInt32)))).bind fun v40 =>
  (some ((v40 + (((v40).toUInt32 >>> (((16 : Int32)).toUInt32 &&& Int32.toUInt32 31)).toInt32)))).bind fun v47 =>
  some (v47 &&& (63 : Int32))
noncomputable def fJ6_bitCount_0f7a4 (a0 : Int32) : Option Int32 := bJ6_bitCount_0f7a4_0 a0
noncomputable def bJ9_abs_0f7a4_10 (z0 : Int32) : Option Int32 :=
  some z0
noncomputable def bJ9_abs_0f7a4_0 (x0 : Int32) : Option Int32 :=
  if 0 ≤ x0 then
    bJ9_abs_0f7a4_10 x0
  else
    bJ9_abs_0f7a4_10 (-x0)
noncomputable def fJ9_abs_0f7a4 (a0 : Int32) : Option Int32 := bJ9_abs_0f7a4_0 a0
noncomputable def bJ9_max_7cf53_10 (z0 : Int32) : Option Int32 :=
  some z0
noncomputable def bJ9_max_7cf53_0 (x0 : Int32) (x1 : Int32) : Option Int32 :=
  if x0 < x1 then
    bJ9_max_7cf53_10 x1
  else
    bJ9_max_7cf53_10 x0
noncomputable def fJ9_max_7cf53 (a0 : Int32) (a1 : Int32) : Option Int32 := bJ9_max_7cf53_0 a0 a1
noncomputable def bJ9_floorDiv_7cf53_21 (x2 : Int32) : Option Int32 :=
  some x2
noncomputable def bJ9_floorDiv_7cf53_0 (x0 : Int32) (x1 : Int32) : Option Int32 :=
  (o_nz x1).bind fun w2 =>
  (some ((x0 / x1))).bind fun v3 =>
  if 0 ≤ (x0 ^^^ x1) then
    bJ9_floorDiv_7cf53_21 v3
  else
    if (v3 * x1) = x0 then
      bJ9_floorDiv_7cf53_21 v3
    else
      some (v3 - (1 : Int32))
noncomputable def fJ9_floorDiv_7cf53 (a0 : Int32) (a1 : Int32) : Option Int32 := bJ9_floorDiv_7cf53_0 a0 a1
noncomputable def bJx4a65c_elementData_915e3_0 (S : MS) (x0 : Nat) (x1 : Int32) : Option Nat :=
  (o_gP S x0 0 1).bind fun v1 =>
  (o_ldP S v1 15 x1).bind fun v5 =>
  some v5
noncomputable def fJx4a65c_elementData_915e3 (S : MS) (a0 : Nat) (a1 : Int32) : Option Nat := bJx4a65c_elementData_915e3_0 S a0 a1
noncomputable def bJ3_checkIndex_8e157_9 : Option Int32 :=
  none
noncomputable def bJ3_checkIndex_8e157_0 (x0 : Int32) (x1 : Int32) : Option Int32 :=
  if x0 < 0 then
    bJ3_checkIndex_8e157_9
  else
    if x0 < x1 then
      some x0
    else
      bJ3_checkIndex_8e157_9
noncomputable def fJ3_checkIndex_8e157 (a0 : Int32) (a1 : Int32) : Option Int32 := bJ3_checkIndex_8e157_0 a0 a1
noncomputable def bJ15_checkIndex_7cf53_0 (x0 : Int32) (x1 : Int32) : Option Int32 :=
  (fJ3_checkIndex_8e157 x0 x1).bind fun v3 =>
  some v3
noncomputable def fJ15_checkIndex_7cf53 (a0 : Int32) (a1 : Int32) : Option Int32 := bJ15_checkIndex_7cf53_0 a0 a1
noncomputable def bJx4a65c_get_915e3_0 (S : MS) (x0 : Nat) (x1 : Int32) : Option Nat :=
  (o_gI S x0 0 2).bind fun v2 =>
  (fJ15_checkIndex_7cf53 x1 v2).bind fun v5 =>
  (o_is S x0 0).bind fun _ =>
  (fJx4a65c_elementData_915e3 S x0 x1).bind fun v11 =>
  some v11
noncomputable def fJx4a65c_get_915e3 (S : MS) (a0 : Nat) (a1 : Int32) : Option Nat := bJx4a65c_get_915e3_0 S a0 a1
noncomputable def bJ9_min_7cf53_10 (z0 : Int32) : Option Int32 :=
  some z0
noncomputable def bJ9_min_7cf53_0 (x0 : Int32) (x1 : Int32) : Option Int32 :=
  if x1 < x0 then
    bJ9_min_7cf53_10 x1
  else
    bJ9_min_7cf53_10 x0
noncomputable def fJ9_min_7cf53 (a0 : Int32) (a1 : Int32) : Option Int32 := bJ9_min_7cf53_0 a0 a1
noncomputable def bJ8_newLength_cabcc_21 (x0 : Int32) : Option Int32 :=
  none
noncomputable def bJ8_newLength_cabcc_0 (x0 : Int32) (x1 : Int32) (x2 : Int32) : Option Int32 :=
  (fJ9_max_7cf53 x1 x2).bind fun v3 =>
  (some ((x0 + v3))).bind fun v7 =>
  if v7 ≤ (0 : Int32) then
    bJ8_newLength_cabcc_21 x0
  else
    if (2147483639 : Int32) < v7 then
      bJ8_newLength_cabcc_21 x0
    else
      some v7
noncomputable def fJ8_newLength_cabcc (a0 : Int32) (a1 : Int32) (a2 : Int32) : Option Int32 := bJ8_newLength_cabcc_0 a0 a1 a2
noncomputable def bJ9_floorMod_7cf53_18 (x2 : Int32) : Option Int32 :=
  some x2
noncomputable def bJ9_floorMod_7cf53_0 (x0 : Int32) (x1 : Int32) : Option Int32 :=
  (o_nz x1).bind fun w2 =>
  (some ((x0 - x0 / x1 * x1))).bind fun v3 =>
  if 0 ≤ (x0 ^^^ x1) then
    bJ9_floorMod_7cf53_18 v3
  else
    if v3 = 0 then
      bJ9_floorMod_7cf53_18 v3
    else
      some (v3 + x1)
noncomputable def fJ9_floorMod_7cf53 (a0 : Int32) (a1 : Int32) : Option Int32 := bJ9_floorMod_7cf53_0 a0 a1
noncomputable def bJ7_checkLength_df160_0 (x0 : Int32) (x1 : Int32) : Option Unit :=
  if x0 ≤ x1 then
    some ()
  else
    none
noncomputable def fJ7_checkLength_df160 (a0 : Int32) (a1 : Int32) : Option Unit := bJ7_checkLength_df160_0 a0 a1
set_option maxHeartbeats 4000000 in
set_option maxRecDepth 100000 in
theorem wJx4a65c_size_8abf5_0 {p : Program} {l : Launch} {e : Env} {s : State} {m : MethodId} {args : Array Value} {below : List Frame} {meth : Method} {c : Code} {D : va_G} {cy : Nat → ClassId} (ad : Nat → Nat) (A : Nat → Prop) {S : MS} {r : Int32} {ls : Array Slot} {x0 : Nat} (C0 : CX p s m args meth c RJx4a65c cJx4a65c_size_8abf5 1 D cy) (M : MW D cy ad A S s.heap) (hr : meth.sig.returnType = some .int) (hF : bJx4a65c_size_8abf5_0 S x0 = some r) (hl : lv_has ls 1 [(0, .ref (ad x0))]) : W p l e rmJx4a65c_size_8abf5 s m args below meth c s.heap [] 0 0 (MQ below (QcS (some (.int r))) args s 0 0 (fun _ => False)) (F0 m 0 ls []) := by
  unfold bJx4a65c_size_8abf5_0 at hF
  obtain ⟨hx, hb, -, hown, -, hts, -⟩ := id C0
  refine lv_aload_n hx hb dJx4a65c_size_8abf5_0 rfl (lv_at hl 0 rfl) ?_
  obtain ⟨v1, hv, hF⟩ := ob hF
  refine k_getI C0 M hv fl_Jx4a65c_48 dJx4a65c_size_8abf5_1 ?_
  obtain rfl := (Option.some.inj hF)
  exact rt_SI C0 hr dJx4a65c_size_8abf5_4
set_option maxHeartbeats 4000000 in
set_option maxRecDepth 100000 in
theorem tJx4a65c_size_8abf5 (l : Launch) (D : va_G) (cy : Nat → ClassId) (ad : Nat → Nat) (A : Nat → Prop) {S : MS} {a0 : Nat} {r : Int32} (h : fJx4a65c_size_8abf5 S a0 = some r) : Met l yJx4a65c_size_8abf5 [Cond.code yJx4a65c_size_8abf5 cJx4a65c_size_8abf5 1 (some .int)] rmJx4a65c_size_8abf5 (PcR D cy ad A S [.ref (ad a0)]) (QcS (some (.int r))) 0 0 (fun _ => False) := by
  refine met_R (by decide +kernel) cw_Jx4a65c_size_8abf5 (Nat.le_of_ble_eq_true rfl) ?_
  intro p e s m args below meth c ls C0 M hr hl
  have hl : lv_has ls 1 [(0, .ref (ad a0))] := hl
  exact wJx4a65c_size_8abf5_0 ad A C0 M hr h hl
set_option maxHeartbeats 4000000 in
set_option maxRecDepth 100000 in
theorem wJ6_bitCount_0f7a4_0 {p : Program} {l : Launch} {e : Env} {s : State} {m : MethodId} {args : Array Value} {below : List Frame} {meth : Method} {c : Code} {D : va_G} {cy : Nat → ClassId} (ad : Nat → Nat) (A : Nat → Prop) {r : Int32} {ls : Array Slot} {x0 : Int32} (C0 : CX p s m args meth c RJ6 cJ6_bitCount_0f7a4 1 D cy) (hr : meth.sig.returnType = some .int) (hF : bJ6_bitCount_0f7a4_0 x0 = some r) (hl : lv_has ls 1 [(0, .int x0)]) : W p l e rmJ6_bitCount_0f7a4 s m args below meth c s.heap [] 0 0 (MQ below (QcS (some (.int r))) args s 0 0 (fun _ => False)) (F0 m 0 ls []) := by
  unfold bJ6_bitCount_0f7a4_0 at hF
  obtain ⟨hx, hb, -, hown, -, hts, -⟩ := id C0
  refine lv_iload_n hx hb dJ6_bitCount_0f7a4_0 rfl (lv_at hl 0 rfl) ?_
  refine lv_iload_n hx hb dJ6_bitCount_0f7a4_1 rfl (lv_at hl 0 rfl) ?_
  refine lv_iconst (v := (1 : Int32)) hx hb dJ6_bitCount_0f7a4_2 (by decide) ?_
  refine lv_iushr (v := ((x0).toUInt32 >>> (((1 : Int32)).toUInt32 &&& Int32.toUInt32 31)).toInt32) hx hb dJ6_bitCount_0f7a4_3 rfl ?_
  refine lv_ldcw (v := (1431655765 : Int32)) hx hb hown (hts _ (uw_of 565 (by decide +kernel) rfl)) dJ6_bitCount_0f7a4_4 ?_
  refine lv_iand hx hb dJ6_bitCount_0f7a4_7 ?_
  refine lv_isub hx hb dJ6_bitCount_0f7a4_8 ?_
  obtain ⟨v9, hv, hF⟩ := ob hF
  have hv := vtI hv
  refine vtopi hv ?_
  refine lv_istore_n (lv' := [(0, .int v9)]) hx hb dJ6_bitCount_0f7a4_9 rfl hl (by decide) rfl (fun ls hl => ?_)
  refine lv_iload_n hx hb dJ6_bitCount_0f7a4_10 rfl (lv_at hl 0 rfl) ?_
  refine lv_ldcw (v := (858993459 : Int32)) hx hb hown (hts _ (uw_of 566 (by decide +kernel) rfl)) dJ6_bitCount_0f7a4_11 ?_
  refine lv_iand hx hb dJ6_bitCount_0f7a4_14 ?_
  refine lv_iload_n hx hb dJ6_bitCount_0f7a4_15 rfl (lv_at hl 0 rfl) ?_
  refine lv_iconst (v := (2 : Int32)) hx hb dJ6_bitCount_0f7a4_16 (by decide) ?_
  refine lv_iushr (v := ((v9).toUInt32 >>> (((2 : Int32)).toUInt32 &&& Int32.toUInt32 31)).toInt32) hx hb dJ6_bitCount_0f7a4_17 rfl ?_
  refine lv_ldcw (v := (858993459 : Int32)) hx hb hown (hts _ (uw_of 566 (by decide +kernel) rfl)) dJ6_bitCount_0f7a4_18 ?_
  refine lv_iand hx hb dJ6_bitCount_0f7a4_21 ?_
  refine lv_iadd hx hb dJ6_bitCount_0f7a4_22 ?_
  obtain ⟨v23, hv, hF⟩ := ob hF
  have hv := vtI hv
  refine vtopi hv ?_
  refine lv_istore_n (lv' := [(0, .int v23)]) hx hb dJ6_bitCount_0f7a4_23 rfl hl (by decide) rfl (fun ls hl => ?_)
  refine lv_iload_n hx hb dJ6_bitCount_0f7a4_24 rfl (lv_at hl 0 rfl) ?_
  refine lv_iload_n hx hb dJ6_bitCount_0f7a4_25 rfl (lv_at hl 0 rfl) ?_
  refine lv_iconst (v := (4 : Int32)) hx hb dJ6_bitCount_0f7a4_26 (by decide) ?_
  refine lv_iushr (v := ((v23).toUInt32 >>> (((4 : Int32)).toUInt32 &&& Int32.toUInt32 31)).toInt32) hx hb dJ6_bitCount_0f7a4_27 rfl ?_
  refine lv_iadd hx hb dJ6_bitCount_0f7a4_28 ?_
  refine lv_ldcw (v := (252645135 : Int32)) hx hb hown (hts _ (uw_of 567 (by decide +kernel) rfl)) dJ6_bitCount_0f7a4_29 ?_
  refine lv_iand hx hb dJ6_bitCount_0f7a4_32 ?_
  obtain ⟨v33, hv, hF⟩ := ob hF
  have hv := vtI hv
  refine vtopi hv ?_
  refine lv_istore_n (lv' := [(0, .int v33)]) hx hb dJ6_bitCount_0f7a4_33 rfl hl (by decide) rfl (fun ls hl => ?_)
  refine lv_iload_n hx hb dJ6_bitCount_0f7a4_34 rfl (lv_at hl 0 rfl) ?_
  refine lv_iload_n hx hb dJ6_bitCount_0f7a4_35 rfl (lv_at hl 0 rfl) ?_
  refine lv_bipush (v := (8 : Int32)) hx hb dJ6_bitCount_0f7a4_36 (by decide) ?_
  refine lv_iushr (v := ((v33).toUInt32 >>> (((8 : Int32)).toUInt32 &&& Int32.toUInt32 31)).toInt32) hx hb dJ6_bitCount_0f7a4_38 rfl ?_
  refine lv_iadd hx hb dJ6_bitCount_0f7a4_39 ?_
  obtain ⟨v40, hv, hF⟩ := ob hF
  have hv := vtI hv
  refine vtopi hv ?_
  refine lv_istore_n (lv' := [(0, .int v40)]) hx hb dJ6_bitCount_0f7a4_40 rfl hl (by decide) rfl (fun ls hl => ?_)
  refine lv_iload_n hx hb dJ6_bitCount_0f7a4_41 rfl (lv_at hl 0 rfl) ?_
  refine lv_iload_n hx hb dJ6_bitCount_0f7a4_42 rfl (lv_at hl 0 rfl) ?_
  refine lv_bipush (v := (16 : Int32)) hx hb dJ6_bitCount_0f7a4_43 (by decide) ?_
  refine lv_iushr (v := ((v40).toUInt32 >>> (((16 : Int32)).toUInt32 &&& Int32.toUInt32 31)).toInt32) hx hb dJ6_bitCount_0f7a4_45 rfl ?_
  refine lv_iadd hx hb dJ6_bitCount_0f7a4_46 ?_
  obtain ⟨v47, hv, hF⟩ := ob hF
  have hv := vtI hv
  refine vtopi hv ?_
  refine lv_istore_n (lv' := [(0, .int v47)]) hx hb dJ6_bitCount_0f7a4_47 rfl hl (by decide) rfl (fun ls hl => ?_)
  refine lv_iload_n hx hb dJ6_bitCount_0f7a4_48 rfl (lv_at hl 0 rfl) ?_
  refine lv_bipush (v := (63 : Int32)) hx hb dJ6_bitCount_0f7a4_49 (by decide) ?_
  refine lv_iand hx hb dJ6_bitCount_0f7a4_51 ?_
  obtain rfl := (Option.some.inj hF)
  exact rt_SI C0 hr dJ6_bitCount_0f7a4_52
set_option maxHeartbeats 4000000 in
set_option maxRecDepth 100000 in
theorem tJ6_bitCount_0f7a4 (l : Launch) (D : va_G) (cy : Nat → ClassId) (ad : Nat → Nat) {a0 : Int32} {r : Int32} (h : fJ6_bitCount_0f7a4 a0 = some r) : Met l yJ6_bitCount_0f7a4 [Cond.code yJ6_bitCount_0f7a4 cJ6_bitCount_0f7a4 1 (some .int)] rmJ6_bitCount_0f7a4 (PcS D cy [.int a0]) (QcS (some (.int r))) 0 0 (fun _ => False) := by
  refine met_S (by decide +kernel) cw_J6_bitCount_0f7a4 (Nat.le_of_ble_eq_true rfl) ?_
  intro p e s m args below meth c ls C0 hr hl
  have hl : lv_has ls 1 [(0, .int a0)] := hl
  exact wJ6_bitCount_0f7a4_0 ad (fun _ => False) C0 hr h hl
set_option maxHeartbeats 4000000 in
set_option maxRecDepth 100000 in
theorem wJ9_abs_0f7a4_10 {p : Program} {l : Launch} {e : Env} {s : State} {m : MethodId} {args : Array Value} {below : List Frame} {meth : Method} {c : Code} {D : va_G} {cy : Nat → ClassId} (ad : Nat → Nat) (A : Nat → Prop) {r : Int32} {ls : Array Slot} {z0 : Int32} (C0 : CX p s m args meth c RJ9 cJ9_abs_0f7a4 1 D cy) (hr : meth.sig.returnType = some .int) (hF : bJ9_abs_0f7a4_10 z0 = some r) (hl : lv_has ls 1 []) : W p l e rmJ9_abs_0f7a4 s m args below meth c s.heap [] 0 0 (MQ below (QcS (some (.int r))) args s 0 0 (fun _ => False)) (F0 m 10 ls [.int z0]) := by
  unfold bJ9_abs_0f7a4_10 at hF
  obtain ⟨hx, hb, -, hown, -, hts, -⟩ := id C0
  obtain rfl := (Option.some.inj hF)
  exact rt_SI C0 hr dJ9_abs_0f7a4_10
set_option maxHeartbeats 4000000 in
set_option maxRecDepth 100000 in
theorem wJ9_abs_0f7a4_0 {p : Program} {l : Launch} {e : Env} {s : State} {m : MethodId} {args : Array Value} {below : List Frame} {meth : Method} {c : Code} {D : va_G} {cy : Nat → ClassId} (ad : Nat → Nat) (A : Nat → Prop) {r : Int32} {ls : Array Slot} {x0 : Int32} (C0 : CX p s m args meth c RJ9 cJ9_abs_0f7a4 1 D cy) (hr : meth.sig.returnType = some .int) (hF : bJ9_abs_0f7a4_0 x0 = some r) (hl : lv_has ls 1 [(0, .int x0)]) : W p l e rmJ9_abs_0f7a4 s m args below meth c s.heap [] 0 0 (MQ below (QcS (some (.int r))) args s 0 0 (fun _ => False)) (F0 m 0 ls []) := by
  unfold bJ9_abs_0f7a4_0 at hF
  obtain ⟨hx, hb, -, hown, -, hts, -⟩ := id C0
  refine lv_iload_n hx hb dJ9_abs_0f7a4_0 rfl (lv_at hl 0 rfl) ?_
  refine lv_if_ge (tgt := 9) hx hb dJ9_abs_0f7a4_1 (by decide) (fun hc => ?_) (fun hc => ?_)
  · have hF := oi_t hc hF
    refine lv_iload_n hx hb dJ9_abs_0f7a4_9 rfl (lv_at hl 0 rfl) ?_
    exact wJ9_abs_0f7a4_10 ad A C0 hr hF (lv_sub hl [] rfl)
  · have hF := oi_f hc hF
    refine lv_iload_n hx hb dJ9_abs_0f7a4_4 rfl (lv_at hl 0 rfl) ?_
    refine lv_ineg hx hb dJ9_abs_0f7a4_5 ?_
    refine lv_goto (tgt := 10) hx hb dJ9_abs_0f7a4_6 (by decide) ?_
    exact wJ9_abs_0f7a4_10 ad A C0 hr hF (lv_sub hl [] rfl)
set_option maxHeartbeats 4000000 in
set_option maxRecDepth 100000 in
theorem tJ9_abs_0f7a4 (l : Launch) (D : va_G) (cy : Nat → ClassId) (ad : Nat → Nat) {a0 : Int32} {r : Int32} (h : fJ9_abs_0f7a4 a0 = some r) : Met l yJ9_abs_0f7a4 [Cond.code yJ9_abs_0f7a4 cJ9_abs_0f7a4 1 (some .int)] rmJ9_abs_0f7a4 (PcS D cy [.int a0]) (QcS (some (.int r))) 0 0 (fun _ => False) := by
  refine met_S (by decide +kernel) cw_J9_abs_0f7a4 (Nat.le_of_ble_eq_true rfl) ?_
  intro p e s m args below meth c ls C0 hr hl
  have hl : lv_has ls 1 [(0, .int a0)] := hl
  exact wJ9_abs_0f7a4_0 ad (fun _ => False) C0 hr h hl
set_option maxHeartbeats 4000000 in
set_option maxRecDepth 100000 in
theorem wJ9_max_7cf53_10 {p : Program} {l : Launch} {e : Env} {s : State} {m : MethodId} {args : Array Value} {below : List Frame} {meth : Method} {c : Code} {D : va_G} {cy : Nat → ClassId} (ad : Nat → Nat) (A : Nat → Prop) {r : Int32} {ls : Array Slot} {z0 : Int32} (C0 : CX p s m args meth c RJ9 cJ9_max_7cf53 2 D cy) (hr : meth.sig.returnType = some .int) (hF : bJ9_max_7cf53_10 z0 = some r) (hl : lv_has ls 2 []) : W p l e rmJ9_max_7cf53 s m args below meth c s.heap [] 0 0 (MQ below (QcS (some (.int r))) args s 0 0 (fun _ => False)) (F0 m 10 ls [.int z0]) := by
  unfold bJ9_max_7cf53_10 at hF
  obtain ⟨hx, hb, -, hown, -, hts, -⟩ := id C0
  obtain rfl := (Option.some.inj hF)
  exact rt_SI C0 hr dJ9_max_7cf53_10
set_option maxHeartbeats 4000000 in
set_option maxRecDepth 100000 in
theorem wJ9_max_7cf53_0 {p : Program} {l : Launch} {e : Env} {s : State} {m : MethodId} {args : Array Value} {below : List Frame} {meth : Method} {c : Code} {D : va_G} {cy : Nat → ClassId} (ad : Nat → Nat) (A : Nat → Prop) {r : Int32} {ls : Array Slot} {x0 : Int32} {x1 : Int32} (C0 : CX p s m args meth c RJ9 cJ9_max_7cf53 2 D cy) (hr : meth.sig.returnType = some .int) (hF : bJ9_max_7cf53_0 x0 x1 = some r) (hl : lv_has ls 2 [(0, .int x0), (1, .int x1)]) : W p l e rmJ9_max_7cf53 s m args below meth c s.heap [] 0 0 (MQ below (QcS (some (.int r))) args s 0 0 (fun _ => False)) (F0 m 0 ls []) := by
  unfold bJ9_max_7cf53_0 at hF
  obtain ⟨hx, hb, -, hown, -, hts, -⟩ := id C0
  refine lv_iload_n hx hb dJ9_max_7cf53_0 rfl (lv_at hl 0 rfl) ?_
  refine lv_iload_n hx hb dJ9_max_7cf53_1 rfl (lv_at hl 1 rfl) ?_
  refine lv_icmp_lt (tgt := 9) hx hb dJ9_max_7cf53_2 (by decide) (fun hc => ?_) (fun hc => ?_)
  · have hF := oi_t hc hF
    refine lv_iload_n hx hb dJ9_max_7cf53_9 rfl (lv_at hl 1 rfl) ?_
    exact wJ9_max_7cf53_10 ad A C0 hr hF (lv_sub hl [] rfl)
  · have hF := oi_f hc hF
    refine lv_iload_n hx hb dJ9_max_7cf53_5 rfl (lv_at hl 0 rfl) ?_
    refine lv_goto (tgt := 10) hx hb dJ9_max_7cf53_6 (by decide) ?_
    exact wJ9_max_7cf53_10 ad A C0 hr hF (lv_sub hl [] rfl)
set_option maxHeartbeats 4000000 in
set_option maxRecDepth 100000 in
theorem tJ9_max_7cf53 (l : Launch) (D : va_G) (cy : Nat → ClassId) (ad : Nat → Nat) {a0 : Int32} {a1 : Int32} {r : Int32} (h : fJ9_max_7cf53 a0 a1 = some r) : Met l yJ9_max_7cf53 [Cond.code yJ9_max_7cf53 cJ9_max_7cf53 2 (some .int)] rmJ9_max_7cf53 (PcS D cy [.int a0, .int a1]) (QcS (some (.int r))) 0 0 (fun _ => False) := by
  refine met_S (by decide +kernel) cw_J9_max_7cf53 (Nat.le_of_ble_eq_true rfl) ?_
  intro p e s m args below meth c ls C0 hr hl
  have hl : lv_has ls 2 [(0, .int a0), (1, .int a1)] := hl
  exact wJ9_max_7cf53_0 ad (fun _ => False) C0 hr h hl
set_option maxHeartbeats 4000000 in
set_option maxRecDepth 100000 in
theorem wJ9_floorDiv_7cf53_21 {p : Program} {l : Launch} {e : Env} {s : State} {m : MethodId} {args : Array Value} {below : List Frame} {meth : Method} {c : Code} {D : va_G} {cy : Nat → ClassId} (ad : Nat → Nat) (A : Nat → Prop) {r : Int32} {ls : Array Slot} {x2 : Int32} (C0 : CX p s m args meth c RJ9 cJ9_floorDiv_7cf53 3 D cy) (hr : meth.sig.returnType = some .int) (hF : bJ9_floorDiv_7cf53_21 x2 = some r) (hl : lv_has ls 3 [(2, .int x2)]) : W p l e rmJ9_floorDiv_7cf53 s m args below meth c s.heap [] 0 0 (MQ below (QcS (some (.int r))) args s 0 0 (fun _ => False)) (F0 m 21 ls []) := by
  unfold bJ9_floorDiv_7cf53_21 at hF
  obtain ⟨hx, hb, -, hown, -, hts, -⟩ := id C0
  refine lv_iload_n hx hb dJ9_floorDiv_7cf53_21 rfl (lv_at hl 0 rfl) ?_
  obtain rfl := (Option.some.inj hF)
  exact rt_SI C0 hr dJ9_floorDiv_7cf53_22
set_option maxHeartbeats 4000000 in
set_option maxRecDepth 100000 in
theorem wJ9_floorDiv_7cf53_0 {p : Program} {l : Launch} {e : Env} {s : State} {m : MethodId} {args : Array Value} {below : List Frame} {meth : Method} {c : Code} {D : va_G} {cy : Nat → ClassId} (ad : Nat → Nat) (A : Nat → Prop) {r : Int32} {ls : Array Slot} {x0 : Int32} {x1 : Int32} (C0 : CX p s m args meth c RJ9 cJ9_floorDiv_7cf53 3 D cy) (hr : meth.sig.returnType = some .int) (hF : bJ9_floorDiv_7cf53_0 x0 x1 = some r) (hl : lv_has ls 3 [(0, .int x0), (1, .int x1)]) : W p l e rmJ9_floorDiv_7cf53 s m args below meth c s.heap [] 0 0 (MQ below (QcS (some (.int r))) args s 0 0 (fun _ => False)) (F0 m 0 ls []) := by
  unfold bJ9_floorDiv_7cf53_0 at hF
  obtain ⟨hx, hb, -, hown, -, hts, -⟩ := id C0
  refine lv_iload_n hx hb dJ9_floorDiv_7cf53_0 rfl (lv_at hl 0 rfl) ?_
  refine lv_iload_n hx hb dJ9_floorDiv_7cf53_1 rfl (lv_at hl 1 rfl) ?_
  obtain ⟨w2, hv, hF⟩ := ob hF
  refine lv_idiv hx hb dJ9_floorDiv_7cf53_2 (o_nz_ne hv) ?_
  obtain ⟨v3, hv, hF⟩ := ob hF
  have hv := vtI hv
  refine vtopi hv ?_
  refine lv_istore_n (lv' := [(2, .int v3), (0, .int x0), (1, .int x1)]) hx hb dJ9_floorDiv_7cf53_3 rfl hl (by decide) rfl (fun ls hl => ?_)
  refine lv_iload_n hx hb dJ9_floorDiv_7cf53_4 rfl (lv_at hl 1 rfl) ?_
  refine lv_iload_n hx hb dJ9_floorDiv_7cf53_5 rfl (lv_at hl 2 rfl) ?_
  refine lv_ixor hx hb dJ9_floorDiv_7cf53_6 ?_
  refine lv_if_ge (tgt := 21) hx hb dJ9_floorDiv_7cf53_7 (by decide) (fun hc => ?_) (fun hc => ?_)
  · have hF := oi_t hc hF
    exact wJ9_floorDiv_7cf53_21 ad A C0 hr hF (lv_sub hl [0] rfl)
  · have hF := oi_f hc hF
    refine lv_iload_n hx hb dJ9_floorDiv_7cf53_10 rfl (lv_at hl 0 rfl) ?_
    refine lv_iload_n hx hb dJ9_floorDiv_7cf53_11 rfl (lv_at hl 2 rfl) ?_
    refine lv_imul hx hb dJ9_floorDiv_7cf53_12 ?_
    refine lv_iload_n hx hb dJ9_floorDiv_7cf53_13 rfl (lv_at hl 1 rfl) ?_
    refine lv_icmp_eq (tgt := 21) hx hb dJ9_floorDiv_7cf53_14 (by decide) (fun hc => ?_) (fun hc => ?_)
    · have hF := oi_t hc hF
      exact wJ9_floorDiv_7cf53_21 ad A C0 hr hF (lv_sub hl [0] rfl)
    · have hF := oi_f hc hF
      refine lv_iload_n hx hb dJ9_floorDiv_7cf53_17 rfl (lv_at hl 0 rfl) ?_
      refine lv_iconst (v := (1 : Int32)) hx hb dJ9_floorDiv_7cf53_18 (by decide) ?_
      refine lv_isub hx hb dJ9_floorDiv_7cf53_19 ?_
      obtain rfl := (Option.some.inj hF)
      exact rt_SI C0 hr dJ9_floorDiv_7cf53_20
set_option maxHeartbeats 4000000 in
set_option maxRecDepth 100000 in
theorem tJ9_floorDiv_7cf53 (l : Launch) (D : va_G) (cy : Nat → ClassId) (ad : Nat → Nat) {a0 : Int32} {a1 : Int32} {r : Int32} (h : fJ9_floorDiv_7cf53 a0 a1 = some r) : Met l yJ9_floorDiv_7cf53 [Cond.code yJ9_floorDiv_7cf53 cJ9_floorDiv_7cf53 3 (some .int)] rmJ9_floorDiv_7cf53 (PcS D cy [.int a0, .int a1]) (QcS (some (.int r))) 0 0 (fun _ => False) := by
  refine met_S (by decide +kernel) cw_J9_floorDiv_7cf53 (Nat.le_of_ble_eq_true rfl) ?_
  intro p e s m args below meth c ls C0 hr hl
  have hl : lv_has ls 3 [(0, .int a0), (1, .int a1)] := hl
  exact wJ9_floorDiv_7cf53_0 ad (fun _ => False) C0 hr h hl
set_option maxHeartbeats 4000000 in
set_option maxRecDepth 100000 in
theorem wJx4a65c_elementData_915e3_0 {p : Program} {l : Launch} {e : Env} {s : State} {m : MethodId} {args : Array Value} {below : List Frame} {meth : Method} {c : Code} {D : va_G} {cy : Nat → ClassId} (ad : Nat → Nat) (A : Nat → Prop) {S : MS} {r : Nat} {ls : Array Slot} {x0 : Nat} {x1 : Int32} (C0 : CX p s m args meth c RJx4a65c cJx4a65c_elementData_915e3 2 D cy) (M : MW D cy ad A S s.heap) (hr : meth.sig.returnType = (some (.object "java/lang/Object"))) (hF : bJx4a65c_elementData_915e3_0 S x0 x1 = some r) (hl : lv_has ls 2 [(0, .ref (ad x0)), (1, .int x1)]) : W p l e rmJx4a65c_elementData_915e3 s m args below meth c s.heap [] 0 0 (MQ below (QcS (some (.ref (ad r)))) args s 0 0 (fun _ => False)) (F0 m 0 ls []) := by
  unfold bJx4a65c_elementData_915e3_0 at hF
  obtain ⟨hx, hb, -, hown, -, hts, -⟩ := id C0
  refine lv_aload_n hx hb dJx4a65c_elementData_915e3_0 rfl (lv_at hl 0 rfl) ?_
  obtain ⟨v1, hv, hF⟩ := ob hF
  refine k_getP C0 M hv fl_Jx4a65c_9 dJx4a65c_elementData_915e3_1 ?_
  refine lv_iload_n hx hb dJx4a65c_elementData_915e3_4 rfl (lv_at hl 1 rfl) ?_
  obtain ⟨v5, hv, hF⟩ := ob hF
  refine k_ldP (ty := (.object "java/lang/Object")) 3 C0 M (by decide) rfl rfl hv dJx4a65c_elementData_915e3_5 ?_
  obtain rfl := (Option.some.inj hF)
  exact rt_SP C0 hr (Or.inl ⟨_, rfl⟩) dJx4a65c_elementData_915e3_6
set_option maxHeartbeats 4000000 in
set_option maxRecDepth 100000 in
theorem tJx4a65c_elementData_915e3 (l : Launch) (D : va_G) (cy : Nat → ClassId) (ad : Nat → Nat) (A : Nat → Prop) {S : MS} {a0 : Nat} {a1 : Int32} {r : Nat} (h : fJx4a65c_elementData_915e3 S a0 a1 = some r) : Met l yJx4a65c_elementData_915e3 [Cond.code yJx4a65c_elementData_915e3 cJx4a65c_elementData_915e3 2 ((some (.object "java/lang/Object")))] rmJx4a65c_elementData_915e3 (PcR D cy ad A S [.ref (ad a0), .int a1]) (QcS (some (.ref (ad r)))) 0 0 (fun _ => False) := by
  refine met_R (by decide +kernel) cw_Jx4a65c_elementData_915e3 (Nat.le_of_ble_eq_true rfl) ?_
  intro p e s m args below meth c ls C0 M hr hl
  have hl : lv_has ls 2 [(0, .ref (ad a0)), (1, .int a1)] := hl
  exact wJx4a65c_elementData_915e3_0 ad A C0 M hr h hl
set_option maxHeartbeats 4000000 in
set_option maxRecDepth 100000 in
theorem wJ3_checkIndex_8e157_9 {p : Program} {l : Launch} {e : Env} {s : State} {m : MethodId} {args : Array Value} {below : List Frame} {meth : Method} {c : Code} {D : va_G} {cy : Nat → ClassId} (ad : Nat → Nat) (A : Nat → Prop) {r : Int32} {ls : Array Slot} (C0 : CX p s m args meth c RJ3 cJ3_checkIndex_8e157 3 D cy) (hr : meth.sig.returnType = some .int) (hF : bJ3_checkIndex_8e157_9 = some r) (hl : lv_has ls 3 [(2, .null)]) : W p l e rmJ3_checkIndex_8e157 s m args below meth c s.heap [] 0 0 (MQ below (QcS (some (.int r))) args s 0 0 (fun _ => False)) (F0 m 9 ls []) := by
  unfold bJ3_checkIndex_8e157_9 at hF
  obtain ⟨hx, hb, -, hown, -, hts, -⟩ := id C0
  cases hF
set_option maxHeartbeats 4000000 in
set_option maxRecDepth 100000 in
theorem wJ3_checkIndex_8e157_0 {p : Program} {l : Launch} {e : Env} {s : State} {m : MethodId} {args : Array Value} {below : List Frame} {meth : Method} {c : Code} {D : va_G} {cy : Nat → ClassId} (ad : Nat → Nat) (A : Nat → Prop) {r : Int32} {ls : Array Slot} {x0 : Int32} {x1 : Int32} (C0 : CX p s m args meth c RJ3 cJ3_checkIndex_8e157 3 D cy) (hr : meth.sig.returnType = some .int) (hF : bJ3_checkIndex_8e157_0 x0 x1 = some r) (hl : lv_has ls 3 [(0, .int x0), (1, .int x1), (2, .null)]) : W p l e rmJ3_checkIndex_8e157 s m args below meth c s.heap [] 0 0 (MQ below (QcS (some (.int r))) args s 0 0 (fun _ => False)) (F0 m 0 ls []) := by
  unfold bJ3_checkIndex_8e157_0 at hF
  obtain ⟨hx, hb, -, hown, -, hts, -⟩ := id C0
  refine lv_iload_n hx hb dJ3_checkIndex_8e157_0 rfl (lv_at hl 0 rfl) ?_
  refine lv_if_lt (tgt := 9) hx hb dJ3_checkIndex_8e157_1 (by decide) (fun hc => ?_) (fun hc => ?_)
  · have hF := oi_t hc hF
    exact wJ3_checkIndex_8e157_9 ad A C0 hr hF (lv_sub hl [2] rfl)
  · have hF := oi_f hc hF
    refine lv_iload_n hx hb dJ3_checkIndex_8e157_4 rfl (lv_at hl 0 rfl) ?_
    refine lv_iload_n hx hb dJ3_checkIndex_8e157_5 rfl (lv_at hl 1 rfl) ?_
    refine lv_icmp_lt (tgt := 16) hx hb dJ3_checkIndex_8e157_6 (by decide) (fun hc => ?_) (fun hc => ?_)
    · have hF := oi_t hc hF
      refine lv_iload_n hx hb dJ3_checkIndex_8e157_16 rfl (lv_at hl 0 rfl) ?_
      obtain rfl := (Option.some.inj hF)
      exact rt_SI C0 hr dJ3_checkIndex_8e157_17
    · have hF := oi_f hc hF
      exact wJ3_checkIndex_8e157_9 ad A C0 hr hF (lv_sub hl [2] rfl)
set_option maxHeartbeats 4000000 in
set_option maxRecDepth 100000 in
theorem tJ3_checkIndex_8e157 (l : Launch) (D : va_G) (cy : Nat → ClassId) (ad : Nat → Nat) {a0 : Int32} {a1 : Int32} {r : Int32} (h : fJ3_checkIndex_8e157 a0 a1 = some r) : Met l yJ3_checkIndex_8e157 [Cond.code yJ3_checkIndex_8e157 cJ3_checkIndex_8e157 3 (some .int)] rmJ3_checkIndex_8e157 (PcS D cy [.int a0, .int a1, .null]) (QcS (some (.int r))) 0 0 (fun _ => False) := by
  refine met_S (by decide +kernel) cw_J3_checkIndex_8e157 (Nat.le_of_ble_eq_true rfl) ?_
  intro p e s m args below meth c ls C0 hr hl
  have hl : lv_has ls 3 [(0, .int a0), (1, .int a1), (2, .null)] := hl
  exact wJ3_checkIndex_8e157_0 ad (fun _ => False) C0 hr h hl
set_option maxHeartbeats 4000000 in
set_option maxRecDepth 100000 in
theorem wJ15_checkIndex_7cf53_0 {p : Program} {l : Launch} {e : Env} {s : State} {m : MethodId} {args : Array Value} {below : List Frame} {meth : Method} {c : Code} {D : va_G} {cy : Nat → ClassId} (ad : Nat → Nat) (A : Nat → Prop) {r : Int32} {ls : Array Slot} {x0 : Int32} {x1 : Int32} (C0 : CX p s m args meth c RJ15 cJ15_checkIndex_7cf53 2 D cy) (hr : meth.sig.returnType = some .int) (hF : bJ15_checkIndex_7cf53_0 x0 x1 = some r) (hl : lv_has ls 2 [(0, .int x0), (1, .int x1)]) : W p l e rmJ15_checkIndex_7cf53 s m args below meth c s.heap [] 0 0 (MQ below (QcS (some (.int r))) args s 0 0 (fun _ => False)) (F0 m 0 ls []) := by
  unfold bJ15_checkIndex_7cf53_0 at hF
  obtain ⟨hx, hb, -, hown, -, hts, -⟩ := id C0
  refine lv_iload_n hx hb dJ15_checkIndex_7cf53_0 rfl (lv_at hl 0 rfl) ?_
  refine lv_iload_n hx hb dJ15_checkIndex_7cf53_1 rfl (lv_at hl 1 rfl) ?_
  refine lv_null hx hb dJ15_checkIndex_7cf53_2 ?_
  obtain ⟨v3, hcl, hF⟩ := ob hF
  refine go_SI (r_S (rest := []) (As := [.int x0, .int x1, .null]) C0 cb_J15_105 (tJ3_checkIndex_8e157 l D cy ad hcl) (pre_S C0) hl dJ15_checkIndex_7cf53_3 rfl (Nat.le_of_ble_eq_true rfl) ⟨rfl, rfl⟩ ⟨Nat.le_of_ble_eq_true rfl, Nat.le_of_ble_eq_true rfl⟩ ⟨Nat.le_of_ble_eq_true rfl, Nat.le_of_ble_eq_true rfl⟩ rfl) ?_
  obtain rfl := (Option.some.inj hF)
  exact rt_SI C0 hr dJ15_checkIndex_7cf53_6
set_option maxHeartbeats 4000000 in
set_option maxRecDepth 100000 in
theorem tJ15_checkIndex_7cf53 (l : Launch) (D : va_G) (cy : Nat → ClassId) (ad : Nat → Nat) {a0 : Int32} {a1 : Int32} {r : Int32} (h : fJ15_checkIndex_7cf53 a0 a1 = some r) : Met l yJ15_checkIndex_7cf53 [Cond.code yJ15_checkIndex_7cf53 cJ15_checkIndex_7cf53 2 (some .int)] rmJ15_checkIndex_7cf53 (PcS D cy [.int a0, .int a1]) (QcS (some (.int r))) 0 0 (fun _ => False) := by
  refine met_S (by decide +kernel) cw_J15_checkIndex_7cf53 (Nat.le_of_ble_eq_true rfl) ?_
  intro p e s m args below meth c ls C0 hr hl
  have hl : lv_has ls 2 [(0, .int a0), (1, .int a1)] := hl
  exact wJ15_checkIndex_7cf53_0 ad (fun _ => False) C0 hr h hl
set_option maxHeartbeats 4000000 in
set_option maxRecDepth 100000 in
theorem wJx4a65c_get_915e3_0 {p : Program} {l : Launch} {e : Env} {s : State} {m : MethodId} {args : Array Value} {below : List Frame} {meth : Method} {c : Code} {D : va_G} {cy : Nat → ClassId} (ad : Nat → Nat) (A : Nat → Prop) {S : MS} {r : Nat} {ls : Array Slot} {x0 : Nat} {x1 : Int32} (C0 : CX p s m args meth c RJx4a65c cJx4a65c_get_915e3 2 D cy) (M : MW D cy ad A S s.heap) (hr : meth.sig.returnType = (some (.object "java/lang/Object"))) (hF : bJx4a65c_get_915e3_0 S x0 x1 = some r) (hl : lv_has ls 2 [(0, .ref (ad x0)), (1, .int x1)]) : W p l e rmJx4a65c_get_915e3 s m args below meth c s.heap [] 0 0 (MQ below (QcS (some (.ref (ad r)))) args s 0 0 (fun _ => False)) (F0 m 0 ls []) := by
  unfold bJx4a65c_get_915e3_0 at hF
  obtain ⟨hx, hb, -, hown, -, hts, -⟩ := id C0
  refine lv_iload_n hx hb dJx4a65c_get_915e3_0 rfl (lv_at hl 1 rfl) ?_
  refine lv_aload_n hx hb dJx4a65c_get_915e3_1 rfl (lv_at hl 0 rfl) ?_
  obtain ⟨v2, hv, hF⟩ := ob hF
  refine k_getI C0 M hv fl_Jx4a65c_48 dJx4a65c_get_915e3_2 ?_
  obtain ⟨v5, hcl, hF⟩ := ob hF
  refine go_SI (r_S (rest := []) (As := [.int x1, .int v2]) C0 cb_Jx4a65c_118 (tJ15_checkIndex_7cf53 l D cy ad hcl) (pre_S C0) hl dJx4a65c_get_915e3_5 rfl (Nat.le_of_ble_eq_true rfl) ⟨rfl, rfl⟩ ⟨Nat.le_of_ble_eq_true rfl, Nat.le_of_ble_eq_true rfl⟩ ⟨Nat.le_of_ble_eq_true rfl, Nat.le_of_ble_eq_true rfl⟩ rfl) ?_
  refine lv_pop hx hb dJx4a65c_get_915e3_8 rfl ?_
  refine lv_aload_n hx hb dJx4a65c_get_915e3_9 rfl (lv_at hl 0 rfl) ?_
  refine lv_iload_n hx hb dJx4a65c_get_915e3_10 rfl (lv_at hl 1 rfl) ?_
  obtain ⟨_, hrec, hF⟩ := ob hF
  obtain ⟨v11, hcl, hF⟩ := ob hF
  refine go_SP (r_V (rest := []) (As := [.int x1]) C0 cb_Jx4a65c_123 M hrec (tJx4a65c_elementData_915e3 l D cy ad A hcl) (pre_R C0 M) hl dJx4a65c_get_915e3_11 rfl (Nat.le_of_ble_eq_true rfl) ⟨rfl, rfl⟩ ⟨Nat.le_of_ble_eq_true rfl, Nat.le_of_ble_eq_true rfl⟩ ⟨Nat.le_of_ble_eq_true rfl, Nat.le_of_ble_eq_true rfl⟩ rfl) ?_
  obtain rfl := (Option.some.inj hF)
  exact rt_SP C0 hr (Or.inl ⟨_, rfl⟩) dJx4a65c_get_915e3_14
set_option maxHeartbeats 4000000 in
set_option maxRecDepth 100000 in
theorem tJx4a65c_get_915e3 (l : Launch) (D : va_G) (cy : Nat → ClassId) (ad : Nat → Nat) (A : Nat → Prop) {S : MS} {a0 : Nat} {a1 : Int32} {r : Nat} (h : fJx4a65c_get_915e3 S a0 a1 = some r) : Met l yJx4a65c_get_915e3 [Cond.code yJx4a65c_get_915e3 cJx4a65c_get_915e3 2 ((some (.object "java/lang/Object")))] rmJx4a65c_get_915e3 (PcR D cy ad A S [.ref (ad a0), .int a1]) (QcS (some (.ref (ad r)))) 0 0 (fun _ => False) := by
  refine met_R (by decide +kernel) cw_Jx4a65c_get_915e3 (Nat.le_of_ble_eq_true rfl) ?_
  intro p e s m args below meth c ls C0 M hr hl
  have hl : lv_has ls 2 [(0, .ref (ad a0)), (1, .int a1)] := hl
  exact wJx4a65c_get_915e3_0 ad A C0 M hr h hl
set_option maxHeartbeats 4000000 in
set_option maxRecDepth 100000 in
theorem wJ9_min_7cf53_10 {p : Program} {l : Launch} {e : Env} {s : State} {m : MethodId} {args : Array Value} {below : List Frame} {meth : Method} {c : Code} {D : va_G} {cy : Nat → ClassId} (ad : Nat → Nat) (A : Nat → Prop) {r : Int32} {ls : Array Slot} {z0 : Int32} (C0 : CX p s m args meth c RJ9 cJ9_min_7cf53 2 D cy) (hr : meth.sig.returnType = some .int) (hF : bJ9_min_7cf53_10 z0 = some r) (hl : lv_has ls 2 []) : W p l e rmJ9_min_7cf53 s m args below meth c s.heap [] 0 0 (MQ below (QcS (some (.int r))) args s 0 0 (fun _ => False)) (F0 m 10 ls [.int z0]) := by
  unfold bJ9_min_7cf53_10 at hF
  obtain ⟨hx, hb, -, hown, -, hts, -⟩ := id C0
  obtain rfl := (Option.some.inj hF)
  exact rt_SI C0 hr dJ9_min_7cf53_10
set_option maxHeartbeats 4000000 in
set_option maxRecDepth 100000 in
theorem wJ9_min_7cf53_0 {p : Program} {l : Launch} {e : Env} {s : State} {m : MethodId} {args : Array Value} {below : List Frame} {meth : Method} {c : Code} {D : va_G} {cy : Nat → ClassId} (ad : Nat → Nat) (A : Nat → Prop) {r : Int32} {ls : Array Slot} {x0 : Int32} {x1 : Int32} (C0 : CX p s m args meth c RJ9 cJ9_min_7cf53 2 D cy) (hr : meth.sig.returnType = some .int) (hF : bJ9_min_7cf53_0 x0 x1 = some r) (hl : lv_has ls 2 [(0, .int x0), (1, .int x1)]) : W p l e rmJ9_min_7cf53 s m args below meth c s.heap [] 0 0 (MQ below (QcS (some (.int r))) args s 0 0 (fun _ => False)) (F0 m 0 ls []) := by
  unfold bJ9_min_7cf53_0 at hF
  obtain ⟨hx, hb, -, hown, -, hts, -⟩ := id C0
  refine lv_iload_n hx hb dJ9_min_7cf53_0 rfl (lv_at hl 0 rfl) ?_
  refine lv_iload_n hx hb dJ9_min_7cf53_1 rfl (lv_at hl 1 rfl) ?_
  refine lv_icmp_gt (tgt := 9) hx hb dJ9_min_7cf53_2 (by decide) (fun hc => ?_) (fun hc => ?_)
  · have hF := oi_t hc hF
    refine lv_iload_n hx hb dJ9_min_7cf53_9 rfl (lv_at hl 1 rfl) ?_
    exact wJ9_min_7cf53_10 ad A C0 hr hF (lv_sub hl [] rfl)
  · have hF := oi_f hc hF
    refine lv_iload_n hx hb dJ9_min_7cf53_5 rfl (lv_at hl 0 rfl) ?_
    refine lv_goto (tgt := 10) hx hb dJ9_min_7cf53_6 (by decide) ?_
    exact wJ9_min_7cf53_10 ad A C0 hr hF (lv_sub hl [] rfl)
set_option maxHeartbeats 4000000 in
set_option maxRecDepth 100000 in
theorem tJ9_min_7cf53 (l : Launch) (D : va_G) (cy : Nat → ClassId) (ad : Nat → Nat) {a0 : Int32} {a1 : Int32} {r : Int32} (h : fJ9_min_7cf53 a0 a1 = some r) : Met l yJ9_min_7cf53 [Cond.code yJ9_min_7cf53 cJ9_min_7cf53 2 (some .int)] rmJ9_min_7cf53 (PcS D cy [.int a0, .int a1]) (QcS (some (.int r))) 0 0 (fun _ => False) := by
  refine met_S (by decide +kernel) cw_J9_min_7cf53 (Nat.le_of_ble_eq_true rfl) ?_
  intro p e s m args below meth c ls C0 hr hl
  have hl : lv_has ls 2 [(0, .int a0), (1, .int a1)] := hl
  exact wJ9_min_7cf53_0 ad (fun _ => False) C0 hr h hl
set_option maxHeartbeats 4000000 in
set_option maxRecDepth 100000 in
theorem wJ8_newLength_cabcc_21 {p : Program} {l : Launch} {e : Env} {s : State} {m : MethodId} {args : Array Value} {below : List Frame} {meth : Method} {c : Code} {D : va_G} {cy : Nat → ClassId} (ad : Nat → Nat) (A : Nat → Prop) {r : Int32} {ls : Array Slot} {x0 : Int32} (C0 : CX p s m args meth c RJ8 cJ8_newLength_cabcc 4 D cy) (hr : meth.sig.returnType = some .int) (hF : bJ8_newLength_cabcc_21 x0 = some r) (hl : lv_has ls 4 [(0, .int x0)]) : W p l e rmJ8_newLength_cabcc s m args below meth c s.heap [] 0 0 (MQ below (QcS (some (.int r))) args s 0 0 (fun _ => False)) (F0 m 21 ls []) := by
  unfold bJ8_newLength_cabcc_21 at hF
  obtain ⟨hx, hb, -, hown, -, hts, -⟩ := id C0
  cases hF
set_option maxHeartbeats 4000000 in
set_option maxRecDepth 100000 in
theorem wJ8_newLength_cabcc_0 {p : Program} {l : Launch} {e : Env} {s : State} {m : MethodId} {args : Array Value} {below : List Frame} {meth : Method} {c : Code} {D : va_G} {cy : Nat → ClassId} (ad : Nat → Nat) (A : Nat → Prop) {r : Int32} {ls : Array Slot} {x0 : Int32} {x1 : Int32} {x2 : Int32} (C0 : CX p s m args meth c RJ8 cJ8_newLength_cabcc 4 D cy) (hr : meth.sig.returnType = some .int) (hF : bJ8_newLength_cabcc_0 x0 x1 x2 = some r) (hl : lv_has ls 4 [(0, .int x0), (1, .int x1), (2, .int x2)]) : W p l e rmJ8_newLength_cabcc s m args below meth c s.heap [] 0 0 (MQ below (QcS (some (.int r))) args s 0 0 (fun _ => False)) (F0 m 0 ls []) := by
  unfold bJ8_newLength_cabcc_0 at hF
  obtain ⟨hx, hb, -, hown, -, hts, -⟩ := id C0
  refine lv_iload_n hx hb dJ8_newLength_cabcc_0 rfl (lv_at hl 0 rfl) ?_
  refine lv_iload_n hx hb dJ8_newLength_cabcc_1 rfl (lv_at hl 1 rfl) ?_
  refine lv_iload_n hx hb dJ8_newLength_cabcc_2 rfl (lv_at hl 2 rfl) ?_
  obtain ⟨v3, hcl, hF⟩ := ob hF
  refine go_SI (r_S (rest := [.int x0]) (As := [.int x1, .int x2]) C0 cb_J8_194 (tJ9_max_7cf53 l D cy ad hcl) (pre_S C0) hl dJ8_newLength_cabcc_3 rfl (Nat.le_of_ble_eq_true rfl) ⟨rfl, rfl⟩ ⟨Nat.le_of_ble_eq_true rfl, Nat.le_of_ble_eq_true rfl⟩ ⟨Nat.le_of_ble_eq_true rfl, Nat.le_of_ble_eq_true rfl⟩ rfl) ?_
  refine lv_iadd hx hb dJ8_newLength_cabcc_6 ?_
  obtain ⟨v7, hv, hF⟩ := ob hF
  have hv := vtI hv
  refine vtopi hv ?_
  refine lv_istore_n (lv' := [(3, .int v7), (0, .int x0), (1, .int x1), (2, .int x2)]) hx hb dJ8_newLength_cabcc_7 rfl hl (by decide) rfl (fun ls hl => ?_)
  refine lv_iconst (v := (0 : Int32)) hx hb dJ8_newLength_cabcc_8 (by decide) ?_
  refine lv_iload_n hx hb dJ8_newLength_cabcc_9 rfl (lv_at hl 0 rfl) ?_
  refine lv_icmp_ge (tgt := 21) hx hb dJ8_newLength_cabcc_10 (by decide) (fun hc => ?_) (fun hc => ?_)
  · have hF := oi_t hc hF
    exact wJ8_newLength_cabcc_21 ad A C0 hr hF (lv_sub hl [1] rfl)
  · have hF := oi_f hc hF
    refine lv_iload_n hx hb dJ8_newLength_cabcc_13 rfl (lv_at hl 0 rfl) ?_
    refine lv_ldc (v := (2147483639 : Int32)) hx hb hown (hts _ (uw_of 397 (by decide +kernel) rfl)) dJ8_newLength_cabcc_14 ?_
    refine lv_icmp_gt (tgt := 21) hx hb dJ8_newLength_cabcc_16 (by decide) (fun hc => ?_) (fun hc => ?_)
    · have hF := oi_t hc hF
      exact wJ8_newLength_cabcc_21 ad A C0 hr hF (lv_sub hl [1] rfl)
    · have hF := oi_f hc hF
      refine lv_iload_n hx hb dJ8_newLength_cabcc_19 rfl (lv_at hl 0 rfl) ?_
      obtain rfl := (Option.some.inj hF)
      exact rt_SI C0 hr dJ8_newLength_cabcc_20
set_option maxHeartbeats 4000000 in
set_option maxRecDepth 100000 in
theorem tJ8_newLength_cabcc (l : Launch) (D : va_G) (cy : Nat → ClassId) (ad : Nat → Nat) {a0 : Int32} {a1 : Int32} {a2 : Int32} {r : Int32} (h : fJ8_newLength_cabcc a0 a1 a2 = some r) : Met l yJ8_newLength_cabcc [Cond.code yJ8_newLength_cabcc cJ8_newLength_cabcc 4 (some .int)] rmJ8_newLength_cabcc (PcS D cy [.int a0, .int a1, .int a2]) (QcS (some (.int r))) 0 0 (fun _ => False) := by
  refine met_S (by decide +kernel) cw_J8_newLength_cabcc (Nat.le_of_ble_eq_true rfl) ?_
  intro p e s m args below meth c ls C0 hr hl
  have hl : lv_has ls 4 [(0, .int a0), (1, .int a1), (2, .int a2)] := hl
  exact wJ8_newLength_cabcc_0 ad (fun _ => False) C0 hr h hl
set_option maxHeartbeats 4000000 in
set_option maxRecDepth 100000 in
theorem wJ9_floorMod_7cf53_18 {p : Program} {l : Launch} {e : Env} {s : State} {m : MethodId} {args : Array Value} {below : List Frame} {meth : Method} {c : Code} {D : va_G} {cy : Nat → ClassId} (ad : Nat → Nat) (A : Nat → Prop) {r : Int32} {ls : Array Slot} {x2 : Int32} (C0 : CX p s m args meth c RJ9 cJ9_floorMod_7cf53 3 D cy) (hr : meth.sig.returnType = some .int) (hF : bJ9_floorMod_7cf53_18 x2 = some r) (hl : lv_has ls 3 [(2, .int x2)]) : W p l e rmJ9_floorMod_7cf53 s m args below meth c s.heap [] 0 0 (MQ below (QcS (some (.int r))) args s 0 0 (fun _ => False)) (F0 m 18 ls []) := by
  unfold bJ9_floorMod_7cf53_18 at hF
  obtain ⟨hx, hb, -, hown, -, hts, -⟩ := id C0
  refine lv_iload_n hx hb dJ9_floorMod_7cf53_18 rfl (lv_at hl 0 rfl) ?_
  obtain rfl := (Option.some.inj hF)
  exact rt_SI C0 hr dJ9_floorMod_7cf53_19
set_option maxHeartbeats 4000000 in
set_option maxRecDepth 100000 in
theorem wJ9_floorMod_7cf53_0 {p : Program} {l : Launch} {e : Env} {s : State} {m : MethodId} {args : Array Value} {below : List Frame} {meth : Method} {c : Code} {D : va_G} {cy : Nat → ClassId} (ad : Nat → Nat) (A : Nat → Prop) {r : Int32} {ls : Array Slot} {x0 : Int32} {x1 : Int32} (C0 : CX p s m args meth c RJ9 cJ9_floorMod_7cf53 3 D cy) (hr : meth.sig.returnType = some .int) (hF : bJ9_floorMod_7cf53_0 x0 x1 = some r) (hl : lv_has ls 3 [(0, .int x0), (1, .int x1)]) : W p l e rmJ9_floorMod_7cf53 s m args below meth c s.heap [] 0 0 (MQ below (QcS (some (.int r))) args s 0 0 (fun _ => False)) (F0 m 0 ls []) := by
  unfold bJ9_floorMod_7cf53_0 at hF
  obtain ⟨hx, hb, -, hown, -, hts, -⟩ := id C0
  refine lv_iload_n hx hb dJ9_floorMod_7cf53_0 rfl (lv_at hl 0 rfl) ?_
  refine lv_iload_n hx hb dJ9_floorMod_7cf53_1 rfl (lv_at hl 1 rfl) ?_
  obtain ⟨w2, hv, hF⟩ := ob hF
  refine lv_irem hx hb dJ9_floorMod_7cf53_2 (o_nz_ne hv) ?_
  obtain ⟨v3, hv, hF⟩ := ob hF
  have hv := vtI hv
  refine vtopi hv ?_
  refine lv_istore_n (lv' := [(2, .int v3), (0, .int x0), (1, .int x1)]) hx hb dJ9_floorMod_7cf53_3 rfl hl (by decide) rfl (fun ls hl => ?_)
  refine lv_iload_n hx hb dJ9_floorMod_7cf53_4 rfl (lv_at hl 1 rfl) ?_
  refine lv_iload_n hx hb dJ9_floorMod_7cf53_5 rfl (lv_at hl 2 rfl) ?_
  refine lv_ixor hx hb dJ9_floorMod_7cf53_6 ?_
  refine lv_if_ge (tgt := 18) hx hb dJ9_floorMod_7cf53_7 (by decide) (fun hc => ?_) (fun hc => ?_)
  · have hF := oi_t hc hF
    exact wJ9_floorMod_7cf53_18 ad A C0 hr hF (lv_sub hl [0] rfl)
  · have hF := oi_f hc hF
    refine lv_iload_n hx hb dJ9_floorMod_7cf53_10 rfl (lv_at hl 0 rfl) ?_
    refine lv_if_eq (tgt := 18) hx hb dJ9_floorMod_7cf53_11 (by decide) (fun hc => ?_) (fun hc => ?_)
    · have hF := oi_t hc hF
      exact wJ9_floorMod_7cf53_18 ad A C0 hr hF (lv_sub hl [0] rfl)
    · have hF := oi_f hc hF
      refine lv_iload_n hx hb dJ9_floorMod_7cf53_14 rfl (lv_at hl 0 rfl) ?_
      refine lv_iload_n hx hb dJ9_floorMod_7cf53_15 rfl (lv_at hl 2 rfl) ?_
      refine lv_iadd hx hb dJ9_floorMod_7cf53_16 ?_
      obtain rfl := (Option.some.inj hF)
      exact rt_SI C0 hr dJ9_floorMod_7cf53_17
set_option maxHeartbeats 4000000 in
set_option maxRecDepth 100000 in
theorem tJ9_floorMod_7cf53 (l : Launch) (D : va_G) (cy : Nat → ClassId) (ad : Nat → Nat) {a0 : Int32} {a1 : Int32} {r : Int32} (h : fJ9_floorMod_7cf53 a0 a1 = some r) : Met l yJ9_floorMod_7cf53 [Cond.code yJ9_floorMod_7cf53 cJ9_floorMod_7cf53 3 (some .int)] rmJ9_floorMod_7cf53 (PcS D cy [.int a0, .int a1]) (QcS (some (.int r))) 0 0 (fun _ => False) := by
  refine met_S (by decide +kernel) cw_J9_floorMod_7cf53 (Nat.le_of_ble_eq_true rfl) ?_
  intro p e s m args below meth c ls C0 hr hl
  have hl : lv_has ls 3 [(0, .int a0), (1, .int a1)] := hl
  exact wJ9_floorMod_7cf53_0 ad (fun _ => False) C0 hr h hl
set_option maxHeartbeats 4000000 in
set_option maxRecDepth 100000 in
theorem wJ7_checkLength_df160_0 {p : Program} {l : Launch} {e : Env} {s : State} {m : MethodId} {args : Array Value} {below : List Frame} {meth : Method} {c : Code} {D : va_G} {cy : Nat → ClassId} (ad : Nat → Nat) (A : Nat → Prop) {ls : Array Slot} {x0 : Int32} {x1 : Int32} (C0 : CX p s m args meth c RJ7 cJ7_checkLength_df160 2 D cy) (hr : meth.sig.returnType = none) (hF : bJ7_checkLength_df160_0 x0 x1 = some ()) (hl : lv_has ls 2 [(0, .int x0), (1, .int x1)]) : W p l e rmJ7_checkLength_df160 s m args below meth c s.heap [] 0 0 (MQ below (QcS (none)) args s 0 0 (fun _ => False)) (F0 m 0 ls []) := by
  unfold bJ7_checkLength_df160_0 at hF
  obtain ⟨hx, hb, -, hown, -, hts, -⟩ := id C0
  refine lv_iload_n hx hb dJ7_checkLength_df160_0 rfl (lv_at hl 1 rfl) ?_
  refine lv_iload_n hx hb dJ7_checkLength_df160_1 rfl (lv_at hl 0 rfl) ?_
  refine lv_icmp_ge (tgt := 37) hx hb dJ7_checkLength_df160_2 (by decide) (fun hc => ?_) (fun hc => ?_)
  · have hF := oi_t hc hF
    exact rt_SV C0 hr dJ7_checkLength_df160_37
  · have hF := oi_f hc hF
    cases hF
set_option maxHeartbeats 4000000 in
set_option maxRecDepth 100000 in
theorem tJ7_checkLength_df160 (l : Launch) (D : va_G) (cy : Nat → ClassId) (ad : Nat → Nat) {a0 : Int32} {a1 : Int32} (h : fJ7_checkLength_df160 a0 a1 = some ()) : Met l yJ7_checkLength_df160 [Cond.code yJ7_checkLength_df160 cJ7_checkLength_df160 2 (none)] rmJ7_checkLength_df160 (PcS D cy [.int a0, .int a1]) (QcS (none)) 0 0 (fun _ => False) := by
  refine met_S (by decide +kernel) cw_J7_checkLength_df160 (Nat.le_of_ble_eq_true rfl) ?_
  intro p e s m args below meth c ls C0 hr hl
  have hl : lv_has ls 2 [(0, .int a0), (1, .int a1)] := hl
  exact wJ7_checkLength_df160_0 ad (fun _ => False) C0 hr h hl
