theorem cw_Jxa1e45_init_da8c8 : Cond.code yJxa1e45_init_da8c8 cJxa1e45_init_da8c8 1 (none) ∈ UW := (uw_of 129 (by decide +kernel) rfl)
theorem ini_java_util_AbstractCollection : Cond.initialized "java/util/AbstractCollection" ∈ UW := (uw_of 86 (by decide +kernel) rfl)
theorem cb_Jxc12de_1 : CBI RJxc12de 1 yJxa1e45_init_da8c8 cJxa1e45_init_da8c8 1 0 := ⟨⟨cw_Jxa1e45_init_da8c8, ini_java_util_AbstractCollection, by decide, (uw_of 127 (by decide +kernel) rfl)⟩, (uw_of 128 (by decide +kernel) rfl), rfl⟩
theorem fl_Jxc12de_7 : FL RJxc12de 7 0 0 0 .int 0 := ⟨RJx4a65c, "java/util/AbstractList", TJx4a65c, 3, tyJx4a65c, rfl, iu_0, tyJx4a65c_ok, nmJx4a65c, by decide, rfl, by decide, (uw_of 135 (by decide +kernel) rfl), Or.inl rfl, tyJx4a65c_ok 0 (by decide), (fun _ => rfl), (fun h => by cases h), rfl⟩
theorem cw_Jxc12de_init_da8c8 : Cond.code yJxc12de_init_da8c8 cJxc12de_init_da8c8 1 (none) ∈ UW := (uw_of 126 (by decide +kernel) rfl)
theorem ini_java_util_AbstractList : Cond.initialized "java/util/AbstractList" ∈ UW := (uw_of 87 (by decide +kernel) rfl)
theorem cb_Jx4a65c_1 : CBI RJx4a65c 1 yJxc12de_init_da8c8 cJxc12de_init_da8c8 1 0 := ⟨⟨cw_Jxc12de_init_da8c8, ini_java_util_AbstractList, by decide, (uw_of 124 (by decide +kernel) rfl)⟩, (uw_of 125 (by decide +kernel) rfl), rfl⟩
theorem cw_Jx4a65c_init_da8c8 : Cond.code yJx4a65c_init_da8c8 cJx4a65c_init_da8c8 1 (none) ∈ UW := (uw_of 123 (by decide +kernel) rfl)
theorem cw_J7_fill_53178 : Cond.code yJ7_fill_53178 cJ7_fill_53178 4 (none) ∈ UW := (uw_of 759 (by decide +kernel) rfl)
theorem ini_jdk_internal_util_ArraysSupport : Cond.initialized "jdk/internal/util/ArraysSupport" ∈ UW := (uw_of 95 (by decide +kernel) rfl)
theorem cb_Jx4a65c_73 : CBS RJx4a65c 73 yJ8_newLength_cabcc cJ8_newLength_cabcc 4 (some .int) 3 := ⟨⟨cw_J8_newLength_cabcc, ini_jdk_internal_util_ArraysSupport, by decide, (uw_of 391 (by decide +kernel) rfl)⟩, (uw_of 392 (by decide +kernel) rfl)⟩
theorem cb_Jx4a65c_66 : CBS RJx4a65c 66 yJ7_copyOf_1904c cJ7_copyOf_1904c 2 ((some (.array (.object "java/lang/Object")))) 2 := ⟨⟨cw_J7_copyOf_1904c, ini_java_util_Arrays, by decide, (uw_of 401 (by decide +kernel) rfl)⟩, (uw_of 402 (by decide +kernel) rfl)⟩
theorem cb_Jx4a65c_79 : CBS RJx4a65c 79 yJ9_max_7cf53 cJ9_max_7cf53 2 (some .int) 2 := ⟨⟨cw_J9_max_7cf53, ini_java_lang_Math, by decide, (uw_of 432 (by decide +kernel) rfl)⟩, (uw_of 395 (by decide +kernel) rfl)⟩
theorem cw_Jx4a65c_grow_92f84 : Cond.code yJx4a65c_grow_92f84 cJx4a65c_grow_92f84 4 ((some (.array (.object "java/lang/Object")))) ∈ UW := (uw_of 390 (by decide +kernel) rfl)
theorem cb_Jx4a65c_69 : CBV RJx4a65c 69 yJx4a65c_grow_92f84 cJx4a65c_grow_92f84 4 ((some (.array (.object "java/lang/Object")))) 1 0 := ⟨⟨cw_Jx4a65c_grow_92f84, ini_java_util_ArrayList, by decide, (uw_of 387 (by decide +kernel) rfl)⟩, (uw_of 389 (by decide +kernel) rfl), (uw_of 2 (by decide +kernel) rfl), by decide, TJx4a65c, 3, rfl⟩
theorem cw_Jx4a65c_grow_d5877 : Cond.code yJx4a65c_grow_d5877 cJx4a65c_grow_d5877 1 ((some (.array (.object "java/lang/Object")))) ∈ UW := (uw_of 386 (by decide +kernel) rfl)
theorem cb_Jx4a65c_129 : CBV RJx4a65c 129 yJx4a65c_grow_d5877 cJx4a65c_grow_d5877 1 ((some (.array (.object "java/lang/Object")))) 0 0 := ⟨⟨cw_Jx4a65c_grow_d5877, ini_java_util_ArrayList, by decide, (uw_of 383 (by decide +kernel) rfl)⟩, (uw_of 385 (by decide +kernel) rfl), (uw_of 1 (by decide +kernel) rfl), by decide, TJx4a65c, 3, rfl⟩
theorem cw_Jx4a65c_add_72be8 : Cond.code yJx4a65c_add_72be8 cJx4a65c_add_72be8 4 (none) ∈ UW := (uw_of 382 (by decide +kernel) rfl)
theorem fl_Jx4a65c_63 : FL RJx4a65c 63 0 0 0 .int 0 := ⟨RJx4a65c, "java/util/ArrayList", TJx4a65c, 3, tyJx4a65c, rfl, iu_0, tyJx4a65c_ok, nmJx4a65c, by decide, rfl, by decide, (uw_of 136 (by decide +kernel) rfl), Or.inr (uw_of 137 (by decide +kernel) rfl), tyJx4a65c_ok 0 (by decide), (fun _ => rfl), (fun h => by cases h), rfl⟩
theorem cb_Jx4a65c_131 : CBV RJx4a65c 131 yJx4a65c_add_72be8 cJx4a65c_add_72be8 4 (none) 3 0 := ⟨⟨cw_Jx4a65c_add_72be8, ini_java_util_ArrayList, by decide, (uw_of 379 (by decide +kernel) rfl)⟩, (uw_of 381 (by decide +kernel) rfl), (uw_of 0 (by decide +kernel) rfl), by decide, TJx4a65c, 3, rfl⟩
theorem cw_Jx4a65c_add_9ea2d : Cond.code yJx4a65c_add_9ea2d cJx4a65c_add_9ea2d 2 (some .boolean) ∈ UW := (uw_of 378 (by decide +kernel) rfl)
theorem cw_Jx4a65c_clear_da8c8 : Cond.code yJx4a65c_clear_da8c8 cJx4a65c_clear_da8c8 4 (none) ∈ UW := (uw_of 882 (by decide +kernel) rfl)
theorem cb_J7_343 : CBS RJ7 343 yJ7_checkLength_df160 cJ7_checkLength_df160 2 (none) 2 := ⟨⟨cw_J7_checkLength_df160, ini_java_util_Arrays, by decide, (uw_of 610 (by decide +kernel) rfl)⟩, (uw_of 611 (by decide +kernel) rfl)⟩
theorem cw_J7_copyOfRangeInt_feecc : Cond.code yJ7_copyOfRangeInt_feecc cJ7_copyOfRangeInt_feecc 5 ((some (.array .int))) ∈ UW := (uw_of 609 (by decide +kernel) rfl)
theorem cb_J7_351 : CBS RJ7 351 yJ7_copyOfRangeInt_feecc cJ7_copyOfRangeInt_feecc 5 ((some (.array .int))) 3 := ⟨⟨cw_J7_copyOfRangeInt_feecc, ini_java_util_Arrays, by decide, (uw_of 607 (by decide +kernel) rfl)⟩, (uw_of 608 (by decide +kernel) rfl)⟩
theorem cw_J7_copyOfRange_feecc : Cond.code yJ7_copyOfRange_feecc cJ7_copyOfRange_feecc 3 ((some (.array .int))) ∈ UW := (uw_of 606 (by decide +kernel) rfl)
abbrev rmJxa1e45_init_da8c8 : Room := { frames := 1, cells := 0, slots := 0, locals := 20 }
abbrev rmJxc12de_init_da8c8 : Room := { frames := 2, cells := 0, slots := 0, locals := 40 }
abbrev rmJx4a65c_init_da8c8 : Room := { frames := 3, cells := 0, slots := 0, locals := 60 }
abbrev rmJ7_fill_53178 : Room := { frames := 0, cells := 0, slots := 0, locals := 0 }
abbrev rmJx4a65c_grow_92f84 : Room := { frames := 4, cells := 1, slots := 40, locals := 141 }
abbrev rmJx4a65c_grow_d5877 : Room := { frames := 5, cells := 1, slots := 40, locals := 164 }
abbrev rmJx4a65c_add_72be8 : Room := { frames := 6, cells := 1, slots := 40, locals := 184 }
abbrev rmJx4a65c_add_9ea2d : Room := { frames := 7, cells := 1, slots := 40, locals := 207 }
abbrev rmJx4a65c_clear_da8c8 : Room := { frames := 0, cells := 0, slots := 0, locals := 0 }
abbrev rmJ7_copyOfRangeInt_feecc : Room := { frames := 1, cells := 1, slots := 15, locals := 40 }
abbrev rmJ7_copyOfRange_feecc : Room := { frames := 2, cells := 1, slots := 15, locals := 64 }
noncomputable def bJxa1e45_init_da8c8_0 (S : MS) (x0 : Nat) : Option MS :=
  some S
noncomputable def fJxa1e45_init_da8c8 (S : MS) (a0 : Nat) : Option MS := bJxa1e45_init_da8c8_0 S a0
noncomputable def bJxc12de_init_da8c8_0 (S : MS) (x0 : Nat) : Option MS :=
  (fJxa1e45_init_da8c8 S x0).bind fun S1 =>
  (o_sI S1 x0 0 0 (0 : Int32)).bind fun S6 =>
  some S6
noncomputable def fJxc12de_init_da8c8 (S : MS) (a0 : Nat) : Option MS := bJxc12de_init_da8c8_0 S a0
noncomputable def bJx4a65c_init_da8c8_0 (S : MS) (x0 : Nat) : Option MS :=
  (fJxc12de_init_da8c8 S x0).bind fun S1 =>
  (o_sP S1 x0 0 1 (0)).bind fun S8 =>
  some S8
noncomputable def fJx4a65c_init_da8c8 (S : MS) (a0 : Nat) : Option MS := bJx4a65c_init_da8c8_0 S a0
noncomputable def bJ7_fill_53178_0 (S : MS) (x0 : Nat) (x1 : Int32) : Option ((Nat × Int32 × Int32 × Int32 × MS) ⊕ MS) :=
  (o_ln S x0 12).bind fun v3 =>
  some (.inl (x0, x1, (0 : Int32), v3, S))
noncomputable def bJ7_fill_53178_5 (S : MS) (x0 : Nat) (x1 : Int32) (x2 : Int32) (x3 : Int32) : Option ((Nat × Int32 × Int32 × Int32 × MS) ⊕ MS) :=
  if x3 ≤ x2 then
    some (.inr S)
  else
    (o_st S x0 12 x2 x1).bind fun S13 =>
    (some (x2 + 1)).bind fun v14 =>
    some (.inl (x0, x1, v14, x3, S13))
noncomputable def sJ7_fill_53178 : (Nat × Int32 × Int32 × Int32 × MS) → Option ((Nat × Int32 × Int32 × Int32 × MS) ⊕ MS) := (fun t => bJ7_fill_53178_5 t.2.2.2.2 t.1 t.2.1 t.2.2.1 t.2.2.2.1)
noncomputable def hJ7_fill_53178_5 (S : MS) (x0 : Nat) (x1 : Int32) (x2 : Int32) (x3 : Int32) : Option MS := lim (sJ7_fill_53178) (x0, x1, x2, x3, S)
theorem qJ7_fill_53178_5 (S : MS) (x0 : Nat) (x1 : Int32) (x2 : Int32) (x3 : Int32) : hJ7_fill_53178_5 S x0 x1 x2 x3 = fin (sJ7_fill_53178) (bJ7_fill_53178_5 S x0 x1 x2 x3) := lim_eq _ _
noncomputable def fJ7_fill_53178 (S : MS) (a0 : Nat) (a1 : Int32) : Option MS := fin (sJ7_fill_53178) (bJ7_fill_53178_0 S a0 a1)
noncomputable def bJx4a65c_grow_92f84_20 (S : MS) (x0 : Nat) (x1 : Int32) (x2 : Int32) : Option (Nat × MS) :=
  (fJ8_newLength_cabcc x2 (x1 - x2) (x2 >>> ((1 : Int32) &&& 31))).bind fun v27 =>
  (o_gP S x0 0 1).bind fun v33 =>
  b2 (fJ7_copyOf_1904c S v33 v27) fun v37 S37 =>
  (o_sP S37 x0 0 1 v37).bind fun S41 =>
  some (v37, S41)
noncomputable def bJx4a65c_grow_92f84_0 (S : MS) (x0 : Nat) (x1 : Int32) : Option (Nat × MS) :=
  (o_gP S x0 0 1).bind fun v1 =>
  (o_lnE S v1).bind fun v4 =>
  if 0 < v4 then
    bJx4a65c_grow_92f84_20 S x0 x1 v4
  else
    (o_gP S x0 0 1).bind fun v11 =>
    if v11 = 0 then
      (fJ9_max_7cf53 (10 : Int32) x1).bind fun v49 =>
      (o_le 40 v49).bind fun n52 =>
      (some (m_n S + 1)).bind fun o52 =>
      (some (m_new S 15 n52)).bind fun S52 =>
      (o_sP S52 x0 0 1 o52).bind fun S56 =>
      some (o52, S56)
    else
      bJx4a65c_grow_92f84_20 S x0 x1 v4
noncomputable def fJx4a65c_grow_92f84 (S : MS) (a0 : Nat) (a1 : Int32) : Option (Nat × MS) := bJx4a65c_grow_92f84_0 S a0 a1
noncomputable def bJx4a65c_grow_d5877_0 (S : MS) (x0 : Nat) : Option (Nat × MS) :=
  (o_gI S x0 0 2).bind fun v2 =>
  (o_is S x0 0).bind fun _ =>
  b2 (fJx4a65c_grow_92f84 S x0 (v2 + (1 : Int32))) fun v7 S7 =>
  some (v7, S7)
noncomputable def fJx4a65c_grow_d5877 (S : MS) (a0 : Nat) : Option (Nat × MS) := bJx4a65c_grow_d5877_0 S a0
noncomputable def bJx4a65c_add_72be8_11 (S : MS) (x0 : Nat) (x1 : Nat) (x2 : Nat) (x3 : Int32) : Option MS :=
  (o_stO S x2 x3 x1).bind fun S14 =>
  (o_sI S14 x0 0 2 (x3 + (1 : Int32))).bind fun S19 =>
  some S19
noncomputable def bJx4a65c_add_72be8_0 (S : MS) (x0 : Nat) (x1 : Nat) (x2 : Nat) (x3 : Int32) : Option MS :=
  (o_lnE S x2).bind fun v2 =>
  if x3 = v2 then
    (o_is S x0 0).bind fun _ =>
    b2 (fJx4a65c_grow_d5877 S x0) fun v7 S7 =>
    bJx4a65c_add_72be8_11 S7 x0 x1 v7 x3
  else
    bJx4a65c_add_72be8_11 S x0 x1 x2 x3
noncomputable def fJx4a65c_add_72be8 (S : MS) (a0 : Nat) (a1 : Nat) (a2 : Nat) (a3 : Int32) : Option MS := bJx4a65c_add_72be8_0 S a0 a1 a2 a3
noncomputable def bJx4a65c_add_9ea2d_0 (S : MS) (x0 : Nat) (x1 : Nat) : Option (Int32 × MS) :=
  (o_gI S x0 0 0).bind fun v2 =>
  (o_sI S x0 0 0 (v2 + (1 : Int32))).bind fun S7 =>
  (o_gP S7 x0 0 1).bind fun v13 =>
  (o_gI S7 x0 0 2).bind fun v17 =>
  (o_is S7 x0 0).bind fun _ =>
  (fJx4a65c_add_72be8 S7 x0 x1 v13 v17).bind fun S20 =>
  some ((1 : Int32), S20)
noncomputable def fJx4a65c_add_9ea2d (S : MS) (a0 : Nat) (a1 : Nat) : Option (Int32 × MS) := bJx4a65c_add_9ea2d_0 S a0 a1
noncomputable def bJx4a65c_clear_da8c8_0 (S : MS) (x0 : Nat) : Option ((Nat × Int32 × Int32 × MS) ⊕ MS) :=
  (o_gI S x0 0 0).bind fun v2 =>
  (o_sI S x0 0 0 (v2 + (1 : Int32))).bind fun S7 =>
  (o_gP S7 x0 0 1).bind fun v11 =>
  (o_gI S7 x0 0 2).bind fun v16 =>
  (o_sI S7 x0 0 2 (0 : Int32)).bind fun S23 =>
  some (.inl (v11, v16, (0 : Int32), S23))
noncomputable def bJx4a65c_clear_da8c8_27 (S : MS) (x1 : Nat) (x2 : Int32) (x3 : Int32) : Option ((Nat × Int32 × Int32 × MS) ⊕ MS) :=
  if x2 ≤ x3 then
    some (.inr S)
  else
    (o_stN S x1 x3).bind fun S35 =>
    (some (x3 + 1)).bind fun v36 =>
    some (.inl (x1, x2, v36, S35))
noncomputable def sJx4a65c_clear_da8c8 : (Nat × Int32 × Int32 × MS) → Option ((Nat × Int32 × Int32 × MS) ⊕ MS) := (fun t => bJx4a65c_clear_da8c8_27 t.2.2.2 t.1 t.2.1 t.2.2.1)
noncomputable def hJx4a65c_clear_da8c8_27 (S : MS) (x1 : Nat) (x2 : Int32) (x3 : Int32) : Option MS := lim (sJx4a65c_clear_da8c8) (x1, x2, x3, S)
theorem qJx4a65c_clear_da8c8_27 (S : MS) (x1 : Nat) (x2 : Int32) (x3 : Int32) : hJx4a65c_clear_da8c8_27 S x1 x2 x3 = fin (sJx4a65c_clear_da8c8) (bJx4a65c_clear_da8c8_27 S x1 x2 x3) := lim_eq _ _
noncomputable def fJx4a65c_clear_da8c8 (S : MS) (a0 : Nat) : Option MS := fin (sJx4a65c_clear_da8c8) (bJx4a65c_clear_da8c8_0 S a0)
noncomputable def bJ7_copyOfRangeInt_feecc_0 (S : MS) (x0 : Nat) (x1 : Int32) (x2 : Int32) : Option (Nat × MS) :=
  (fJ7_checkLength_df160 x1 x2).bind fun _ =>
  (some ((x2 - x1))).bind fun v8 =>
  (o_le 15 v8).bind fun n10 =>
  (some (m_n S + 1)).bind fun o10 =>
  (some (m_new S 12 n10)).bind fun S10 =>
  (o_ln S10 x0 12).bind fun v20 =>
  (fJ9_min_7cf53 (v20 - x1) v8).bind fun v24 =>
  (o_cpy S10 x0 x1 o10 (0 : Int32) v24).bind fun S27 =>
  some (o10, S27)
noncomputable def fJ7_copyOfRangeInt_feecc (S : MS) (a0 : Nat) (a1 : Int32) (a2 : Int32) : Option (Nat × MS) := bJ7_copyOfRangeInt_feecc_0 S a0 a1 a2
noncomputable def bJ7_copyOfRange_feecc_10 (S : MS) (x0 : Nat) (x1 : Int32) (x2 : Int32) : Option (Nat × MS) :=
  b2 (fJ7_copyOfRangeInt_feecc S x0 x1 x2) fun v13 S13 =>
  some (v13, S13)
noncomputable def bJ7_copyOfRange_feecc_0 (S : MS) (x0 : Nat) (x1 : Int32) (x2 : Int32) : Option (Nat × MS) :=
  if x1 = 0 then
    (o_ln S x0 12).bind fun v6 =>
    if x2 = v6 then
      none
    else
      bJ7_copyOfRange_feecc_10 S x0 x1 x2
  else
    bJ7_copyOfRange_feecc_10 S x0 x1 x2
noncomputable def fJ7_copyOfRange_feecc (S : MS) (a0 : Nat) (a1 : Int32) (a2 : Int32) : Option (Nat × MS) := bJ7_copyOfRange_feecc_0 S a0 a1 a2
set_option maxHeartbeats 4000000 in
set_option maxRecDepth 100000 in
theorem wJxa1e45_init_da8c8_0 {p : Program} {l : Launch} {e : Env} {s : State} {m : MethodId} {args : Array Value} {below : List Frame} {meth : Method} {c : Code} {D : va_G} {cy : Nat → ClassId} (ad : Nat → Nat) (A : Nat → Prop) {S : MS} {S' : MS} {H : Heap} {locs : List Loc} {n0 : Nat} {ls : Array Slot} {x0 : Nat} (C0 : CX p s m args meth c RJxa1e45 cJxa1e45_init_da8c8 1 D cy) (M : ST D cy ad A s.heap (ZN n0 s.heap.size) S H locs) (hr : meth.sig.returnType = none) (hin : meth.name = "<init>") (hF : bJxa1e45_init_da8c8_0 S x0 = some S') (hl : lv_has ls 1 [(0, .ref (ad x0))]) : W p l e rmJxa1e45_init_da8c8 s m args below meth c H locs 0 0 (MQ below (QcM D cy ad A n0 S' (none)) args s 0 0 A) (F0 m 0 ls []) := by
  unfold bJxa1e45_init_da8c8_0 at hF
  obtain ⟨hx, hb, -, hown, -, hts, -⟩ := id C0
  refine lv_aload_n hx hb dJxa1e45_init_da8c8_0 rfl (lv_at hl 0 rfl) ?_
  refine W.objInit hx hb hown (hts _ (uw_of 130 (by decide +kernel) rfl)) (hts _ (uw_of 111 (by decide +kernel) rfl)) (hts _ (uw_of 112 (by decide +kernel) rfl)) rfl (by rw [C0.2.2.1]; exact hl.1) rfl dJxa1e45_init_da8c8_1 (Nat.le_of_ble_eq_true rfl) (Nat.le_of_ble_eq_true rfl) ?_
  refine W.eq (g2 := F0 m 4 ls []) rfl ?_
  obtain rfl := (Option.some.inj hF)
  exact rt_MV C0 M hr dJxa1e45_init_da8c8_4
set_option maxHeartbeats 4000000 in
set_option maxRecDepth 100000 in
theorem tJxa1e45_init_da8c8 (l : Launch) (D : va_G) (cy : Nat → ClassId) (ad : Nat → Nat) (A : Nat → Prop) {S S' : MS} {a0 : Nat} (h : fJxa1e45_init_da8c8 S a0 = some S') : Met l yJxa1e45_init_da8c8 [Cond.code yJxa1e45_init_da8c8 cJxa1e45_init_da8c8 1 (none)] rmJxa1e45_init_da8c8 (PcR D cy ad A S [.ref (ad a0)]) (QcM D cy ad A (m_n S) S' (none)) 0 0 A := by
  refine met_M (by decide +kernel) cw_Jxa1e45_init_da8c8 (Nat.le_of_ble_eq_true rfl) ?_
  intro p e s m args below meth c ls C0 M hr hin hl
  have hl : lv_has ls 1 [(0, .ref (ad a0))] := hl
  exact wJxa1e45_init_da8c8_0 ad A C0 M hr hin h hl
set_option maxHeartbeats 4000000 in
set_option maxRecDepth 100000 in
theorem wJxc12de_init_da8c8_0 {p : Program} {l : Launch} {e : Env} {s : State} {m : MethodId} {args : Array Value} {below : List Frame} {meth : Method} {c : Code} {D : va_G} {cy : Nat → ClassId} (ad : Nat → Nat) (A : Nat → Prop) {S : MS} {S' : MS} {H : Heap} {locs : List Loc} {n0 : Nat} {ls : Array Slot} {x0 : Nat} (C0 : CX p s m args meth c RJxc12de cJxc12de_init_da8c8 1 D cy) (M : ST D cy ad A s.heap (ZN n0 s.heap.size) S H locs) (hr : meth.sig.returnType = none) (hin : meth.name = "<init>") (hF : bJxc12de_init_da8c8_0 S x0 = some S') (hl : lv_has ls 1 [(0, .ref (ad x0))]) : W p l e rmJxc12de_init_da8c8 s m args below meth c H locs 0 0 (MQ below (QcM D cy ad A n0 S' (none)) args s 0 0 A) (F0 m 0 ls []) := by
  unfold bJxc12de_init_da8c8_0 at hF
  obtain ⟨hx, hb, -, hown, -, hts, -⟩ := id C0
  refine lv_aload_n hx hb dJxc12de_init_da8c8_0 rfl (lv_at hl 0 rfl) ?_
  obtain ⟨S1, hcl, hF⟩ := ob hF
  refine go_MV (r_I (rest := []) (As := []) C0 cb_Jxc12de_1 (tJxa1e45_init_da8c8 l D cy ad A hcl) (pre_R C0 M.1) hl dJxc12de_init_da8c8_1 rfl (Nat.le_of_ble_eq_true rfl) ⟨rfl, rfl⟩ ⟨Nat.le_of_ble_eq_true rfl, Nat.le_of_ble_eq_true rfl⟩ ⟨Nat.le_of_ble_eq_true rfl, Nat.le_of_ble_eq_true rfl⟩ rfl) M (fun H locs M => ?_)
  refine lv_aload_n hx hb dJxc12de_init_da8c8_4 rfl (lv_at hl 0 rfl) ?_
  refine lv_iconst (v := (0 : Int32)) hx hb dJxc12de_init_da8c8_5 (by decide) ?_
  obtain ⟨S6, hv, hF⟩ := ob hF
  refine k_sI C0 M hv fl_Jxc12de_7 dJxc12de_init_da8c8_6 (fun H locs M => ?_)
  obtain rfl := (Option.some.inj hF)
  exact rt_MV C0 M hr dJxc12de_init_da8c8_9
set_option maxHeartbeats 4000000 in
set_option maxRecDepth 100000 in
theorem tJxc12de_init_da8c8 (l : Launch) (D : va_G) (cy : Nat → ClassId) (ad : Nat → Nat) (A : Nat → Prop) {S S' : MS} {a0 : Nat} (h : fJxc12de_init_da8c8 S a0 = some S') : Met l yJxc12de_init_da8c8 [Cond.code yJxc12de_init_da8c8 cJxc12de_init_da8c8 1 (none)] rmJxc12de_init_da8c8 (PcR D cy ad A S [.ref (ad a0)]) (QcM D cy ad A (m_n S) S' (none)) 0 0 A := by
  refine met_M (by decide +kernel) cw_Jxc12de_init_da8c8 (Nat.le_of_ble_eq_true rfl) ?_
  intro p e s m args below meth c ls C0 M hr hin hl
  have hl : lv_has ls 1 [(0, .ref (ad a0))] := hl
  exact wJxc12de_init_da8c8_0 ad A C0 M hr hin h hl
set_option maxHeartbeats 4000000 in
set_option maxRecDepth 100000 in
theorem wJx4a65c_init_da8c8_0 {p : Program} {l : Launch} {e : Env} {s : State} {m : MethodId} {args : Array Value} {below : List Frame} {meth : Method} {c : Code} {D : va_G} {cy : Nat → ClassId} (ad : Nat → Nat) (A : Nat → Prop) {S : MS} {S' : MS} {H : Heap} {locs : List Loc} {K0 : Nat} {ls : Array Slot} {x0 : Nat} (C0 : CX p s m args meth c RJx4a65c cJx4a65c_init_da8c8 1 D cy) (hA : ∀ k, 0 < k → A (ad k)) (hs : ∀ k, K0 ≤ k → ad (k + 1) + 1 = ad (k + 2)) (hE : EX ad A s) (M : ST D cy ad A s.heap (ZA ad K0) S H locs) (hr : meth.sig.returnType = none) (hin : meth.name = "<init>") (hF : bJx4a65c_init_da8c8_0 S x0 = some S') (hl : lv_has ls 1 [(0, .ref (ad x0))]) : W p l e rmJx4a65c_init_da8c8 s m args below meth c H locs 0 0 (MQ below (QcA D cy ad A K0 S' (none)) args s 0 0 A) (F0 m 0 ls []) := by
  unfold bJx4a65c_init_da8c8_0 at hF
  obtain ⟨hx, hb, -, hown, -, hts, -⟩ := id C0
  refine lv_aload_n hx hb dJx4a65c_init_da8c8_0 rfl (lv_at hl 0 rfl) ?_
  obtain ⟨S1, hcl, hF⟩ := ob hF
  refine go_MV (r_I (rest := []) (As := []) C0 cb_Jx4a65c_1 (tJxc12de_init_da8c8 l D cy ad A hcl) (pre_R C0 M.1) hl dJx4a65c_init_da8c8_1 rfl (Nat.le_of_ble_eq_true rfl) ⟨rfl, rfl⟩ ⟨Nat.le_of_ble_eq_true rfl, Nat.le_of_ble_eq_true rfl⟩ ⟨Nat.le_of_ble_eq_true rfl, Nat.le_of_ble_eq_true rfl⟩ rfl) M (fun H locs M => ?_)
  refine lv_aload_n hx hb dJx4a65c_init_da8c8_4 rfl (lv_at hl 0 rfl) ?_
  refine k_gs C0 hE M (uw_of 131 (by decide +kernel) rfl) dJx4a65c_init_da8c8_5 ?_
  obtain ⟨S8, hv, hF⟩ := ob hF
  refine k_sP C0 M rfl hv fl_Jx4a65c_9 dJx4a65c_init_da8c8_8 (fun H locs M => ?_)
  obtain rfl := (Option.some.inj hF)
  exact rt_AV C0 M hr dJx4a65c_init_da8c8_11
set_option maxHeartbeats 4000000 in
set_option maxRecDepth 100000 in
theorem tJx4a65c_init_da8c8 (l : Launch) (D : va_G) (cy : Nat → ClassId) (ad : Nat → Nat) (A : Nat → Prop) (K0 : Nat) (hA : ∀ k, 0 < k → A (ad k)) (hs : ∀ k, K0 ≤ k → ad (k + 1) + 1 = ad (k + 2)) {S S' : MS} {a0 : Nat} (h : fJx4a65c_init_da8c8 S a0 = some S') : Met l yJx4a65c_init_da8c8 [Cond.code yJx4a65c_init_da8c8 cJx4a65c_init_da8c8 1 (none)] rmJx4a65c_init_da8c8 (PcA D cy ad A K0 S [.ref (ad a0)]) (QcA D cy ad A K0 S' (none)) 0 0 A := by
  refine met_A (by decide +kernel) cw_Jx4a65c_init_da8c8 (Nat.le_of_ble_eq_true rfl) ?_
  intro p e s m args below meth c ls C0 hE M hr hin hl
  have hl : lv_has ls 1 [(0, .ref (ad a0))] := hl
  exact wJx4a65c_init_da8c8_0 ad A C0 hA hs hE M hr hin h hl
set_option maxHeartbeats 4000000 in
set_option maxRecDepth 100000 in
theorem wJ7_fill_53178_0 {p : Program} {l : Launch} {e : Env} {s : State} {m : MethodId} {args : Array Value} {below : List Frame} {meth : Method} {c : Code} {D : va_G} {cy : Nat → ClassId} (ad : Nat → Nat) (A : Nat → Prop) {S : MS} {S' : MS} {H : Heap} {locs : List Loc} {n0 : Nat} {out : ((Nat × Int32 × Int32 × Int32 × MS) ⊕ MS)} {ls : Array Slot} {x0 : Nat} {x1 : Int32} (C0 : CX p s m args meth c RJ7 cJ7_fill_53178 4 D cy) (M : ST D cy ad A s.heap (ZN n0 s.heap.size) S H locs) (hr : meth.sig.returnType = none) (hF : bJ7_fill_53178_0 S x0 x1 = some out) (hl : lv_has ls 4 [(0, .ref (ad x0)), (1, .int x1)]) (Kr : ∀ r9, out = .inr r9 → r9 = S') (Kh0 : ∀ (y0 : Nat) (y1 : Int32) (y2 : Int32) (y3 : Int32) (S2 : MS), out = .inl (y0, y1, y2, y3, S2) → ∀ (H1 : Heap) (locs1 : List Loc) (ls1 : Array Slot), ST D cy ad A s.heap (ZN n0 s.heap.size) S2 H1 locs1 → lv_has ls1 4 [(0, .ref (ad y0)), (1, .int y1), (2, .int y2), (3, .int y3)] → W p l e rmJ7_fill_53178 s m args below meth c H1 locs1 0 0 (MQ below (QcM D cy ad A n0 S' (none)) args s 0 0 A) (F0 m 5 ls1 [])) : W p l e rmJ7_fill_53178 s m args below meth c H locs 0 0 (MQ below (QcM D cy ad A n0 S' (none)) args s 0 0 A) (F0 m 0 ls []) := by
  unfold bJ7_fill_53178_0 at hF
  obtain ⟨hx, hb, -, hown, -, hts, -⟩ := id C0
  refine lv_iconst (v := (0 : Int32)) hx hb dJ7_fill_53178_0 (by decide) ?_
  refine lv_istore_n (lv' := [(2, .int (0 : Int32)), (0, .ref (ad x0)), (1, .int x1)]) hx hb dJ7_fill_53178_1 rfl hl (by decide) rfl (fun ls hl => ?_)
  refine lv_aload_n hx hb dJ7_fill_53178_2 rfl (lv_at hl 1 rfl) ?_
  obtain ⟨v3, hv, hF⟩ := ob hF
  refine k_ln C0 M.1 hv dJ7_fill_53178_3 ?_
  refine lv_istore_n (lv' := [(3, .int v3), (2, .int (0 : Int32)), (0, .ref (ad x0)), (1, .int x1)]) hx hb dJ7_fill_53178_4 rfl hl (by decide) rfl (fun ls hl => ?_)
  exact Kh0 _ _ _ _ _ (Option.some.inj hF).symm _ _ _ M (lv_sub hl [2, 3, 1, 0] rfl)
set_option maxHeartbeats 4000000 in
set_option maxRecDepth 100000 in
theorem wJ7_fill_53178_5 {p : Program} {l : Launch} {e : Env} {s : State} {m : MethodId} {args : Array Value} {below : List Frame} {meth : Method} {c : Code} {D : va_G} {cy : Nat → ClassId} (ad : Nat → Nat) (A : Nat → Prop) {S : MS} {S' : MS} {H : Heap} {locs : List Loc} {n0 : Nat} {out : ((Nat × Int32 × Int32 × Int32 × MS) ⊕ MS)} {ls : Array Slot} {x0 : Nat} {x1 : Int32} {x2 : Int32} {x3 : Int32} (C0 : CX p s m args meth c RJ7 cJ7_fill_53178 4 D cy) (M : ST D cy ad A s.heap (ZN n0 s.heap.size) S H locs) (hr : meth.sig.returnType = none) (hF : bJ7_fill_53178_5 S x0 x1 x2 x3 = some out) (hl : lv_has ls 4 [(0, .ref (ad x0)), (1, .int x1), (2, .int x2), (3, .int x3)]) (Kr : ∀ r9, out = .inr r9 → r9 = S') (Kh0 : ∀ (y0 : Nat) (y1 : Int32) (y2 : Int32) (y3 : Int32) (S2 : MS), out = .inl (y0, y1, y2, y3, S2) → ∀ (H1 : Heap) (locs1 : List Loc) (ls1 : Array Slot), ST D cy ad A s.heap (ZN n0 s.heap.size) S2 H1 locs1 → lv_has ls1 4 [(0, .ref (ad y0)), (1, .int y1), (2, .int y2), (3, .int y3)] → W p l e rmJ7_fill_53178 s m args below meth c H1 locs1 0 0 (MQ below (QcM D cy ad A n0 S' (none)) args s 0 0 A) (F0 m 5 ls1 [])) : W p l e rmJ7_fill_53178 s m args below meth c H locs 0 0 (MQ below (QcM D cy ad A n0 S' (none)) args s 0 0 A) (F0 m 5 ls []) := by
  unfold bJ7_fill_53178_5 at hF
  obtain ⟨hx, hb, -, hown, -, hts, -⟩ := id C0
  refine lv_iload_n hx hb dJ7_fill_53178_5 rfl (lv_at hl 2 rfl) ?_
  refine lv_iload_n hx hb dJ7_fill_53178_6 rfl (lv_at hl 3 rfl) ?_
  refine lv_icmp_ge (tgt := 20) hx hb dJ7_fill_53178_7 (by decide) (fun hc => ?_) (fun hc => ?_)
  · have hF := oi_t hc hF
    obtain rfl := (Kr _ (Option.some.inj hF).symm)
    exact rt_MV C0 M hr dJ7_fill_53178_20
  · have hF := oi_f hc hF
    refine lv_aload_n hx hb dJ7_fill_53178_10 rfl (lv_at hl 0 rfl) ?_
    refine lv_iload_n hx hb dJ7_fill_53178_11 rfl (lv_at hl 2 rfl) ?_
    refine lv_iload_n hx hb dJ7_fill_53178_12 rfl (lv_at hl 1 rfl) ?_
    obtain ⟨S13, hv, hF⟩ := ob hF
    refine k_st C0 M hv dJ7_fill_53178_13 (fun H locs M => ?_)
    obtain ⟨v14, hv, hF⟩ := ob hF
    refine lv_iinc (v := v14) (lv' := [(2, .int v14), (0, .ref (ad x0)), (1, .int x1), (3, .int x3)]) hx hb dJ7_fill_53178_14 hl (k := 2) rfl (by rw [← vtI hv]; rfl) (by decide) rfl (fun ls hl => ?_)
    refine lv_goto (tgt := 5) hx hb dJ7_fill_53178_17 (by decide) ?_
    exact Kh0 _ _ _ _ _ (Option.some.inj hF).symm _ _ _ M (lv_sub hl [1, 2, 0, 3] rfl)
set_option maxHeartbeats 4000000 in
set_option maxRecDepth 100000 in
theorem tJ7_fill_53178 (l : Launch) (D : va_G) (cy : Nat → ClassId) (ad : Nat → Nat) (A : Nat → Prop) {S S' : MS} {a0 : Nat} {a1 : Int32} (h : fJ7_fill_53178 S a0 a1 = some S') : Met l yJ7_fill_53178 [Cond.code yJ7_fill_53178 cJ7_fill_53178 4 (none)] rmJ7_fill_53178 (PcR D cy ad A S [.ref (ad a0), .int a1]) (QcM D cy ad A (m_n S) S' (none)) 0 0 A := by
  refine met_M (by decide +kernel) cw_J7_fill_53178 (Nat.le_of_ble_eq_true rfl) ?_
  intro p e s m args below meth c ls C0 M hr hin hl
  have hl : lv_has ls 4 [(0, .ref (ad a0)), (1, .int a1)] := hl
  have key := lim_walk (step := sJ7_fill_53178) (fun (q : (Nat × Int32 × Int32 × Int32 × MS)) (r9 : MS) => ∀ (S' : MS), r9 = S' → ((∀ (y0 : Nat) (y1 : Int32) (y2 : Int32) (y3 : Int32) (S2 : MS), q = (y0, y1, y2, y3, S2) → ∀ (H1 : Heap) (locs1 : List Loc) (ls1 : Array Slot), ST D cy ad A s.heap (ZN (m_n S) s.heap.size) S2 H1 locs1 → lv_has ls1 4 [(0, .ref (ad y0)), (1, .int y1), (2, .int y2), (3, .int y3)] → W p l e rmJ7_fill_53178 s m args below meth c H1 locs1 0 0 (MQ below (QcM D cy ad A (m_n S) S' (none)) args s 0 0 A) (F0 m 5 ls1 [])))) ?_
  · unfold fJ7_fill_53178 at h
    cases hs0 : bJ7_fill_53178_0 S a0 a1 with
    | none => rw [hs0] at h; cases h
    | some out =>
      rw [hs0] at h
      refine wJ7_fill_53178_0 ad A C0 M hr hs0 hl (fun r9 hr9 => ?_) ?_
      · subst hr9; exact Option.some.inj h
      · intro y0 y1 y2 y3 y4 hq; subst hq; exact (key _ _ h _ rfl) _ _ _ _ _ rfl
  · intro q r9 out hst hre hin9
    intro S' er; subst er
    refine ?_
    · intro y0 y1 y2 y3 y4 hq H1 locs1 ls1 M hl
      subst hq
      exact wJ7_fill_53178_5 ad A C0 M hr hst hl hre (fun k0 k1 k2 k3 k4 hk => (hin9 _ hk _ rfl) _ _ _ _ _ rfl)
set_option maxHeartbeats 4000000 in
set_option maxRecDepth 100000 in
theorem wJx4a65c_grow_92f84_20 {p : Program} {l : Launch} {e : Env} {s : State} {m : MethodId} {args : Array Value} {below : List Frame} {meth : Method} {c : Code} {D : va_G} {cy : Nat → ClassId} (ad : Nat → Nat) (A : Nat → Prop) {S : MS} {S' : MS} {H : Heap} {locs : List Loc} {K0 : Nat} {r : Nat} {ls : Array Slot} {x0 : Nat} {x1 : Int32} {x2 : Int32} (C0 : CX p s m args meth c RJx4a65c cJx4a65c_grow_92f84 4 D cy) (hA : ∀ k, 0 < k → A (ad k)) (hs : ∀ k, K0 ≤ k → ad (k + 1) + 1 = ad (k + 2)) (hE : EX ad A s) (M : ST D cy ad A s.heap (ZA ad K0) S H locs) (hr : meth.sig.returnType = (some (.array (.object "java/lang/Object")))) (hF : bJx4a65c_grow_92f84_20 S x0 x1 x2 = some (r, S')) (hl : lv_has ls 4 [(0, .ref (ad x0)), (1, .int x1), (2, .int x2)]) : W p l e rmJx4a65c_grow_92f84 s m args below meth c H locs 0 0 (MQ below (QcA D cy ad A K0 S' (some (.ref (ad r)))) args s 1 40 A) (F0 m 20 ls []) := by
  unfold bJx4a65c_grow_92f84_20 at hF
  obtain ⟨hx, hb, -, hown, -, hts, -⟩ := id C0
  refine lv_iload_n hx hb dJx4a65c_grow_92f84_20 rfl (lv_at hl 2 rfl) ?_
  refine lv_iload_n hx hb dJx4a65c_grow_92f84_21 rfl (lv_at hl 1 rfl) ?_
  refine lv_iload_n hx hb dJx4a65c_grow_92f84_22 rfl (lv_at hl 2 rfl) ?_
  refine lv_isub hx hb dJx4a65c_grow_92f84_23 ?_
  refine lv_iload_n hx hb dJx4a65c_grow_92f84_24 rfl (lv_at hl 2 rfl) ?_
  refine lv_iconst (v := (1 : Int32)) hx hb dJx4a65c_grow_92f84_25 (by decide) ?_
  refine lv_ishr hx hb dJx4a65c_grow_92f84_26 ?_
  obtain ⟨v27, hcl, hF⟩ := ob hF
  refine go_SI (r_S (rest := []) (As := [.int x2, .int (x1 - x2), .int (x2 >>> ((1 : Int32) &&& 31))]) C0 cb_Jx4a65c_73 (tJ8_newLength_cabcc l D cy ad hcl) (pre_S C0) hl dJx4a65c_grow_92f84_27 rfl (Nat.le_of_ble_eq_true rfl) ⟨rfl, rfl⟩ ⟨Nat.le_of_ble_eq_true rfl, Nat.le_of_ble_eq_true rfl⟩ ⟨Nat.le_of_ble_eq_true rfl, Nat.le_of_ble_eq_true rfl⟩ rfl) ?_
  refine lv_istore_n (lv' := [(3, .int v27), (0, .ref (ad x0)), (1, .int x1), (2, .int x2)]) hx hb dJx4a65c_grow_92f84_30 rfl hl (by decide) rfl (fun ls hl => ?_)
  refine lv_aload_n hx hb dJx4a65c_grow_92f84_31 rfl (lv_at hl 1 rfl) ?_
  refine lv_aload_n hx hb dJx4a65c_grow_92f84_32 rfl (lv_at hl 1 rfl) ?_
  obtain ⟨v33, hv, hF⟩ := ob hF
  refine k_getP C0 M.1 hv fl_Jx4a65c_9 dJx4a65c_grow_92f84_33 ?_
  refine lv_iload_n hx hb dJx4a65c_grow_92f84_36 rfl (lv_at hl 0 rfl) ?_
  obtain ⟨v37, S37, hcl, hF⟩ := ob2 hF
  refine go_AP (r_S (rest := [.ref (ad x0)]) (As := [.ref (ad v33), .int v27]) C0 cb_Jx4a65c_66 (tJ7_copyOf_1904c l D cy ad A K0 hA hs hcl) (pre_A C0 hE M) hl dJx4a65c_grow_92f84_37 rfl (Nat.le_of_ble_eq_true rfl) ⟨rfl, rfl⟩ ⟨Nat.le_of_ble_eq_true rfl, Nat.le_of_ble_eq_true rfl⟩ ⟨Nat.le_of_ble_eq_true rfl, Nat.le_of_ble_eq_true rfl⟩ rfl) M (fun H locs M => ?_)
  refine W.widen (k := 1) (n := 40) (Nat.le_of_ble_eq_true rfl) (Nat.le_of_ble_eq_true rfl) ?_
  refine lv_dup_x1 hx hb dJx4a65c_grow_92f84_40 rfl rfl ?_
  obtain ⟨S41, hv, hF⟩ := ob hF
  refine k_sP C0 M rfl hv fl_Jx4a65c_9 dJx4a65c_grow_92f84_41 (fun H locs M => ?_)
  obtain ⟨rfl, rfl⟩ := Prod.mk.inj (Option.some.inj hF)
  exact rt_AP C0 M hr (Or.inr ⟨_, rfl⟩) dJx4a65c_grow_92f84_44
set_option maxHeartbeats 4000000 in
set_option maxRecDepth 100000 in
theorem wJx4a65c_grow_92f84_0 {p : Program} {l : Launch} {e : Env} {s : State} {m : MethodId} {args : Array Value} {below : List Frame} {meth : Method} {c : Code} {D : va_G} {cy : Nat → ClassId} (ad : Nat → Nat) (A : Nat → Prop) {S : MS} {S' : MS} {H : Heap} {locs : List Loc} {K0 : Nat} {r : Nat} {ls : Array Slot} {x0 : Nat} {x1 : Int32} (C0 : CX p s m args meth c RJx4a65c cJx4a65c_grow_92f84 4 D cy) (hA : ∀ k, 0 < k → A (ad k)) (hs : ∀ k, K0 ≤ k → ad (k + 1) + 1 = ad (k + 2)) (hE : EX ad A s) (M : ST D cy ad A s.heap (ZA ad K0) S H locs) (hr : meth.sig.returnType = (some (.array (.object "java/lang/Object")))) (hF : bJx4a65c_grow_92f84_0 S x0 x1 = some (r, S')) (hl : lv_has ls 4 [(0, .ref (ad x0)), (1, .int x1)]) : W p l e rmJx4a65c_grow_92f84 s m args below meth c H locs 0 0 (MQ below (QcA D cy ad A K0 S' (some (.ref (ad r)))) args s 1 40 A) (F0 m 0 ls []) := by
  unfold bJx4a65c_grow_92f84_0 at hF
  obtain ⟨hx, hb, -, hown, -, hts, -⟩ := id C0
  refine lv_aload_n hx hb dJx4a65c_grow_92f84_0 rfl (lv_at hl 0 rfl) ?_
  obtain ⟨v1, hv, hF⟩ := ob hF
  refine k_getP C0 M.1 hv fl_Jx4a65c_9 dJx4a65c_grow_92f84_1 ?_
  obtain ⟨v4, hv, hF⟩ := ob hF
  refine k_lnE C0 hE M hv dJx4a65c_grow_92f84_4 ?_
  refine lv_istore_n (lv' := [(2, .int v4), (0, .ref (ad x0)), (1, .int x1)]) hx hb dJx4a65c_grow_92f84_5 rfl hl (by decide) rfl (fun ls hl => ?_)
  refine lv_iload_n hx hb dJx4a65c_grow_92f84_6 rfl (lv_at hl 0 rfl) ?_
  refine lv_if_gt (tgt := 20) hx hb dJx4a65c_grow_92f84_7 (by decide) (fun hc => ?_) (fun hc => ?_)
  · have hF := oi_t hc hF
    exact wJx4a65c_grow_92f84_20 ad A C0 hA hs hE M hr hF (lv_sub hl [1, 2, 0] rfl)
  · have hF := oi_f hc hF
    refine lv_aload_n hx hb dJx4a65c_grow_92f84_10 rfl (lv_at hl 1 rfl) ?_
    obtain ⟨v11, hv, hF⟩ := ob hF
    refine k_getP C0 M.1 hv fl_Jx4a65c_9 dJx4a65c_grow_92f84_11 ?_
    refine k_gs C0 hE M (uw_of 131 (by decide +kernel) rfl) dJx4a65c_grow_92f84_14 ?_
    refine k_ane (tgt := 45) C0 hE hA dJx4a65c_grow_92f84_17 (by decide) (fun hc => ?_) (fun hc => ?_)
    · have hF := oi_t hc hF
      refine lv_aload_n hx hb dJx4a65c_grow_92f84_45 rfl (lv_at hl 1 rfl) ?_
      refine lv_bipush (v := (10 : Int32)) hx hb dJx4a65c_grow_92f84_46 (by decide) ?_
      refine lv_iload_n hx hb dJx4a65c_grow_92f84_48 rfl (lv_at hl 2 rfl) ?_
      obtain ⟨v49, hcl, hF⟩ := ob hF
      refine go_SI (r_S (rest := [.ref (ad x0)]) (As := [.int (10 : Int32), .int x1]) C0 cb_Jx4a65c_79 (tJ9_max_7cf53 l D cy ad hcl) (pre_S C0) hl dJx4a65c_grow_92f84_49 rfl (Nat.le_of_ble_eq_true rfl) ⟨rfl, rfl⟩ ⟨Nat.le_of_ble_eq_true rfl, Nat.le_of_ble_eq_true rfl⟩ ⟨Nat.le_of_ble_eq_true rfl, Nat.le_of_ble_eq_true rfl⟩ rfl) ?_
      obtain ⟨n52, hn, hF⟩ := ob hF
      obtain ⟨o52, ho, hF⟩ := ob hF
      obtain ⟨S52, hv, hF⟩ := ob hF
      have ho := vtI ho
      have hv := vtI hv
      refine k_newQ (C := "java/lang/Object") (kd := 15) 3 C0 M hA hs (uw_of 433 (by decide +kernel) rfl) (uw_of 424 (by decide +kernel) rfl) rfl (by decide) hn (Nat.le_of_ble_eq_true rfl) (Nat.le_of_ble_eq_true rfl) (Nat.le_of_ble_eq_true rfl) dJx4a65c_grow_92f84_52 (fun H M => ?_)
      rw [hv] at M
      rw [ho]
      refine W.widen (k := 1) (n := 40) (Nat.le_of_ble_eq_true rfl) (Nat.le_of_ble_eq_true rfl) ?_
      refine lv_dup_x1 hx hb dJx4a65c_grow_92f84_55 rfl rfl ?_
      obtain ⟨S56, hv, hF⟩ := ob hF
      refine k_sP C0 M rfl hv fl_Jx4a65c_9 dJx4a65c_grow_92f84_56 (fun H locs M => ?_)
      obtain ⟨rfl, rfl⟩ := Prod.mk.inj (Option.some.inj hF)
      exact rt_AP C0 M hr (Or.inr ⟨_, rfl⟩) dJx4a65c_grow_92f84_59
    · have hF := oi_f hc hF
      exact wJx4a65c_grow_92f84_20 ad A C0 hA hs hE M hr hF (lv_sub hl [1, 2, 0] rfl)
set_option maxHeartbeats 4000000 in
set_option maxRecDepth 100000 in
theorem tJx4a65c_grow_92f84 (l : Launch) (D : va_G) (cy : Nat → ClassId) (ad : Nat → Nat) (A : Nat → Prop) (K0 : Nat) (hA : ∀ k, 0 < k → A (ad k)) (hs : ∀ k, K0 ≤ k → ad (k + 1) + 1 = ad (k + 2)) {S S' : MS} {a0 : Nat} {a1 : Int32} {r : Nat} (h : fJx4a65c_grow_92f84 S a0 a1 = some (r, S')) : Met l yJx4a65c_grow_92f84 [Cond.code yJx4a65c_grow_92f84 cJx4a65c_grow_92f84 4 ((some (.array (.object "java/lang/Object"))))] rmJx4a65c_grow_92f84 (PcA D cy ad A K0 S [.ref (ad a0), .int a1]) (QcA D cy ad A K0 S' (some (.ref (ad r)))) 1 40 A := by
  refine met_A (by decide +kernel) cw_Jx4a65c_grow_92f84 (Nat.le_of_ble_eq_true rfl) ?_
  intro p e s m args below meth c ls C0 hE M hr hin hl
  have hl : lv_has ls 4 [(0, .ref (ad a0)), (1, .int a1)] := hl
  exact wJx4a65c_grow_92f84_0 ad A C0 hA hs hE M hr h hl
set_option maxHeartbeats 4000000 in
set_option maxRecDepth 100000 in
theorem wJx4a65c_grow_d5877_0 {p : Program} {l : Launch} {e : Env} {s : State} {m : MethodId} {args : Array Value} {below : List Frame} {meth : Method} {c : Code} {D : va_G} {cy : Nat → ClassId} (ad : Nat → Nat) (A : Nat → Prop) {S : MS} {S' : MS} {H : Heap} {locs : List Loc} {K0 : Nat} {r : Nat} {ls : Array Slot} {x0 : Nat} (C0 : CX p s m args meth c RJx4a65c cJx4a65c_grow_d5877 1 D cy) (hA : ∀ k, 0 < k → A (ad k)) (hs : ∀ k, K0 ≤ k → ad (k + 1) + 1 = ad (k + 2)) (hE : EX ad A s) (M : ST D cy ad A s.heap (ZA ad K0) S H locs) (hr : meth.sig.returnType = (some (.array (.object "java/lang/Object")))) (hF : bJx4a65c_grow_d5877_0 S x0 = some (r, S')) (hl : lv_has ls 1 [(0, .ref (ad x0))]) : W p l e rmJx4a65c_grow_d5877 s m args below meth c H locs 0 0 (MQ below (QcA D cy ad A K0 S' (some (.ref (ad r)))) args s 1 40 A) (F0 m 0 ls []) := by
  unfold bJx4a65c_grow_d5877_0 at hF
  obtain ⟨hx, hb, -, hown, -, hts, -⟩ := id C0
  refine lv_aload_n hx hb dJx4a65c_grow_d5877_0 rfl (lv_at hl 0 rfl) ?_
  refine lv_aload_n hx hb dJx4a65c_grow_d5877_1 rfl (lv_at hl 0 rfl) ?_
  obtain ⟨v2, hv, hF⟩ := ob hF
  refine k_getI C0 M.1 hv fl_Jx4a65c_48 dJx4a65c_grow_d5877_2 ?_
  refine lv_iconst (v := (1 : Int32)) hx hb dJx4a65c_grow_d5877_5 (by decide) ?_
  refine lv_iadd hx hb dJx4a65c_grow_d5877_6 ?_
  obtain ⟨_, hrec, hF⟩ := ob hF
  obtain ⟨v7, S7, hcl, hF⟩ := ob2 hF
  refine go_AP (r_V (rest := []) (As := [.int (v2 + (1 : Int32))]) C0 cb_Jx4a65c_69 M.1 hrec (tJx4a65c_grow_92f84 l D cy ad A K0 hA hs hcl) (pre_A C0 hE M) hl dJx4a65c_grow_d5877_7 rfl (Nat.le_of_ble_eq_true rfl) ⟨rfl, rfl⟩ ⟨Nat.le_of_ble_eq_true rfl, Nat.le_of_ble_eq_true rfl⟩ ⟨Nat.le_of_ble_eq_true rfl, Nat.le_of_ble_eq_true rfl⟩ rfl) M (fun H locs M => ?_)
  refine W.widen (k := 1) (n := 40) (Nat.le_of_ble_eq_true rfl) (Nat.le_of_ble_eq_true rfl) ?_
  obtain ⟨rfl, rfl⟩ := Prod.mk.inj (Option.some.inj hF)
  exact rt_AP C0 M hr (Or.inr ⟨_, rfl⟩) dJx4a65c_grow_d5877_10
set_option maxHeartbeats 4000000 in
set_option maxRecDepth 100000 in
theorem tJx4a65c_grow_d5877 (l : Launch) (D : va_G) (cy : Nat → ClassId) (ad : Nat → Nat) (A : Nat → Prop) (K0 : Nat) (hA : ∀ k, 0 < k → A (ad k)) (hs : ∀ k, K0 ≤ k → ad (k + 1) + 1 = ad (k + 2)) {S S' : MS} {a0 : Nat} {r : Nat} (h : fJx4a65c_grow_d5877 S a0 = some (r, S')) : Met l yJx4a65c_grow_d5877 [Cond.code yJx4a65c_grow_d5877 cJx4a65c_grow_d5877 1 ((some (.array (.object "java/lang/Object"))))] rmJx4a65c_grow_d5877 (PcA D cy ad A K0 S [.ref (ad a0)]) (QcA D cy ad A K0 S' (some (.ref (ad r)))) 1 40 A := by
  refine met_A (by decide +kernel) cw_Jx4a65c_grow_d5877 (Nat.le_of_ble_eq_true rfl) ?_
  intro p e s m args below meth c ls C0 hE M hr hin hl
  have hl : lv_has ls 1 [(0, .ref (ad a0))] := hl
  exact wJx4a65c_grow_d5877_0 ad A C0 hA hs hE M hr h hl
set_option maxHeartbeats 4000000 in
set_option maxRecDepth 100000 in
theorem wJx4a65c_add_72be8_11 {p : Program} {l : Launch} {e : Env} {s : State} {m : MethodId} {args : Array Value} {below : List Frame} {meth : Method} {c : Code} {D : va_G} {cy : Nat → ClassId} (ad : Nat → Nat) (A : Nat → Prop) {S : MS} {S' : MS} {H : Heap} {locs : List Loc} {K0 : Nat} {ls : Array Slot} {x0 : Nat} {x1 : Nat} {x2 : Nat} {x3 : Int32} (C0 : CX p s m args meth c RJx4a65c cJx4a65c_add_72be8 4 D cy) (hA : ∀ k, 0 < k → A (ad k)) (hs : ∀ k, K0 ≤ k → ad (k + 1) + 1 = ad (k + 2)) (hE : EX ad A s) (M : ST D cy ad A s.heap (ZA ad K0) S H locs) (hr : meth.sig.returnType = none) (hF : bJx4a65c_add_72be8_11 S x0 x1 x2 x3 = some S') (hl : lv_has ls 4 [(0, .ref (ad x0)), (1, .ref (ad x1)), (2, .ref (ad x2)), (3, .int x3)]) : W p l e rmJx4a65c_add_72be8 s m args below meth c H locs 1 40 (MQ below (QcA D cy ad A K0 S' (none)) args s 1 40 A) (F0 m 11 ls []) := by
  unfold bJx4a65c_add_72be8_11 at hF
  obtain ⟨hx, hb, -, hown, -, hts, -⟩ := id C0
  refine lv_aload_n hx hb dJx4a65c_add_72be8_11 rfl (lv_at hl 2 rfl) ?_
  refine lv_iload_n hx hb dJx4a65c_add_72be8_12 rfl (lv_at hl 3 rfl) ?_
  refine lv_aload_n hx hb dJx4a65c_add_72be8_13 rfl (lv_at hl 1 rfl) ?_
  obtain ⟨S14, hv, hF⟩ := ob hF
  refine k_stO C0 M hv dJx4a65c_add_72be8_14 (fun H locs M => ?_)
  refine lv_aload_n hx hb dJx4a65c_add_72be8_15 rfl (lv_at hl 0 rfl) ?_
  refine lv_iload_n hx hb dJx4a65c_add_72be8_16 rfl (lv_at hl 3 rfl) ?_
  refine lv_iconst (v := (1 : Int32)) hx hb dJx4a65c_add_72be8_17 (by decide) ?_
  refine lv_iadd hx hb dJx4a65c_add_72be8_18 ?_
  obtain ⟨S19, hv, hF⟩ := ob hF
  refine k_sI C0 M hv fl_Jx4a65c_48 dJx4a65c_add_72be8_19 (fun H locs M => ?_)
  obtain rfl := (Option.some.inj hF)
  exact rt_AV C0 M hr dJx4a65c_add_72be8_22
set_option maxHeartbeats 4000000 in
set_option maxRecDepth 100000 in
theorem wJx4a65c_add_72be8_0 {p : Program} {l : Launch} {e : Env} {s : State} {m : MethodId} {args : Array Value} {below : List Frame} {meth : Method} {c : Code} {D : va_G} {cy : Nat → ClassId} (ad : Nat → Nat) (A : Nat → Prop) {S : MS} {S' : MS} {H : Heap} {locs : List Loc} {K0 : Nat} {ls : Array Slot} {x0 : Nat} {x1 : Nat} {x2 : Nat} {x3 : Int32} (C0 : CX p s m args meth c RJx4a65c cJx4a65c_add_72be8 4 D cy) (hA : ∀ k, 0 < k → A (ad k)) (hs : ∀ k, K0 ≤ k → ad (k + 1) + 1 = ad (k + 2)) (hE : EX ad A s) (M : ST D cy ad A s.heap (ZA ad K0) S H locs) (hr : meth.sig.returnType = none) (hF : bJx4a65c_add_72be8_0 S x0 x1 x2 x3 = some S') (hl : lv_has ls 4 [(0, .ref (ad x0)), (1, .ref (ad x1)), (2, .ref (ad x2)), (3, .int x3)]) : W p l e rmJx4a65c_add_72be8 s m args below meth c H locs 0 0 (MQ below (QcA D cy ad A K0 S' (none)) args s 1 40 A) (F0 m 0 ls []) := by
  unfold bJx4a65c_add_72be8_0 at hF
  obtain ⟨hx, hb, -, hown, -, hts, -⟩ := id C0
  refine lv_iload_n hx hb dJx4a65c_add_72be8_0 rfl (lv_at hl 3 rfl) ?_
  refine lv_aload_n hx hb dJx4a65c_add_72be8_1 rfl (lv_at hl 2 rfl) ?_
  obtain ⟨v2, hv, hF⟩ := ob hF
  refine k_lnE C0 hE M hv dJx4a65c_add_72be8_2 ?_
  refine lv_icmp_ne (tgt := 11) hx hb dJx4a65c_add_72be8_3 (by decide) (fun hc => ?_) (fun hc => ?_)
  · have hF := oi_f hc hF
    refine W.widen (k := 1) (n := 40) (Nat.le_of_ble_eq_true rfl) (Nat.le_of_ble_eq_true rfl) ?_
    exact wJx4a65c_add_72be8_11 ad A C0 hA hs hE M hr hF (lv_sub hl [0, 1, 2, 3] rfl)
  · have hF := oi_t hc hF
    refine lv_aload_n hx hb dJx4a65c_add_72be8_6 rfl (lv_at hl 0 rfl) ?_
    obtain ⟨_, hrec, hF⟩ := ob hF
    obtain ⟨v7, S7, hcl, hF⟩ := ob2 hF
    refine go_AP (r_V (rest := []) (As := []) C0 cb_Jx4a65c_129 M.1 hrec (tJx4a65c_grow_d5877 l D cy ad A K0 hA hs hcl) (pre_A C0 hE M) hl dJx4a65c_add_72be8_7 rfl (Nat.le_of_ble_eq_true rfl) ⟨rfl, rfl⟩ ⟨Nat.le_of_ble_eq_true rfl, Nat.le_of_ble_eq_true rfl⟩ ⟨Nat.le_of_ble_eq_true rfl, Nat.le_of_ble_eq_true rfl⟩ rfl) M (fun H locs M => ?_)
    refine W.widen (k := 1) (n := 40) (Nat.le_of_ble_eq_true rfl) (Nat.le_of_ble_eq_true rfl) ?_
    refine lv_astore_n (lv' := [(2, .ref (ad v7)), (0, .ref (ad x0)), (1, .ref (ad x1)), (3, .int x3)]) hx hb dJx4a65c_add_72be8_10 rfl hl (by decide) rfl (fun ls hl => ?_)
    exact wJx4a65c_add_72be8_11 ad A C0 hA hs hE M hr hF (lv_sub hl [1, 2, 0, 3] rfl)
set_option maxHeartbeats 4000000 in
set_option maxRecDepth 100000 in
theorem tJx4a65c_add_72be8 (l : Launch) (D : va_G) (cy : Nat → ClassId) (ad : Nat → Nat) (A : Nat → Prop) (K0 : Nat) (hA : ∀ k, 0 < k → A (ad k)) (hs : ∀ k, K0 ≤ k → ad (k + 1) + 1 = ad (k + 2)) {S S' : MS} {a0 : Nat} {a1 : Nat} {a2 : Nat} {a3 : Int32} (h : fJx4a65c_add_72be8 S a0 a1 a2 a3 = some S') : Met l yJx4a65c_add_72be8 [Cond.code yJx4a65c_add_72be8 cJx4a65c_add_72be8 4 (none)] rmJx4a65c_add_72be8 (PcA D cy ad A K0 S [.ref (ad a0), .ref (ad a1), .ref (ad a2), .int a3]) (QcA D cy ad A K0 S' (none)) 1 40 A := by
  refine met_A (by decide +kernel) cw_Jx4a65c_add_72be8 (Nat.le_of_ble_eq_true rfl) ?_
  intro p e s m args below meth c ls C0 hE M hr hin hl
  have hl : lv_has ls 4 [(0, .ref (ad a0)), (1, .ref (ad a1)), (2, .ref (ad a2)), (3, .int a3)] := hl
  exact wJx4a65c_add_72be8_0 ad A C0 hA hs hE M hr h hl
set_option maxHeartbeats 4000000 in
set_option maxRecDepth 100000 in
theorem wJx4a65c_add_9ea2d_0 {p : Program} {l : Launch} {e : Env} {s : State} {m : MethodId} {args : Array Value} {below : List Frame} {meth : Method} {c : Code} {D : va_G} {cy : Nat → ClassId} (ad : Nat → Nat) (A : Nat → Prop) {S : MS} {S' : MS} {H : Heap} {locs : List Loc} {K0 : Nat} {r : Int32} {ls : Array Slot} {x0 : Nat} {x1 : Nat} (C0 : CX p s m args meth c RJx4a65c cJx4a65c_add_9ea2d 2 D cy) (hA : ∀ k, 0 < k → A (ad k)) (hs : ∀ k, K0 ≤ k → ad (k + 1) + 1 = ad (k + 2)) (hE : EX ad A s) (M : ST D cy ad A s.heap (ZA ad K0) S H locs) (hr : meth.sig.returnType = some .boolean) (hF : bJx4a65c_add_9ea2d_0 S x0 x1 = some (r, S')) (hl : lv_has ls 2 [(0, .ref (ad x0)), (1, .ref (ad x1))]) : W p l e rmJx4a65c_add_9ea2d s m args below meth c H locs 0 0 (MQ below (QcA D cy ad A K0 S' (some (.int r))) args s 1 40 A) (F0 m 0 ls []) := by
  unfold bJx4a65c_add_9ea2d_0 at hF
  obtain ⟨hx, hb, -, hown, -, hts, -⟩ := id C0
  refine lv_aload_n hx hb dJx4a65c_add_9ea2d_0 rfl (lv_at hl 0 rfl) ?_
  refine lv_dup hx hb dJx4a65c_add_9ea2d_1 rfl ?_
  obtain ⟨v2, hv, hF⟩ := ob hF
  refine k_getI C0 M.1 hv fl_Jx4a65c_63 dJx4a65c_add_9ea2d_2 ?_
  refine lv_iconst (v := (1 : Int32)) hx hb dJx4a65c_add_9ea2d_5 (by decide) ?_
  refine lv_iadd hx hb dJx4a65c_add_9ea2d_6 ?_
  obtain ⟨S7, hv, hF⟩ := ob hF
  refine k_sI C0 M hv fl_Jx4a65c_63 dJx4a65c_add_9ea2d_7 (fun H locs M => ?_)
  refine lv_aload_n hx hb dJx4a65c_add_9ea2d_10 rfl (lv_at hl 0 rfl) ?_
  refine lv_aload_n hx hb dJx4a65c_add_9ea2d_11 rfl (lv_at hl 1 rfl) ?_
  refine lv_aload_n hx hb dJx4a65c_add_9ea2d_12 rfl (lv_at hl 0 rfl) ?_
  obtain ⟨v13, hv, hF⟩ := ob hF
  refine k_getP C0 M.1 hv fl_Jx4a65c_9 dJx4a65c_add_9ea2d_13 ?_
  refine lv_aload_n hx hb dJx4a65c_add_9ea2d_16 rfl (lv_at hl 0 rfl) ?_
  obtain ⟨v17, hv, hF⟩ := ob hF
  refine k_getI C0 M.1 hv fl_Jx4a65c_48 dJx4a65c_add_9ea2d_17 ?_
  obtain ⟨_, hrec, hF⟩ := ob hF
  obtain ⟨S20, hcl, hF⟩ := ob hF
  refine go_AV (r_V (rest := []) (As := [.ref (ad x1), .ref (ad v13), .int v17]) C0 cb_Jx4a65c_131 M.1 hrec (tJx4a65c_add_72be8 l D cy ad A K0 hA hs hcl) (pre_A C0 hE M) hl dJx4a65c_add_9ea2d_20 rfl (Nat.le_of_ble_eq_true rfl) ⟨rfl, rfl⟩ ⟨Nat.le_of_ble_eq_true rfl, Nat.le_of_ble_eq_true rfl⟩ ⟨Nat.le_of_ble_eq_true rfl, Nat.le_of_ble_eq_true rfl⟩ rfl) M (fun H locs M => ?_)
  refine W.widen (k := 1) (n := 40) (Nat.le_of_ble_eq_true rfl) (Nat.le_of_ble_eq_true rfl) ?_
  refine lv_iconst (v := (1 : Int32)) hx hb dJx4a65c_add_9ea2d_23 (by decide) ?_
  have hz : o_zb (1 : Int32) = some (1 : Int32) := rfl
  obtain ⟨rfl, rfl⟩ := Prod.mk.inj (Option.some.inj hF)
  exact rt_AZ C0 M hr hz dJx4a65c_add_9ea2d_24
set_option maxHeartbeats 4000000 in
set_option maxRecDepth 100000 in
theorem tJx4a65c_add_9ea2d (l : Launch) (D : va_G) (cy : Nat → ClassId) (ad : Nat → Nat) (A : Nat → Prop) (K0 : Nat) (hA : ∀ k, 0 < k → A (ad k)) (hs : ∀ k, K0 ≤ k → ad (k + 1) + 1 = ad (k + 2)) {S S' : MS} {a0 : Nat} {a1 : Nat} {r : Int32} (h : fJx4a65c_add_9ea2d S a0 a1 = some (r, S')) : Met l yJx4a65c_add_9ea2d [Cond.code yJx4a65c_add_9ea2d cJx4a65c_add_9ea2d 2 (some .boolean)] rmJx4a65c_add_9ea2d (PcA D cy ad A K0 S [.ref (ad a0), .ref (ad a1)]) (QcA D cy ad A K0 S' (some (.int r))) 1 40 A := by
  refine met_A (by decide +kernel) cw_Jx4a65c_add_9ea2d (Nat.le_of_ble_eq_true rfl) ?_
  intro p e s m args below meth c ls C0 hE M hr hin hl
  have hl : lv_has ls 2 [(0, .ref (ad a0)), (1, .ref (ad a1))] := hl
  exact wJx4a65c_add_9ea2d_0 ad A C0 hA hs hE M hr h hl
set_option maxHeartbeats 4000000 in
set_option maxRecDepth 100000 in
theorem wJx4a65c_clear_da8c8_0 {p : Program} {l : Launch} {e : Env} {s : State} {m : MethodId} {args : Array Value} {below : List Frame} {meth : Method} {c : Code} {D : va_G} {cy : Nat → ClassId} (ad : Nat → Nat) (A : Nat → Prop) {S : MS} {S' : MS} {H : Heap} {locs : List Loc} {n0 : Nat} {out : ((Nat × Int32 × Int32 × MS) ⊕ MS)} {ls : Array Slot} {x0 : Nat} (C0 : CX p s m args meth c RJx4a65c cJx4a65c_clear_da8c8 4 D cy) (M : ST D cy ad A s.heap (ZN n0 s.heap.size) S H locs) (hr : meth.sig.returnType = none) (hF : bJx4a65c_clear_da8c8_0 S x0 = some out) (hl : lv_has ls 4 [(0, .ref (ad x0))]) (Kr : ∀ r9, out = .inr r9 → r9 = S') (Kh0 : ∀ (y0 : Nat) (y1 : Int32) (y2 : Int32) (S2 : MS), out = .inl (y0, y1, y2, S2) → ∀ (H1 : Heap) (locs1 : List Loc) (ls1 : Array Slot), ST D cy ad A s.heap (ZN n0 s.heap.size) S2 H1 locs1 → lv_has ls1 4 [(1, .ref (ad y0)), (2, .int y1), (3, .int y2)] → W p l e rmJx4a65c_clear_da8c8 s m args below meth c H1 locs1 0 0 (MQ below (QcM D cy ad A n0 S' (none)) args s 0 0 A) (F0 m 27 ls1 [])) : W p l e rmJx4a65c_clear_da8c8 s m args below meth c H locs 0 0 (MQ below (QcM D cy ad A n0 S' (none)) args s 0 0 A) (F0 m 0 ls []) := by
  unfold bJx4a65c_clear_da8c8_0 at hF
  obtain ⟨hx, hb, -, hown, -, hts, -⟩ := id C0
  refine lv_aload_n hx hb dJx4a65c_clear_da8c8_0 rfl (lv_at hl 0 rfl) ?_
  refine lv_dup hx hb dJx4a65c_clear_da8c8_1 rfl ?_
  obtain ⟨v2, hv, hF⟩ := ob hF
  refine k_getI C0 M.1 hv fl_Jx4a65c_63 dJx4a65c_clear_da8c8_2 ?_
  refine lv_iconst (v := (1 : Int32)) hx hb dJx4a65c_clear_da8c8_5 (by decide) ?_
  refine lv_iadd hx hb dJx4a65c_clear_da8c8_6 ?_
  obtain ⟨S7, hv, hF⟩ := ob hF
  refine k_sI C0 M hv fl_Jx4a65c_63 dJx4a65c_clear_da8c8_7 (fun H locs M => ?_)
  refine lv_aload_n hx hb dJx4a65c_clear_da8c8_10 rfl (lv_at hl 0 rfl) ?_
  obtain ⟨v11, hv, hF⟩ := ob hF
  refine k_getP C0 M.1 hv fl_Jx4a65c_9 dJx4a65c_clear_da8c8_11 ?_
  refine lv_astore_n (lv' := [(1, .ref (ad v11)), (0, .ref (ad x0))]) hx hb dJx4a65c_clear_da8c8_14 rfl hl (by decide) rfl (fun ls hl => ?_)
  refine lv_aload_n hx hb dJx4a65c_clear_da8c8_15 rfl (lv_at hl 1 rfl) ?_
  obtain ⟨v16, hv, hF⟩ := ob hF
  refine k_getI C0 M.1 hv fl_Jx4a65c_48 dJx4a65c_clear_da8c8_16 ?_
  refine lv_istore_n (lv' := [(2, .int v16), (1, .ref (ad v11)), (0, .ref (ad x0))]) hx hb dJx4a65c_clear_da8c8_19 rfl hl (by decide) rfl (fun ls hl => ?_)
  refine lv_aload_n hx hb dJx4a65c_clear_da8c8_20 rfl (lv_at hl 2 rfl) ?_
  refine lv_iconst (v := (0 : Int32)) hx hb dJx4a65c_clear_da8c8_21 (by decide) ?_
  refine lv_dup_x1 hx hb dJx4a65c_clear_da8c8_22 rfl rfl ?_
  obtain ⟨S23, hv, hF⟩ := ob hF
  refine k_sI C0 M hv fl_Jx4a65c_48 dJx4a65c_clear_da8c8_23 (fun H locs M => ?_)
  refine lv_istore_n (lv' := [(3, .int (0 : Int32)), (2, .int v16), (1, .ref (ad v11)), (0, .ref (ad x0))]) hx hb dJx4a65c_clear_da8c8_26 rfl hl (by decide) rfl (fun ls hl => ?_)
  exact Kh0 _ _ _ _ (Option.some.inj hF).symm _ _ _ M (lv_sub hl [2, 1, 0] rfl)
set_option maxHeartbeats 4000000 in
set_option maxRecDepth 100000 in
theorem wJx4a65c_clear_da8c8_27 {p : Program} {l : Launch} {e : Env} {s : State} {m : MethodId} {args : Array Value} {below : List Frame} {meth : Method} {c : Code} {D : va_G} {cy : Nat → ClassId} (ad : Nat → Nat) (A : Nat → Prop) {S : MS} {S' : MS} {H : Heap} {locs : List Loc} {n0 : Nat} {out : ((Nat × Int32 × Int32 × MS) ⊕ MS)} {ls : Array Slot} {x1 : Nat} {x2 : Int32} {x3 : Int32} (C0 : CX p s m args meth c RJx4a65c cJx4a65c_clear_da8c8 4 D cy) (M : ST D cy ad A s.heap (ZN n0 s.heap.size) S H locs) (hr : meth.sig.returnType = none) (hF : bJx4a65c_clear_da8c8_27 S x1 x2 x3 = some out) (hl : lv_has ls 4 [(1, .ref (ad x1)), (2, .int x2), (3, .int x3)]) (Kr : ∀ r9, out = .inr r9 → r9 = S') (Kh0 : ∀ (y0 : Nat) (y1 : Int32) (y2 : Int32) (S2 : MS), out = .inl (y0, y1, y2, S2) → ∀ (H1 : Heap) (locs1 : List Loc) (ls1 : Array Slot), ST D cy ad A s.heap (ZN n0 s.heap.size) S2 H1 locs1 → lv_has ls1 4 [(1, .ref (ad y0)), (2, .int y1), (3, .int y2)] → W p l e rmJx4a65c_clear_da8c8 s m args below meth c H1 locs1 0 0 (MQ below (QcM D cy ad A n0 S' (none)) args s 0 0 A) (F0 m 27 ls1 [])) : W p l e rmJx4a65c_clear_da8c8 s m args below meth c H locs 0 0 (MQ below (QcM D cy ad A n0 S' (none)) args s 0 0 A) (F0 m 27 ls []) := by
  unfold bJx4a65c_clear_da8c8_27 at hF
  obtain ⟨hx, hb, -, hown, -, hts, -⟩ := id C0
  refine lv_iload_n hx hb dJx4a65c_clear_da8c8_27 rfl (lv_at hl 2 rfl) ?_
  refine lv_iload_n hx hb dJx4a65c_clear_da8c8_28 rfl (lv_at hl 1 rfl) ?_
  refine lv_icmp_ge (tgt := 42) hx hb dJx4a65c_clear_da8c8_29 (by decide) (fun hc => ?_) (fun hc => ?_)
  · have hF := oi_t hc hF
    obtain rfl := (Kr _ (Option.some.inj hF).symm)
    exact rt_MV C0 M hr dJx4a65c_clear_da8c8_42
  · have hF := oi_f hc hF
    refine lv_aload_n hx hb dJx4a65c_clear_da8c8_32 rfl (lv_at hl 0 rfl) ?_
    refine lv_iload_n hx hb dJx4a65c_clear_da8c8_33 rfl (lv_at hl 2 rfl) ?_
    refine lv_null hx hb dJx4a65c_clear_da8c8_34 ?_
    obtain ⟨S35, hv, hF⟩ := ob hF
    refine k_stN C0 M hv dJx4a65c_clear_da8c8_35 (fun H locs M => ?_)
    obtain ⟨v36, hv, hF⟩ := ob hF
    refine lv_iinc (v := v36) (lv' := [(3, .int v36), (1, .ref (ad x1)), (2, .int x2)]) hx hb dJx4a65c_clear_da8c8_36 hl (k := 2) rfl (by rw [← vtI hv]; rfl) (by decide) rfl (fun ls hl => ?_)
    refine lv_goto (tgt := 27) hx hb dJx4a65c_clear_da8c8_39 (by decide) ?_
    exact Kh0 _ _ _ _ (Option.some.inj hF).symm _ _ _ M (lv_sub hl [1, 2, 0] rfl)
set_option maxHeartbeats 4000000 in
set_option maxRecDepth 100000 in
theorem tJx4a65c_clear_da8c8 (l : Launch) (D : va_G) (cy : Nat → ClassId) (ad : Nat → Nat) (A : Nat → Prop) {S S' : MS} {a0 : Nat} (h : fJx4a65c_clear_da8c8 S a0 = some S') : Met l yJx4a65c_clear_da8c8 [Cond.code yJx4a65c_clear_da8c8 cJx4a65c_clear_da8c8 4 (none)] rmJx4a65c_clear_da8c8 (PcR D cy ad A S [.ref (ad a0)]) (QcM D cy ad A (m_n S) S' (none)) 0 0 A := by
  refine met_M (by decide +kernel) cw_Jx4a65c_clear_da8c8 (Nat.le_of_ble_eq_true rfl) ?_
  intro p e s m args below meth c ls C0 M hr hin hl
  have hl : lv_has ls 4 [(0, .ref (ad a0))] := hl
  have key := lim_walk (step := sJx4a65c_clear_da8c8) (fun (q : (Nat × Int32 × Int32 × MS)) (r9 : MS) => ∀ (S' : MS), r9 = S' → ((∀ (y0 : Nat) (y1 : Int32) (y2 : Int32) (S2 : MS), q = (y0, y1, y2, S2) → ∀ (H1 : Heap) (locs1 : List Loc) (ls1 : Array Slot), ST D cy ad A s.heap (ZN (m_n S) s.heap.size) S2 H1 locs1 → lv_has ls1 4 [(1, .ref (ad y0)), (2, .int y1), (3, .int y2)] → W p l e rmJx4a65c_clear_da8c8 s m args below meth c H1 locs1 0 0 (MQ below (QcM D cy ad A (m_n S) S' (none)) args s 0 0 A) (F0 m 27 ls1 [])))) ?_
  · unfold fJx4a65c_clear_da8c8 at h
    cases hs0 : bJx4a65c_clear_da8c8_0 S a0 with
    | none => rw [hs0] at h; cases h
    | some out =>
      rw [hs0] at h
      refine wJx4a65c_clear_da8c8_0 ad A C0 M hr hs0 hl (fun r9 hr9 => ?_) ?_
      · subst hr9; exact Option.some.inj h
      · intro y0 y1 y2 y3 hq; subst hq; exact (key _ _ h _ rfl) _ _ _ _ rfl
  · intro q r9 out hst hre hin9
    intro S' er; subst er
    refine ?_
    · intro y0 y1 y2 y3 hq H1 locs1 ls1 M hl
      subst hq
      exact wJx4a65c_clear_da8c8_27 ad A C0 M hr hst hl hre (fun k0 k1 k2 k3 hk => (hin9 _ hk _ rfl) _ _ _ _ rfl)
set_option maxHeartbeats 4000000 in
set_option maxRecDepth 100000 in
theorem wJ7_copyOfRangeInt_feecc_0 {p : Program} {l : Launch} {e : Env} {s : State} {m : MethodId} {args : Array Value} {below : List Frame} {meth : Method} {c : Code} {D : va_G} {cy : Nat → ClassId} (ad : Nat → Nat) (A : Nat → Prop) {S : MS} {S' : MS} {H : Heap} {locs : List Loc} {K0 : Nat} {r : Nat} {ls : Array Slot} {x0 : Nat} {x1 : Int32} {x2 : Int32} (C0 : CX p s m args meth c RJ7 cJ7_copyOfRangeInt_feecc 5 D cy) (hA : ∀ k, 0 < k → A (ad k)) (hs : ∀ k, K0 ≤ k → ad (k + 1) + 1 = ad (k + 2)) (hE : EX ad A s) (M : ST D cy ad A s.heap (ZA ad K0) S H locs) (hr : meth.sig.returnType = (some (.array .int))) (hF : bJ7_copyOfRangeInt_feecc_0 S x0 x1 x2 = some (r, S')) (hl : lv_has ls 5 [(0, .ref (ad x0)), (1, .int x1), (2, .int x2)]) : W p l e rmJ7_copyOfRangeInt_feecc s m args below meth c H locs 0 0 (MQ below (QcA D cy ad A K0 S' (some (.ref (ad r)))) args s 1 15 A) (F0 m 0 ls []) := by
  unfold bJ7_copyOfRangeInt_feecc_0 at hF
  obtain ⟨hx, hb, -, hown, -, hts, -⟩ := id C0
  refine lv_iload_n hx hb dJ7_copyOfRangeInt_feecc_0 rfl (lv_at hl 1 rfl) ?_
  refine lv_iload_n hx hb dJ7_copyOfRangeInt_feecc_1 rfl (lv_at hl 2 rfl) ?_
  obtain ⟨_, hcl, hF⟩ := ob hF
  refine go_SV (r_S (rest := []) (As := [.int x1, .int x2]) C0 cb_J7_343 (tJ7_checkLength_df160 l D cy ad hcl) (pre_S C0) hl dJ7_copyOfRangeInt_feecc_2 rfl (Nat.le_of_ble_eq_true rfl) ⟨rfl, rfl⟩ ⟨Nat.le_of_ble_eq_true rfl, Nat.le_of_ble_eq_true rfl⟩ ⟨Nat.le_of_ble_eq_true rfl, Nat.le_of_ble_eq_true rfl⟩ rfl) ?_
  refine lv_iload_n hx hb dJ7_copyOfRangeInt_feecc_5 rfl (lv_at hl 2 rfl) ?_
  refine lv_iload_n hx hb dJ7_copyOfRangeInt_feecc_6 rfl (lv_at hl 1 rfl) ?_
  refine lv_isub hx hb dJ7_copyOfRangeInt_feecc_7 ?_
  obtain ⟨v8, hv, hF⟩ := ob hF
  have hv := vtI hv
  refine vtopi hv ?_
  refine lv_istore_n (lv' := [(3, .int v8), (0, .ref (ad x0)), (1, .int x1), (2, .int x2)]) hx hb dJ7_copyOfRangeInt_feecc_8 rfl hl (by decide) rfl (fun ls hl => ?_)
  refine lv_iload_n hx hb dJ7_copyOfRangeInt_feecc_9 rfl (lv_at hl 0 rfl) ?_
  obtain ⟨n10, hn, hF⟩ := ob hF
  obtain ⟨o10, ho, hF⟩ := ob hF
  obtain ⟨S10, hv, hF⟩ := ob hF
  have ho := vtI ho
  have hv := vtI hv
  refine k_newI (atype := .int) (ty := .int) (kd := 12) 0 C0 M hA hs rfl (uw_of 185 (by decide +kernel) rfl) rfl (by decide) rfl rfl hn (Nat.le_of_ble_eq_true rfl) (Nat.le_of_ble_eq_true rfl) (Nat.le_of_ble_eq_true rfl) dJ7_copyOfRangeInt_feecc_10 (fun H M => ?_)
  rw [hv] at M
  rw [ho]
  refine W.widen (k := 1) (n := 15) (Nat.le_of_ble_eq_true rfl) (Nat.le_of_ble_eq_true rfl) ?_
  refine lv_astore (lv' := [(4, .ref (ad o10)), (3, .int v8), (0, .ref (ad x0)), (1, .int x1), (2, .int x2)]) hx hb dJ7_copyOfRangeInt_feecc_12 hl (by decide) rfl (fun ls hl => ?_)
  refine lv_aload_n hx hb dJ7_copyOfRangeInt_feecc_14 rfl (lv_at hl 2 rfl) ?_
  refine lv_iload_n hx hb dJ7_copyOfRangeInt_feecc_15 rfl (lv_at hl 3 rfl) ?_
  refine lv_aload hx hb dJ7_copyOfRangeInt_feecc_16 (lv_at hl 0 rfl) ?_
  refine lv_iconst (v := (0 : Int32)) hx hb dJ7_copyOfRangeInt_feecc_18 (by decide) ?_
  refine lv_aload_n hx hb dJ7_copyOfRangeInt_feecc_19 rfl (lv_at hl 2 rfl) ?_
  obtain ⟨v20, hv, hF⟩ := ob hF
  refine k_ln C0 M.1 hv dJ7_copyOfRangeInt_feecc_20 ?_
  refine lv_iload_n hx hb dJ7_copyOfRangeInt_feecc_21 rfl (lv_at hl 3 rfl) ?_
  refine lv_isub hx hb dJ7_copyOfRangeInt_feecc_22 ?_
  refine lv_iload_n hx hb dJ7_copyOfRangeInt_feecc_23 rfl (lv_at hl 1 rfl) ?_
  obtain ⟨v24, hcl, hF⟩ := ob hF
  refine go_SI (r_S (rest := [.int (0 : Int32), .ref (ad o10), .int x1, .ref (ad x0)]) (As := [.int (v20 - x1), .int v8]) C0 cb_J7_304 (tJ9_min_7cf53 l D cy ad hcl) (pre_S C0) hl dJ7_copyOfRangeInt_feecc_24 rfl (Nat.le_of_ble_eq_true rfl) ⟨rfl, rfl⟩ ⟨Nat.le_of_ble_eq_true rfl, Nat.le_of_ble_eq_true rfl⟩ ⟨Nat.le_of_ble_eq_true rfl, Nat.le_of_ble_eq_true rfl⟩ rfl) ?_
  obtain ⟨S27, hv, hF⟩ := ob hF
  refine k_cpy C0 M hl (uw_of 429 (by decide +kernel) rfl) (uw_of 431 (by decide +kernel) rfl) (uw_of 430 (by decide +kernel) rfl) ini_java_lang_System hv (Nat.le_of_ble_eq_true rfl) (Nat.le_of_ble_eq_true rfl) dJ7_copyOfRangeInt_feecc_27 (fun H locs M => ?_)
  refine lv_aload hx hb dJ7_copyOfRangeInt_feecc_30 (lv_at hl 0 rfl) ?_
  obtain ⟨rfl, rfl⟩ := Prod.mk.inj (Option.some.inj hF)
  exact rt_AP C0 M hr (Or.inr ⟨_, rfl⟩) dJ7_copyOfRangeInt_feecc_32
set_option maxHeartbeats 4000000 in
set_option maxRecDepth 100000 in
theorem tJ7_copyOfRangeInt_feecc (l : Launch) (D : va_G) (cy : Nat → ClassId) (ad : Nat → Nat) (A : Nat → Prop) (K0 : Nat) (hA : ∀ k, 0 < k → A (ad k)) (hs : ∀ k, K0 ≤ k → ad (k + 1) + 1 = ad (k + 2)) {S S' : MS} {a0 : Nat} {a1 : Int32} {a2 : Int32} {r : Nat} (h : fJ7_copyOfRangeInt_feecc S a0 a1 a2 = some (r, S')) : Met l yJ7_copyOfRangeInt_feecc [Cond.code yJ7_copyOfRangeInt_feecc cJ7_copyOfRangeInt_feecc 5 ((some (.array .int)))] rmJ7_copyOfRangeInt_feecc (PcA D cy ad A K0 S [.ref (ad a0), .int a1, .int a2]) (QcA D cy ad A K0 S' (some (.ref (ad r)))) 1 15 A := by
  refine met_A (by decide +kernel) cw_J7_copyOfRangeInt_feecc (Nat.le_of_ble_eq_true rfl) ?_
  intro p e s m args below meth c ls C0 hE M hr hin hl
  have hl : lv_has ls 5 [(0, .ref (ad a0)), (1, .int a1), (2, .int a2)] := hl
  exact wJ7_copyOfRangeInt_feecc_0 ad A C0 hA hs hE M hr h hl
set_option maxHeartbeats 4000000 in
set_option maxRecDepth 100000 in
theorem wJ7_copyOfRange_feecc_10 {p : Program} {l : Launch} {e : Env} {s : State} {m : MethodId} {args : Array Value} {below : List Frame} {meth : Method} {c : Code} {D : va_G} {cy : Nat → ClassId} (ad : Nat → Nat) (A : Nat → Prop) {S : MS} {S' : MS} {H : Heap} {locs : List Loc} {K0 : Nat} {r : Nat} {ls : Array Slot} {x0 : Nat} {x1 : Int32} {x2 : Int32} (C0 : CX p s m args meth c RJ7 cJ7_copyOfRange_feecc 3 D cy) (hA : ∀ k, 0 < k → A (ad k)) (hs : ∀ k, K0 ≤ k → ad (k + 1) + 1 = ad (k + 2)) (hE : EX ad A s) (M : ST D cy ad A s.heap (ZA ad K0) S H locs) (hr : meth.sig.returnType = (some (.array .int))) (hF : bJ7_copyOfRange_feecc_10 S x0 x1 x2 = some (r, S')) (hl : lv_has ls 3 [(0, .ref (ad x0)), (1, .int x1), (2, .int x2)]) : W p l e rmJ7_copyOfRange_feecc s m args below meth c H locs 0 0 (MQ below (QcA D cy ad A K0 S' (some (.ref (ad r)))) args s 1 15 A) (F0 m 10 ls []) := by
  unfold bJ7_copyOfRange_feecc_10 at hF
  obtain ⟨hx, hb, -, hown, -, hts, -⟩ := id C0
  refine lv_aload_n hx hb dJ7_copyOfRange_feecc_10 rfl (lv_at hl 0 rfl) ?_
  refine lv_iload_n hx hb dJ7_copyOfRange_feecc_11 rfl (lv_at hl 1 rfl) ?_
  refine lv_iload_n hx hb dJ7_copyOfRange_feecc_12 rfl (lv_at hl 2 rfl) ?_
  obtain ⟨v13, S13, hcl, hF⟩ := ob2 hF
  refine go_AP (r_S (rest := []) (As := [.ref (ad x0), .int x1, .int x2]) C0 cb_J7_351 (tJ7_copyOfRangeInt_feecc l D cy ad A K0 hA hs hcl) (pre_A C0 hE M) hl dJ7_copyOfRange_feecc_13 rfl (Nat.le_of_ble_eq_true rfl) ⟨rfl, rfl⟩ ⟨Nat.le_of_ble_eq_true rfl, Nat.le_of_ble_eq_true rfl⟩ ⟨Nat.le_of_ble_eq_true rfl, Nat.le_of_ble_eq_true rfl⟩ rfl) M (fun H locs M => ?_)
  refine W.widen (k := 1) (n := 15) (Nat.le_of_ble_eq_true rfl) (Nat.le_of_ble_eq_true rfl) ?_
  obtain ⟨rfl, rfl⟩ := Prod.mk.inj (Option.some.inj hF)
  exact rt_AP C0 M hr (Or.inr ⟨_, rfl⟩) dJ7_copyOfRange_feecc_16
set_option maxHeartbeats 4000000 in
set_option maxRecDepth 100000 in
theorem wJ7_copyOfRange_feecc_0 {p : Program} {l : Launch} {e : Env} {s : State} {m : MethodId} {args : Array Value} {below : List Frame} {meth : Method} {c : Code} {D : va_G} {cy : Nat → ClassId} (ad : Nat → Nat) (A : Nat → Prop) {S : MS} {S' : MS} {H : Heap} {locs : List Loc} {K0 : Nat} {r : Nat} {ls : Array Slot} {x0 : Nat} {x1 : Int32} {x2 : Int32} (C0 : CX p s m args meth c RJ7 cJ7_copyOfRange_feecc 3 D cy) (hA : ∀ k, 0 < k → A (ad k)) (hs : ∀ k, K0 ≤ k → ad (k + 1) + 1 = ad (k + 2)) (hE : EX ad A s) (M : ST D cy ad A s.heap (ZA ad K0) S H locs) (hr : meth.sig.returnType = (some (.array .int))) (hF : bJ7_copyOfRange_feecc_0 S x0 x1 x2 = some (r, S')) (hl : lv_has ls 3 [(0, .ref (ad x0)), (1, .int x1), (2, .int x2)]) : W p l e rmJ7_copyOfRange_feecc s m args below meth c H locs 0 0 (MQ below (QcA D cy ad A K0 S' (some (.ref (ad r)))) args s 1 15 A) (F0 m 0 ls []) := by
  unfold bJ7_copyOfRange_feecc_0 at hF
  obtain ⟨hx, hb, -, hown, -, hts, -⟩ := id C0
  refine lv_iload_n hx hb dJ7_copyOfRange_feecc_0 rfl (lv_at hl 1 rfl) ?_
  refine lv_if_ne (tgt := 10) hx hb dJ7_copyOfRange_feecc_1 (by decide) (fun hc => ?_) (fun hc => ?_)
  · have hF := oi_f hc hF
    exact wJ7_copyOfRange_feecc_10 ad A C0 hA hs hE M hr hF (lv_sub hl [0, 1, 2] rfl)
  · have hF := oi_t hc hF
    refine lv_iload_n hx hb dJ7_copyOfRange_feecc_4 rfl (lv_at hl 2 rfl) ?_
    refine lv_aload_n hx hb dJ7_copyOfRange_feecc_5 rfl (lv_at hl 0 rfl) ?_
    obtain ⟨v6, hv, hF⟩ := ob hF
    refine k_ln C0 M.1 hv dJ7_copyOfRange_feecc_6 ?_
    refine lv_icmp_eq (tgt := 17) hx hb dJ7_copyOfRange_feecc_7 (by decide) (fun hc => ?_) (fun hc => ?_)
    · have hF := oi_t hc hF
      cases hF
    · have hF := oi_f hc hF
      exact wJ7_copyOfRange_feecc_10 ad A C0 hA hs hE M hr hF (lv_sub hl [0, 1, 2] rfl)
set_option maxHeartbeats 4000000 in
set_option maxRecDepth 100000 in
theorem tJ7_copyOfRange_feecc (l : Launch) (D : va_G) (cy : Nat → ClassId) (ad : Nat → Nat) (A : Nat → Prop) (K0 : Nat) (hA : ∀ k, 0 < k → A (ad k)) (hs : ∀ k, K0 ≤ k → ad (k + 1) + 1 = ad (k + 2)) {S S' : MS} {a0 : Nat} {a1 : Int32} {a2 : Int32} {r : Nat} (h : fJ7_copyOfRange_feecc S a0 a1 a2 = some (r, S')) : Met l yJ7_copyOfRange_feecc [Cond.code yJ7_copyOfRange_feecc cJ7_copyOfRange_feecc 3 ((some (.array .int)))] rmJ7_copyOfRange_feecc (PcA D cy ad A K0 S [.ref (ad a0), .int a1, .int a2]) (QcA D cy ad A K0 S' (some (.ref (ad r)))) 1 15 A := by
  refine met_A (by decide +kernel) cw_J7_copyOfRange_feecc (Nat.le_of_ble_eq_true rfl) ?_
  intro p e s m args below meth c ls C0 hE M hr hin hl
  have hl : lv_has ls 3 [(0, .ref (ad a0)), (1, .int a1), (2, .int a2)] := hl
  exact wJ7_copyOfRange_feecc_0 ad A C0 hA hs hE M hr h hl
